theorem dX12_isIn_0 : decode cX12_isIn 0 = .ok (.iload_n 0, 1) := by decide +kernel
theorem dX12_isIn_1 : decode cX12_isIn 1 = .ok (.iload_n 1, 1) := by decide +kernel
theorem dX12_isIn_2 : decode cX12_isIn 2 = .ok (.if_icmp .lt 12, 3) := by decide +kernel
theorem dX12_isIn_5 : decode cX12_isIn 5 = .ok (.iload_n 0, 1) := by decide +kernel
theorem dX12_isIn_6 : decode cX12_isIn 6 = .ok (.iload_n 2, 1) := by decide +kernel
theorem dX12_isIn_7 : decode cX12_isIn 7 = .ok (.if_icmp .gt 7, 3) := by decide +kernel
theorem dX12_isIn_10 : decode cX12_isIn 10 = .ok (.iconst 1, 1) := by decide +kernel
theorem dX12_isIn_11 : decode cX12_isIn 11 = .ok (.goto 4, 3) := by decide +kernel
theorem dX12_isIn_14 : decode cX12_isIn 14 = .ok (.iconst 0, 1) := by decide +kernel
theorem dX12_isIn_15 : decode cX12_isIn 15 = .ok (.ireturn, 1) := by decide +kernel
theorem dX12_init_0 : decode cX12_init 0 = .ok (.aload_n 0, 1) := by decide +kernel
theorem dX12_init_1 : decode cX12_init 1 = .ok (.invokespecial 1, 3) := by decide +kernel
theorem dX12_init_4 : decode cX12_init 4 = .ok (.aload_n 0, 1) := by decide +kernel
theorem dX12_init_5 : decode cX12_init 5 = .ok (.sipush 1000, 3) := by decide +kernel
theorem dX12_init_8 : decode cX12_init 8 = .ok (.newarray .int, 2) := by decide +kernel
theorem dX12_init_10 : decode cX12_init 10 = .ok (.putfield 7, 3) := by decide +kernel
theorem dX12_init_13 : decode cX12_init 13 = .ok (.aload_n 0, 1) := by decide +kernel
theorem dX12_init_14 : decode cX12_init 14 = .ok (.iconst 0, 1) := by decide +kernel
theorem dX12_init_15 : decode cX12_init 15 = .ok (.putfield 13, 3) := by decide +kernel
theorem dX12_init_18 : decode cX12_init 18 = .ok (.aload_n 0, 1) := by decide +kernel
theorem dX12_init_19 : decode cX12_init 19 = .ok (.iconst 5, 1) := by decide +kernel
theorem dX12_init_20 : decode cX12_init 20 = .ok (.newarray .int, 2) := by decide +kernel
theorem dX12_init_22 : decode cX12_init 22 = .ok (.putfield 17, 3) := by decide +kernel
theorem dX12_init_25 : decode cX12_init 25 = .ok (.aload_n 0, 1) := by decide +kernel
theorem dX12_init_26 : decode cX12_init 26 = .ok (.iconst 0, 1) := by decide +kernel
theorem dX12_init_27 : decode cX12_init 27 = .ok (.putfield 20, 3) := by decide +kernel
theorem dX12_init_30 : decode cX12_init 30 = .ok (.aload_n 0, 1) := by decide +kernel
theorem dX12_init_31 : decode cX12_init 31 = .ok (.iconst (-1), 1) := by decide +kernel
theorem dX12_init_32 : decode cX12_init 32 = .ok (.putfield 23, 3) := by decide +kernel
theorem dX12_init_35 : decode cX12_init 35 = .ok (.aload_n 0, 1) := by decide +kernel
theorem dX12_init_36 : decode cX12_init 36 = .ok (.iconst 0, 1) := by decide +kernel
theorem dX12_init_37 : decode cX12_init 37 = .ok (.putfield 26, 3) := by decide +kernel
theorem dX12_init_40 : decode cX12_init 40 = .ok (.aload_n 0, 1) := by decide +kernel
theorem dX12_init_41 : decode cX12_init 41 = .ok (.iconst 0, 1) := by decide +kernel
theorem dX12_init_42 : decode cX12_init 42 = .ok (.putfield 29, 3) := by decide +kernel
theorem dX12_init_45 : decode cX12_init 45 = .ok (.aload_n 0, 1) := by decide +kernel
theorem dX12_init_46 : decode cX12_init 46 = .ok (.iconst 0, 1) := by decide +kernel
theorem dX12_init_47 : decode cX12_init 47 = .ok (.putfield 32, 3) := by decide +kernel
theorem dX12_init_50 : decode cX12_init 50 = .ok (.aload_n 0, 1) := by decide +kernel
theorem dX12_init_51 : decode cX12_init 51 = .ok (.iconst 0, 1) := by decide +kernel
theorem dX12_init_52 : decode cX12_init 52 = .ok (.putfield 35, 3) := by decide +kernel
theorem dX12_init_55 : decode cX12_init 55 = .ok (.aload_n 0, 1) := by decide +kernel
theorem dX12_init_56 : decode cX12_init 56 = .ok (.iconst (-1), 1) := by decide +kernel
theorem dX12_init_57 : decode cX12_init 57 = .ok (.putfield 38, 3) := by decide +kernel
theorem dX12_init_60 : decode cX12_init 60 = .ok (.aload_n 0, 1) := by decide +kernel
theorem dX12_init_61 : decode cX12_init 61 = .ok (.bipush 7, 2) := by decide +kernel
theorem dX12_init_63 : decode cX12_init 63 = .ok (.putfield 41, 3) := by decide +kernel
theorem dX12_init_66 : decode cX12_init 66 = .ok (.aload_n 0, 1) := by decide +kernel
theorem dX12_init_67 : decode cX12_init 67 = .ok (.sipush 6000, 3) := by decide +kernel
theorem dX12_init_70 : decode cX12_init 70 = .ok (.newarray .int, 2) := by decide +kernel
theorem dX12_init_72 : decode cX12_init 72 = .ok (.putfield 44, 3) := by decide +kernel
theorem dX12_init_75 : decode cX12_init 75 = .ok (.aload_n 0, 1) := by decide +kernel
theorem dX12_init_76 : decode cX12_init 76 = .ok (.bipush 81, 2) := by decide +kernel
theorem dX12_init_78 : decode cX12_init 78 = .ok (.newarray .long, 2) := by decide +kernel
theorem dX12_init_80 : decode cX12_init 80 = .ok (.putfield 47, 3) := by decide +kernel
theorem dX12_init_83 : decode cX12_init 83 = .ok (.aload_n 0, 1) := by decide +kernel
theorem dX12_init_84 : decode cX12_init 84 = .ok (.iconst 0, 1) := by decide +kernel
theorem dX12_init_85 : decode cX12_init 85 = .ok (.putfield 51, 3) := by decide +kernel
theorem dX12_init_88 : decode cX12_init 88 = .ok (.aload_n 0, 1) := by decide +kernel
theorem dX12_init_89 : decode cX12_init 89 = .ok (.bipush 12, 2) := by decide +kernel
theorem dX12_init_91 : decode cX12_init 91 = .ok (.newarray .int, 2) := by decide +kernel
theorem dX12_init_93 : decode cX12_init 93 = .ok (.putfield 54, 3) := by decide +kernel
theorem dX12_init_96 : decode cX12_init 96 = .ok (.aload_n 0, 1) := by decide +kernel
theorem dX12_init_97 : decode cX12_init 97 = .ok (.iconst 0, 1) := by decide +kernel
theorem dX12_init_98 : decode cX12_init 98 = .ok (.putfield 57, 3) := by decide +kernel
theorem dX12_init_101 : decode cX12_init 101 = .ok (.aload_n 0, 1) := by decide +kernel
theorem dX12_init_102 : decode cX12_init 102 = .ok (.bipush 41, 2) := by decide +kernel
theorem dX12_init_104 : decode cX12_init 104 = .ok (.newarray .int, 2) := by decide +kernel
theorem dX12_init_106 : decode cX12_init 106 = .ok (.putfield 60, 3) := by decide +kernel
theorem dX12_init_109 : decode cX12_init 109 = .ok (.aload_n 0, 1) := by decide +kernel
theorem dX12_init_110 : decode cX12_init 110 = .ok (.bipush 41, 2) := by decide +kernel
theorem dX12_init_112 : decode cX12_init 112 = .ok (.newarray .int, 2) := by decide +kernel
theorem dX12_init_114 : decode cX12_init 114 = .ok (.putfield 63, 3) := by decide +kernel
theorem dX12_init_117 : decode cX12_init 117 = .ok (.aload_n 0, 1) := by decide +kernel
theorem dX12_init_118 : decode cX12_init 118 = .ok (.bipush 41, 2) := by decide +kernel
theorem dX12_init_120 : decode cX12_init 120 = .ok (.newarray .int, 2) := by decide +kernel
theorem dX12_init_122 : decode cX12_init 122 = .ok (.putfield 66, 3) := by decide +kernel
theorem dX12_init_125 : decode cX12_init 125 = .ok (.aload_n 0, 1) := by decide +kernel
theorem dX12_init_126 : decode cX12_init 126 = .ok (.iconst 0, 1) := by decide +kernel
theorem dX12_init_127 : decode cX12_init 127 = .ok (.putfield 69, 3) := by decide +kernel
theorem dX12_init_130 : decode cX12_init 130 = .ok (.aload_n 0, 1) := by decide +kernel
theorem dX12_init_131 : decode cX12_init 131 = .ok (.bipush 6, 2) := by decide +kernel
theorem dX12_init_133 : decode cX12_init 133 = .ok (.newarray .int, 2) := by decide +kernel
theorem dX12_init_135 : decode cX12_init 135 = .ok (.putfield 72, 3) := by decide +kernel
theorem dX12_init_138 : decode cX12_init 138 = .ok (.aload_n 0, 1) := by decide +kernel
theorem dX12_init_139 : decode cX12_init 139 = .ok (.ldc 75, 2) := by decide +kernel
theorem dX12_init_141 : decode cX12_init 141 = .ok (.newarray .int, 2) := by decide +kernel
theorem dX12_init_143 : decode cX12_init 143 = .ok (.putfield 76, 3) := by decide +kernel
theorem dX12_init_146 : decode cX12_init 146 = .ok (.aload_n 0, 1) := by decide +kernel
theorem dX12_init_147 : decode cX12_init 147 = .ok (.sipush 325, 3) := by decide +kernel
theorem dX12_init_150 : decode cX12_init 150 = .ok (.newarray .int, 2) := by decide +kernel
theorem dX12_init_152 : decode cX12_init 152 = .ok (.putfield 79, 3) := by decide +kernel
theorem dX12_init_155 : decode cX12_init 155 = .ok (.aload_n 0, 1) := by decide +kernel
theorem dX12_init_156 : decode cX12_init 156 = .ok (.iconst 0, 1) := by decide +kernel
theorem dX12_init_157 : decode cX12_init 157 = .ok (.putfield 82, 3) := by decide +kernel
theorem dX12_init_160 : decode cX12_init 160 = .ok (.aload_n 0, 1) := by decide +kernel
theorem dX12_init_161 : decode cX12_init 161 = .ok (.iconst 0, 1) := by decide +kernel
theorem dX12_init_162 : decode cX12_init 162 = .ok (.putfield 85, 3) := by decide +kernel
theorem dX12_init_165 : decode cX12_init 165 = .ok (.aload_n 0, 1) := by decide +kernel
theorem dX12_init_166 : decode cX12_init 166 = .ok (.sipush 325, 3) := by decide +kernel
theorem dX12_init_169 : decode cX12_init 169 = .ok (.newarray .int, 2) := by decide +kernel
theorem dX12_init_171 : decode cX12_init 171 = .ok (.putfield 88, 3) := by decide +kernel
theorem dX12_init_174 : decode cX12_init 174 = .ok (.aload_n 0, 1) := by decide +kernel
theorem dX12_init_175 : decode cX12_init 175 = .ok (.iconst 0, 1) := by decide +kernel
theorem dX12_init_176 : decode cX12_init 176 = .ok (.putfield 91, 3) := by decide +kernel
theorem dX12_init_179 : decode cX12_init 179 = .ok (.aload_n 0, 1) := by decide +kernel
theorem dX12_init_180 : decode cX12_init 180 = .ok (.bipush 30, 2) := by decide +kernel
theorem dX12_init_182 : decode cX12_init 182 = .ok (.newarray .int, 2) := by decide +kernel
theorem dX12_init_184 : decode cX12_init 184 = .ok (.putfield 94, 3) := by decide +kernel
theorem dX12_init_187 : decode cX12_init 187 = .ok (.aload_n 0, 1) := by decide +kernel
theorem dX12_init_188 : decode cX12_init 188 = .ok (.sipush 1350, 3) := by decide +kernel
theorem dX12_init_191 : decode cX12_init 191 = .ok (.newarray .int, 2) := by decide +kernel
theorem dX12_init_193 : decode cX12_init 193 = .ok (.putfield 97, 3) := by decide +kernel
theorem dX12_init_196 : decode cX12_init 196 = .ok (.aload_n 0, 1) := by decide +kernel
theorem dX12_init_197 : decode cX12_init 197 = .ok (.bipush 30, 2) := by decide +kernel
theorem dX12_init_199 : decode cX12_init 199 = .ok (.newarray .int, 2) := by decide +kernel
theorem dX12_init_201 : decode cX12_init 201 = .ok (.putfield 100, 3) := by decide +kernel
theorem dX12_init_204 : decode cX12_init 204 = .ok (.aload_n 0, 1) := by decide +kernel
theorem dX12_init_205 : decode cX12_init 205 = .ok (.sipush 289, 3) := by decide +kernel
theorem dX12_init_208 : decode cX12_init 208 = .ok (.newarray .int, 2) := by decide +kernel
theorem dX12_init_210 : decode cX12_init 210 = .ok (.putfield 103, 3) := by decide +kernel
theorem dX12_init_213 : decode cX12_init 213 = .ok (.aload_n 0, 1) := by decide +kernel
theorem dX12_init_214 : decode cX12_init 214 = .ok (.sipush 289, 3) := by decide +kernel
theorem dX12_init_217 : decode cX12_init 217 = .ok (.newarray .int, 2) := by decide +kernel
theorem dX12_init_219 : decode cX12_init 219 = .ok (.putfield 106, 3) := by decide +kernel
theorem dX12_init_222 : decode cX12_init 222 = .ok (.aload_n 0, 1) := by decide +kernel
theorem dX12_init_223 : decode cX12_init 223 = .ok (.iconst 4, 1) := by decide +kernel
theorem dX12_init_224 : decode cX12_init 224 = .ok (.newarray .int, 2) := by decide +kernel
theorem dX12_init_226 : decode cX12_init 226 = .ok (.putfield 109, 3) := by decide +kernel
theorem dX12_init_229 : decode cX12_init 229 = .ok (.aload_n 0, 1) := by decide +kernel
theorem dX12_init_230 : decode cX12_init 230 = .ok (.iconst 0, 1) := by decide +kernel
theorem dX12_init_231 : decode cX12_init 231 = .ok (.putfield 112, 3) := by decide +kernel
theorem dX12_init_234 : decode cX12_init 234 = .ok (.aload_n 0, 1) := by decide +kernel
theorem dX12_init_235 : decode cX12_init 235 = .ok (.sipush 4000, 3) := by decide +kernel
theorem dX12_init_238 : decode cX12_init 238 = .ok (.newarray .int, 2) := by decide +kernel
theorem dX12_init_240 : decode cX12_init 240 = .ok (.putfield 115, 3) := by decide +kernel
theorem dX12_init_243 : decode cX12_init 243 = .ok (.aload_n 0, 1) := by decide +kernel
theorem dX12_init_244 : decode cX12_init 244 = .ok (.iconst 0, 1) := by decide +kernel
theorem dX12_init_245 : decode cX12_init 245 = .ok (.putfield 118, 3) := by decide +kernel
theorem dX12_init_248 : decode cX12_init 248 = .ok (.aload_n 0, 1) := by decide +kernel
theorem dX12_init_249 : decode cX12_init 249 = .ok (.sipush 3140, 3) := by decide +kernel
theorem dX12_init_252 : decode cX12_init 252 = .ok (.newarray .int, 2) := by decide +kernel
theorem dX12_init_254 : decode cX12_init 254 = .ok (.putfield 121, 3) := by decide +kernel
theorem dX12_init_257 : decode cX12_init 257 = .ok (.aload_n 0, 1) := by decide +kernel
theorem dX12_init_258 : decode cX12_init 258 = .ok (.bipush 7, 2) := by decide +kernel
theorem dX12_init_260 : decode cX12_init 260 = .ok (.putfield 41, 3) := by decide +kernel
theorem dX12_init_263 : decode cX12_init 263 = .ok (.return_, 1) := by decide +kernel
theorem dX12_refuses_0 : decode cX12_refuses 0 = .ok (.aload_n 0, 1) := by decide +kernel
theorem dX12_refuses_1 : decode cX12_refuses 1 = .ok (.getfield 17, 3) := by decide +kernel
theorem dX12_refuses_4 : decode cX12_refuses 4 = .ok (.iload_n 1, 1) := by decide +kernel
theorem dX12_refuses_5 : decode cX12_refuses 5 = .ok (.dup2, 1) := by decide +kernel
theorem dX12_refuses_6 : decode cX12_refuses 6 = .ok (.iaload, 1) := by decide +kernel
theorem dX12_refuses_7 : decode cX12_refuses 7 = .ok (.iconst 1, 1) := by decide +kernel
theorem dX12_refuses_8 : decode cX12_refuses 8 = .ok (.iadd, 1) := by decide +kernel
theorem dX12_refuses_9 : decode cX12_refuses 9 = .ok (.iastore, 1) := by decide +kernel
theorem dX12_refuses_10 : decode cX12_refuses 10 = .ok (.iconst (-1), 1) := by decide +kernel
theorem dX12_refuses_11 : decode cX12_refuses 11 = .ok (.ireturn, 1) := by decide +kernel
theorem dX12_isRefused_0 : decode cX12_isRefused 0 = .ok (.aload_n 0, 1) := by decide +kernel
theorem dX12_isRefused_1 : decode cX12_isRefused 1 = .ok (.getfield 17, 3) := by decide +kernel
theorem dX12_isRefused_4 : decode cX12_isRefused 4 = .ok (.iload_n 1, 1) := by decide +kernel
theorem dX12_isRefused_5 : decode cX12_isRefused 5 = .ok (.dup2, 1) := by decide +kernel
theorem dX12_isRefused_6 : decode cX12_isRefused 6 = .ok (.iaload, 1) := by decide +kernel
theorem dX12_isRefused_7 : decode cX12_isRefused 7 = .ok (.iconst 1, 1) := by decide +kernel
theorem dX12_isRefused_8 : decode cX12_isRefused 8 = .ok (.iadd, 1) := by decide +kernel
theorem dX12_isRefused_9 : decode cX12_isRefused 9 = .ok (.iastore, 1) := by decide +kernel
theorem dX12_isRefused_10 : decode cX12_isRefused 10 = .ok (.iconst 0, 1) := by decide +kernel
theorem dX12_isRefused_11 : decode cX12_isRefused 11 = .ok (.ireturn, 1) := by decide +kernel
theorem dX12_lays_0 : decode cX12_lays 0 = .ok (.iconst 0, 1) := by decide +kernel
theorem dX12_lays_1 : decode cX12_lays 1 = .ok (.istore_n 2, 1) := by decide +kernel
theorem dX12_lays_2 : decode cX12_lays 2 = .ok (.iload_n 2, 1) := by decide +kernel
theorem dX12_lays_3 : decode cX12_lays 3 = .ok (.iconst 4, 1) := by decide +kernel
theorem dX12_lays_4 : decode cX12_lays 4 = .ok (.if_icmp .ge 33, 3) := by decide +kernel
theorem dX12_lays_7 : decode cX12_lays 7 = .ok (.aload_n 0, 1) := by decide +kernel
theorem dX12_lays_8 : decode cX12_lays 8 = .ok (.getfield 7, 3) := by decide +kernel
theorem dX12_lays_11 : decode cX12_lays 11 = .ok (.aload_n 0, 1) := by decide +kernel
theorem dX12_lays_12 : decode cX12_lays 12 = .ok (.getfield 13, 3) := by decide +kernel
theorem dX12_lays_15 : decode cX12_lays 15 = .ok (.iload_n 2, 1) := by decide +kernel
theorem dX12_lays_16 : decode cX12_lays 16 = .ok (.iadd, 1) := by decide +kernel
theorem dX12_lays_17 : decode cX12_lays 17 = .ok (.iload_n 1, 1) := by decide +kernel
theorem dX12_lays_18 : decode cX12_lays 18 = .ok (.bipush 24, 2) := by decide +kernel
theorem dX12_lays_20 : decode cX12_lays 20 = .ok (.bipush 8, 2) := by decide +kernel
theorem dX12_lays_22 : decode cX12_lays 22 = .ok (.iload_n 2, 1) := by decide +kernel
theorem dX12_lays_23 : decode cX12_lays 23 = .ok (.imul, 1) := by decide +kernel
theorem dX12_lays_24 : decode cX12_lays 24 = .ok (.isub, 1) := by decide +kernel
theorem dX12_lays_25 : decode cX12_lays 25 = .ok (.ishr, 1) := by decide +kernel
theorem dX12_lays_26 : decode cX12_lays 26 = .ok (.sipush 255, 3) := by decide +kernel
theorem dX12_lays_29 : decode cX12_lays 29 = .ok (.iand, 1) := by decide +kernel
theorem dX12_lays_30 : decode cX12_lays 30 = .ok (.iastore, 1) := by decide +kernel
theorem dX12_lays_31 : decode cX12_lays 31 = .ok (.iinc 2 1, 3) := by decide +kernel
theorem dX12_lays_34 : decode cX12_lays 34 = .ok (.goto (-32), 3) := by decide +kernel
theorem dX12_lays_37 : decode cX12_lays 37 = .ok (.aload_n 0, 1) := by decide +kernel
theorem dX12_lays_38 : decode cX12_lays 38 = .ok (.dup, 1) := by decide +kernel
theorem dX12_lays_39 : decode cX12_lays 39 = .ok (.getfield 13, 3) := by decide +kernel
theorem dX12_lays_42 : decode cX12_lays 42 = .ok (.iconst 4, 1) := by decide +kernel
theorem dX12_lays_43 : decode cX12_lays 43 = .ok (.iadd, 1) := by decide +kernel
theorem dX12_lays_44 : decode cX12_lays 44 = .ok (.putfield 13, 3) := by decide +kernel
theorem dX12_lays_47 : decode cX12_lays 47 = .ok (.return_, 1) := by decide +kernel
theorem dX12_feed_0 : decode cX12_feed 0 = .ok (.aload_n 0, 1) := by decide +kernel
theorem dX12_feed_1 : decode cX12_feed 1 = .ok (.getfield 13, 3) := by decide +kernel
theorem dX12_feed_4 : decode cX12_feed 4 = .ok (.bipush 20, 2) := by decide +kernel
theorem dX12_feed_6 : decode cX12_feed 6 = .ok (.iadd, 1) := by decide +kernel
theorem dX12_feed_7 : decode cX12_feed 7 = .ok (.sipush 1000, 3) := by decide +kernel
theorem dX12_feed_10 : decode cX12_feed 10 = .ok (.if_icmp .le 9, 3) := by decide +kernel
theorem dX12_feed_13 : decode cX12_feed 13 = .ok (.aload_n 0, 1) := by decide +kernel
theorem dX12_feed_14 : decode cX12_feed 14 = .ok (.iconst 0, 1) := by decide +kernel
theorem dX12_feed_15 : decode cX12_feed 15 = .ok (.invokevirtual 124, 3) := by decide +kernel
theorem dX12_feed_18 : decode cX12_feed 18 = .ok (.ireturn, 1) := by decide +kernel
theorem dX12_feed_19 : decode cX12_feed 19 = .ok (.aload_n 0, 1) := by decide +kernel
theorem dX12_feed_20 : decode cX12_feed 20 = .ok (.iload_n 1, 1) := by decide +kernel
theorem dX12_feed_21 : decode cX12_feed 21 = .ok (.invokevirtual 128, 3) := by decide +kernel
theorem dX12_feed_24 : decode cX12_feed 24 = .ok (.aload_n 0, 1) := by decide +kernel
theorem dX12_feed_25 : decode cX12_feed 25 = .ok (.iload_n 2, 1) := by decide +kernel
theorem dX12_feed_26 : decode cX12_feed 26 = .ok (.invokevirtual 128, 3) := by decide +kernel
theorem dX12_feed_29 : decode cX12_feed 29 = .ok (.aload_n 0, 1) := by decide +kernel
theorem dX12_feed_30 : decode cX12_feed 30 = .ok (.iload_n 3, 1) := by decide +kernel
theorem dX12_feed_31 : decode cX12_feed 31 = .ok (.invokevirtual 128, 3) := by decide +kernel
theorem dX12_feed_34 : decode cX12_feed 34 = .ok (.aload_n 0, 1) := by decide +kernel
theorem dX12_feed_35 : decode cX12_feed 35 = .ok (.iload 4, 2) := by decide +kernel
theorem dX12_feed_37 : decode cX12_feed 37 = .ok (.invokevirtual 128, 3) := by decide +kernel
theorem dX12_feed_40 : decode cX12_feed 40 = .ok (.aload_n 0, 1) := by decide +kernel
theorem dX12_feed_41 : decode cX12_feed 41 = .ok (.iload 5, 2) := by decide +kernel
theorem dX12_feed_43 : decode cX12_feed 43 = .ok (.invokevirtual 128, 3) := by decide +kernel
theorem dX12_feed_46 : decode cX12_feed 46 = .ok (.aload_n 0, 1) := by decide +kernel
theorem dX12_feed_47 : decode cX12_feed 47 = .ok (.getfield 13, 3) := by decide +kernel
theorem dX12_feed_50 : decode cX12_feed 50 = .ok (.ireturn, 1) := by decide +kernel
theorem dX12_end_0 : decode cX12_end 0 = .ok (.iload_n 1, 1) := by decide +kernel
theorem dX12_end_1 : decode cX12_end 1 = .ok (.ifCond .lt 11, 3) := by decide +kernel
theorem dX12_end_4 : decode cX12_end 4 = .ok (.iload_n 1, 1) := by decide +kernel
theorem dX12_end_5 : decode cX12_end 5 = .ok (.aload_n 0, 1) := by decide +kernel
theorem dX12_end_6 : decode cX12_end 6 = .ok (.getfield 13, 3) := by decide +kernel
theorem dX12_end_9 : decode cX12_end 9 = .ok (.if_icmp .le 9, 3) := by decide +kernel
theorem dX12_end_12 : decode cX12_end 12 = .ok (.aload_n 0, 1) := by decide +kernel
theorem dX12_end_13 : decode cX12_end 13 = .ok (.iconst 0, 1) := by decide +kernel
theorem dX12_end_14 : decode cX12_end 14 = .ok (.invokevirtual 132, 3) := by decide +kernel
theorem dX12_end_17 : decode cX12_end 17 = .ok (.ireturn, 1) := by decide +kernel
theorem dX12_end_18 : decode cX12_end 18 = .ok (.aload_n 0, 1) := by decide +kernel
theorem dX12_end_19 : decode cX12_end 19 = .ok (.iload_n 1, 1) := by decide +kernel
theorem dX12_end_20 : decode cX12_end 20 = .ok (.putfield 13, 3) := by decide +kernel
theorem dX12_end_23 : decode cX12_end 23 = .ok (.iconst 1, 1) := by decide +kernel
theorem dX12_end_24 : decode cX12_end 24 = .ok (.ireturn, 1) := by decide +kernel
theorem dX12_byteAt_0 : decode cX12_byteAt 0 = .ok (.iload_n 1, 1) := by decide +kernel
theorem dX12_byteAt_1 : decode cX12_byteAt 1 = .ok (.ifCond .lt 20, 3) := by decide +kernel
theorem dX12_byteAt_4 : decode cX12_byteAt 4 = .ok (.iload_n 1, 1) := by decide +kernel
theorem dX12_byteAt_5 : decode cX12_byteAt 5 = .ok (.aload_n 0, 1) := by decide +kernel
theorem dX12_byteAt_6 : decode cX12_byteAt 6 = .ok (.getfield 26, 3) := by decide +kernel
theorem dX12_byteAt_9 : decode cX12_byteAt 9 = .ok (.if_icmp .ge 12, 3) := by decide +kernel
theorem dX12_byteAt_12 : decode cX12_byteAt 12 = .ok (.aload_n 0, 1) := by decide +kernel
theorem dX12_byteAt_13 : decode cX12_byteAt 13 = .ok (.getfield 7, 3) := by decide +kernel
theorem dX12_byteAt_16 : decode cX12_byteAt 16 = .ok (.iload_n 1, 1) := by decide +kernel
theorem dX12_byteAt_17 : decode cX12_byteAt 17 = .ok (.iaload, 1) := by decide +kernel
theorem dX12_byteAt_18 : decode cX12_byteAt 18 = .ok (.goto 4, 3) := by decide +kernel
theorem dX12_byteAt_21 : decode cX12_byteAt 21 = .ok (.iconst (-1), 1) := by decide +kernel
theorem dX12_byteAt_22 : decode cX12_byteAt 22 = .ok (.ireturn, 1) := by decide +kernel
theorem dX12_isSmall_0 : decode cX12_isSmall 0 = .ok (.aload_n 0, 1) := by decide +kernel
theorem dX12_isSmall_1 : decode cX12_isSmall 1 = .ok (.iload_n 1, 1) := by decide +kernel
theorem dX12_isSmall_2 : decode cX12_isSmall 2 = .ok (.invokevirtual 136, 3) := by decide +kernel
theorem dX12_isSmall_5 : decode cX12_isSmall 5 = .ok (.bipush 97, 2) := by decide +kernel
theorem dX12_isSmall_7 : decode cX12_isSmall 7 = .ok (.if_icmp .lt 17, 3) := by decide +kernel
theorem dX12_isSmall_10 : decode cX12_isSmall 10 = .ok (.aload_n 0, 1) := by decide +kernel
theorem dX12_isSmall_11 : decode cX12_isSmall 11 = .ok (.iload_n 1, 1) := by decide +kernel
theorem dX12_isSmall_12 : decode cX12_isSmall 12 = .ok (.invokevirtual 136, 3) := by decide +kernel
theorem dX12_isSmall_15 : decode cX12_isSmall 15 = .ok (.bipush 122, 2) := by decide +kernel
theorem dX12_isSmall_17 : decode cX12_isSmall 17 = .ok (.if_icmp .gt 7, 3) := by decide +kernel
theorem dX12_isSmall_20 : decode cX12_isSmall 20 = .ok (.iconst 1, 1) := by decide +kernel
theorem dX12_isSmall_21 : decode cX12_isSmall 21 = .ok (.goto 4, 3) := by decide +kernel
theorem dX12_isSmall_24 : decode cX12_isSmall 24 = .ok (.iconst 0, 1) := by decide +kernel
theorem dX12_isSmall_25 : decode cX12_isSmall 25 = .ok (.ireturn, 1) := by decide +kernel
theorem dX12_isDigit_0 : decode cX12_isDigit 0 = .ok (.aload_n 0, 1) := by decide +kernel
theorem dX12_isDigit_1 : decode cX12_isDigit 1 = .ok (.iload_n 1, 1) := by decide +kernel
theorem dX12_isDigit_2 : decode cX12_isDigit 2 = .ok (.invokevirtual 136, 3) := by decide +kernel
theorem dX12_isDigit_5 : decode cX12_isDigit 5 = .ok (.bipush 48, 2) := by decide +kernel
theorem dX12_isDigit_7 : decode cX12_isDigit 7 = .ok (.if_icmp .lt 17, 3) := by decide +kernel
theorem dX12_isDigit_10 : decode cX12_isDigit 10 = .ok (.aload_n 0, 1) := by decide +kernel
theorem dX12_isDigit_11 : decode cX12_isDigit 11 = .ok (.iload_n 1, 1) := by decide +kernel
theorem dX12_isDigit_12 : decode cX12_isDigit 12 = .ok (.invokevirtual 136, 3) := by decide +kernel
theorem dX12_isDigit_15 : decode cX12_isDigit 15 = .ok (.bipush 57, 2) := by decide +kernel
theorem dX12_isDigit_17 : decode cX12_isDigit 17 = .ok (.if_icmp .gt 7, 3) := by decide +kernel
theorem dX12_isDigit_20 : decode cX12_isDigit 20 = .ok (.iconst 1, 1) := by decide +kernel
theorem dX12_isDigit_21 : decode cX12_isDigit 21 = .ok (.goto 4, 3) := by decide +kernel
theorem dX12_isDigit_24 : decode cX12_isDigit 24 = .ok (.iconst 0, 1) := by decide +kernel
theorem dX12_isDigit_25 : decode cX12_isDigit 25 = .ok (.ireturn, 1) := by decide +kernel
theorem dX12_here_0 : decode cX12_here 0 = .ok (.aload_n 0, 1) := by decide +kernel
theorem dX12_here_1 : decode cX12_here 1 = .ok (.aload_n 0, 1) := by decide +kernel
theorem dX12_here_2 : decode cX12_here 2 = .ok (.getfield 29, 3) := by decide +kernel
theorem dX12_here_5 : decode cX12_here 5 = .ok (.invokevirtual 136, 3) := by decide +kernel
theorem dX12_here_8 : decode cX12_here 8 = .ok (.bipush 10, 2) := by decide +kernel
theorem dX12_here_10 : decode cX12_here 10 = .ok (.if_icmp .eq 16, 3) := by decide +kernel
theorem dX12_here_13 : decode cX12_here 13 = .ok (.aload_n 0, 1) := by decide +kernel
theorem dX12_here_14 : decode cX12_here 14 = .ok (.aload_n 0, 1) := by decide +kernel
theorem dX12_here_15 : decode cX12_here 15 = .ok (.getfield 29, 3) := by decide +kernel
theorem dX12_here_18 : decode cX12_here 18 = .ok (.invokevirtual 136, 3) := by decide +kernel
theorem dX12_here_21 : decode cX12_here 21 = .ok (.bipush 32, 2) := by decide +kernel
theorem dX12_here_23 : decode cX12_here 23 = .ok (.if_icmp .ne 16, 3) := by decide +kernel
theorem dX12_here_26 : decode cX12_here 26 = .ok (.aload_n 0, 1) := by decide +kernel
theorem dX12_here_27 : decode cX12_here 27 = .ok (.dup, 1) := by decide +kernel
theorem dX12_here_28 : decode cX12_here 28 = .ok (.getfield 29, 3) := by decide +kernel
theorem dX12_here_31 : decode cX12_here 31 = .ok (.iconst 1, 1) := by decide +kernel
theorem dX12_here_32 : decode cX12_here 32 = .ok (.iadd, 1) := by decide +kernel
theorem dX12_here_33 : decode cX12_here 33 = .ok (.putfield 29, 3) := by decide +kernel
theorem dX12_here_36 : decode cX12_here 36 = .ok (.goto (-36), 3) := by decide +kernel
theorem dX12_here_39 : decode cX12_here 39 = .ok (.aload_n 0, 1) := by decide +kernel
theorem dX12_here_40 : decode cX12_here 40 = .ok (.aload_n 0, 1) := by decide +kernel
theorem dX12_here_41 : decode cX12_here 41 = .ok (.getfield 29, 3) := by decide +kernel
theorem dX12_here_44 : decode cX12_here 44 = .ok (.invokevirtual 136, 3) := by decide +kernel
theorem dX12_here_47 : decode cX12_here 47 = .ok (.ireturn, 1) := by decide +kernel
theorem dX12_faults_0 : decode cX12_faults 0 = .ok (.aload_n 0, 1) := by decide +kernel
theorem dX12_faults_1 : decode cX12_faults 1 = .ok (.getfield 35, 3) := by decide +kernel
theorem dX12_faults_4 : decode cX12_faults 4 = .ok (.ifCond .eq 4, 3) := by decide +kernel
theorem dX12_faults_7 : decode cX12_faults 7 = .ok (.return_, 1) := by decide +kernel
theorem dX12_faults_8 : decode cX12_faults 8 = .ok (.aload_n 0, 1) := by decide +kernel
theorem dX12_faults_9 : decode cX12_faults 9 = .ok (.iload_n 1, 1) := by decide +kernel
theorem dX12_faults_10 : decode cX12_faults 10 = .ok (.putfield 35, 3) := by decide +kernel
theorem dX12_faults_13 : decode cX12_faults 13 = .ok (.aload_n 0, 1) := by decide +kernel
theorem dX12_faults_14 : decode cX12_faults 14 = .ok (.iload_n 2, 1) := by decide +kernel
theorem dX12_faults_15 : decode cX12_faults 15 = .ok (.putfield 38, 3) := by decide +kernel
theorem dX12_faults_18 : decode cX12_faults 18 = .ok (.return_, 1) := by decide +kernel
theorem dX12_goesWell_0 : decode cX12_goesWell 0 = .ok (.aload_n 0, 1) := by decide +kernel
theorem dX12_goesWell_1 : decode cX12_goesWell 1 = .ok (.getfield 35, 3) := by decide +kernel
theorem dX12_goesWell_4 : decode cX12_goesWell 4 = .ok (.ifCond .ne 7, 3) := by decide +kernel
theorem dX12_goesWell_7 : decode cX12_goesWell 7 = .ok (.iconst 1, 1) := by decide +kernel
theorem dX12_goesWell_8 : decode cX12_goesWell 8 = .ok (.goto 4, 3) := by decide +kernel
theorem dX12_goesWell_11 : decode cX12_goesWell 11 = .ok (.iconst 0, 1) := by decide +kernel
theorem dX12_goesWell_12 : decode cX12_goesWell 12 = .ok (.ireturn, 1) := by decide +kernel
theorem dX12_isMark_0 : decode cX12_isMark 0 = .ok (.aload_n 0, 1) := by decide +kernel
theorem dX12_isMark_1 : decode cX12_isMark 1 = .ok (.invokevirtual 139, 3) := by decide +kernel
theorem dX12_isMark_4 : decode cX12_isMark 4 = .ok (.ifCond .eq 15, 3) := by decide +kernel
theorem dX12_isMark_7 : decode cX12_isMark 7 = .ok (.aload_n 0, 1) := by decide +kernel
theorem dX12_isMark_8 : decode cX12_isMark 8 = .ok (.invokevirtual 143, 3) := by decide +kernel
theorem dX12_isMark_11 : decode cX12_isMark 11 = .ok (.iload_n 1, 1) := by decide +kernel
theorem dX12_isMark_12 : decode cX12_isMark 12 = .ok (.if_icmp .ne 7, 3) := by decide +kernel
theorem dX12_isMark_15 : decode cX12_isMark 15 = .ok (.iconst 1, 1) := by decide +kernel
theorem dX12_isMark_16 : decode cX12_isMark 16 = .ok (.goto 4, 3) := by decide +kernel
theorem dX12_isMark_19 : decode cX12_isMark 19 = .ok (.iconst 0, 1) := by decide +kernel
theorem dX12_isMark_20 : decode cX12_isMark 20 = .ok (.ireturn, 1) := by decide +kernel
theorem dX12_mark_0 : decode cX12_mark 0 = .ok (.aload_n 0, 1) := by decide +kernel
theorem dX12_mark_1 : decode cX12_mark 1 = .ok (.invokevirtual 139, 3) := by decide +kernel
theorem dX12_mark_4 : decode cX12_mark 4 = .ok (.ifCond .ne 4, 3) := by decide +kernel
theorem dX12_mark_7 : decode cX12_mark 7 = .ok (.return_, 1) := by decide +kernel
theorem dX12_mark_8 : decode cX12_mark 8 = .ok (.aload_n 0, 1) := by decide +kernel
theorem dX12_mark_9 : decode cX12_mark 9 = .ok (.invokevirtual 143, 3) := by decide +kernel
theorem dX12_mark_12 : decode cX12_mark 12 = .ok (.iload_n 1, 1) := by decide +kernel
theorem dX12_mark_13 : decode cX12_mark 13 = .ok (.if_icmp .ne 16, 3) := by decide +kernel
theorem dX12_mark_16 : decode cX12_mark 16 = .ok (.aload_n 0, 1) := by decide +kernel
theorem dX12_mark_17 : decode cX12_mark 17 = .ok (.dup, 1) := by decide +kernel
theorem dX12_mark_18 : decode cX12_mark 18 = .ok (.getfield 29, 3) := by decide +kernel
theorem dX12_mark_21 : decode cX12_mark 21 = .ok (.iconst 1, 1) := by decide +kernel
theorem dX12_mark_22 : decode cX12_mark 22 = .ok (.iadd, 1) := by decide +kernel
theorem dX12_mark_23 : decode cX12_mark 23 = .ok (.putfield 29, 3) := by decide +kernel
theorem dX12_mark_26 : decode cX12_mark 26 = .ok (.goto 12, 3) := by decide +kernel
theorem dX12_mark_29 : decode cX12_mark 29 = .ok (.aload_n 0, 1) := by decide +kernel
theorem dX12_mark_30 : decode cX12_mark 30 = .ok (.iconst 1, 1) := by decide +kernel
theorem dX12_mark_31 : decode cX12_mark 31 = .ok (.aload_n 0, 1) := by decide +kernel
theorem dX12_mark_32 : decode cX12_mark 32 = .ok (.getfield 29, 3) := by decide +kernel
theorem dX12_mark_35 : decode cX12_mark 35 = .ok (.invokevirtual 147, 3) := by decide +kernel
theorem dX12_mark_38 : decode cX12_mark 38 = .ok (.return_, 1) := by decide +kernel
theorem dX12_isWordHere_0 : decode cX12_isWordHere 0 = .ok (.aload_n 0, 1) := by decide +kernel
theorem dX12_isWordHere_1 : decode cX12_isWordHere 1 = .ok (.invokevirtual 143, 3) := by decide +kernel
theorem dX12_isWordHere_4 : decode cX12_isWordHere 4 = .ok (.pop, 1) := by decide +kernel
theorem dX12_isWordHere_5 : decode cX12_isWordHere 5 = .ok (.aload_n 0, 1) := by decide +kernel
theorem dX12_isWordHere_6 : decode cX12_isWordHere 6 = .ok (.invokevirtual 139, 3) := by decide +kernel
theorem dX12_isWordHere_9 : decode cX12_isWordHere 9 = .ok (.ifCond .eq 44, 3) := by decide +kernel
theorem dX12_isWordHere_12 : decode cX12_isWordHere 12 = .ok (.aload_n 0, 1) := by decide +kernel
theorem dX12_isWordHere_13 : decode cX12_isWordHere 13 = .ok (.aload_n 0, 1) := by decide +kernel
theorem dX12_isWordHere_14 : decode cX12_isWordHere 14 = .ok (.getfield 29, 3) := by decide +kernel
theorem dX12_isWordHere_17 : decode cX12_isWordHere 17 = .ok (.invokevirtual 151, 3) := by decide +kernel
theorem dX12_isWordHere_20 : decode cX12_isWordHere 20 = .ok (.ifCond .eq 33, 3) := by decide +kernel
theorem dX12_isWordHere_23 : decode cX12_isWordHere 23 = .ok (.aload_n 0, 1) := by decide +kernel
theorem dX12_isWordHere_24 : decode cX12_isWordHere 24 = .ok (.aload_n 0, 1) := by decide +kernel
theorem dX12_isWordHere_25 : decode cX12_isWordHere 25 = .ok (.getfield 29, 3) := by decide +kernel
theorem dX12_isWordHere_28 : decode cX12_isWordHere 28 = .ok (.iconst 1, 1) := by decide +kernel
theorem dX12_isWordHere_29 : decode cX12_isWordHere 29 = .ok (.isub, 1) := by decide +kernel
theorem dX12_isWordHere_30 : decode cX12_isWordHere 30 = .ok (.invokevirtual 151, 3) := by decide +kernel
theorem dX12_isWordHere_33 : decode cX12_isWordHere 33 = .ok (.ifCond .ne 20, 3) := by decide +kernel
theorem dX12_isWordHere_36 : decode cX12_isWordHere 36 = .ok (.aload_n 0, 1) := by decide +kernel
theorem dX12_isWordHere_37 : decode cX12_isWordHere 37 = .ok (.aload_n 0, 1) := by decide +kernel
theorem dX12_isWordHere_38 : decode cX12_isWordHere 38 = .ok (.getfield 29, 3) := by decide +kernel
theorem dX12_isWordHere_41 : decode cX12_isWordHere 41 = .ok (.iconst 1, 1) := by decide +kernel
theorem dX12_isWordHere_42 : decode cX12_isWordHere 42 = .ok (.isub, 1) := by decide +kernel
theorem dX12_isWordHere_43 : decode cX12_isWordHere 43 = .ok (.invokevirtual 154, 3) := by decide +kernel
theorem dX12_isWordHere_46 : decode cX12_isWordHere 46 = .ok (.ifCond .ne 7, 3) := by decide +kernel
theorem dX12_isWordHere_49 : decode cX12_isWordHere 49 = .ok (.iconst 1, 1) := by decide +kernel
theorem dX12_isWordHere_50 : decode cX12_isWordHere 50 = .ok (.goto 4, 3) := by decide +kernel
theorem dX12_isWordHere_53 : decode cX12_isWordHere 53 = .ok (.iconst 0, 1) := by decide +kernel
theorem dX12_isWordHere_54 : decode cX12_isWordHere 54 = .ok (.ireturn, 1) := by decide +kernel
theorem dX12_word_0 : decode cX12_word 0 = .ok (.aload_n 0, 1) := by decide +kernel
theorem dX12_word_1 : decode cX12_word 1 = .ok (.invokevirtual 139, 3) := by decide +kernel
theorem dX12_word_4 : decode cX12_word 4 = .ok (.ifCond .ne 4, 3) := by decide +kernel
theorem dX12_word_7 : decode cX12_word 7 = .ok (.return_, 1) := by decide +kernel
theorem dX12_word_8 : decode cX12_word 8 = .ok (.aload_n 0, 1) := by decide +kernel
theorem dX12_word_9 : decode cX12_word 9 = .ok (.invokevirtual 157, 3) := by decide +kernel
theorem dX12_word_12 : decode cX12_word 12 = .ok (.ifCond .ne 13, 3) := by decide +kernel
theorem dX12_word_15 : decode cX12_word 15 = .ok (.aload_n 0, 1) := by decide +kernel
theorem dX12_word_16 : decode cX12_word 16 = .ok (.iconst 1, 1) := by decide +kernel
theorem dX12_word_17 : decode cX12_word 17 = .ok (.aload_n 0, 1) := by decide +kernel
theorem dX12_word_18 : decode cX12_word 18 = .ok (.getfield 29, 3) := by decide +kernel
theorem dX12_word_21 : decode cX12_word 21 = .ok (.invokevirtual 147, 3) := by decide +kernel
theorem dX12_word_24 : decode cX12_word 24 = .ok (.return_, 1) := by decide +kernel
theorem dX12_word_25 : decode cX12_word 25 = .ok (.aload_n 0, 1) := by decide +kernel
theorem dX12_word_26 : decode cX12_word 26 = .ok (.aload_n 0, 1) := by decide +kernel
theorem dX12_word_27 : decode cX12_word 27 = .ok (.getfield 29, 3) := by decide +kernel
theorem dX12_word_30 : decode cX12_word 30 = .ok (.putfield 32, 3) := by decide +kernel
theorem dX12_word_33 : decode cX12_word 33 = .ok (.aload_n 0, 1) := by decide +kernel
theorem dX12_word_34 : decode cX12_word 34 = .ok (.aload_n 0, 1) := by decide +kernel
theorem dX12_word_35 : decode cX12_word 35 = .ok (.getfield 29, 3) := by decide +kernel
theorem dX12_word_38 : decode cX12_word 38 = .ok (.invokevirtual 151, 3) := by decide +kernel
theorem dX12_word_41 : decode cX12_word 41 = .ok (.ifCond .eq 16, 3) := by decide +kernel
theorem dX12_word_44 : decode cX12_word 44 = .ok (.aload_n 0, 1) := by decide +kernel
theorem dX12_word_45 : decode cX12_word 45 = .ok (.dup, 1) := by decide +kernel
theorem dX12_word_46 : decode cX12_word 46 = .ok (.getfield 29, 3) := by decide +kernel
theorem dX12_word_49 : decode cX12_word 49 = .ok (.iconst 1, 1) := by decide +kernel
theorem dX12_word_50 : decode cX12_word 50 = .ok (.iadd, 1) := by decide +kernel
theorem dX12_word_51 : decode cX12_word 51 = .ok (.putfield 29, 3) := by decide +kernel
theorem dX12_word_54 : decode cX12_word 54 = .ok (.goto (-21), 3) := by decide +kernel
theorem dX12_word_57 : decode cX12_word 57 = .ok (.return_, 1) := by decide +kernel
theorem dX12_isSpelled_0 : decode cX12_isSpelled 0 = .ok (.iload_n 2, 1) := by decide +kernel
theorem dX12_isSpelled_1 : decode cX12_isSpelled 1 = .ok (.ifCond .ne 7, 3) := by decide +kernel
theorem dX12_isSpelled_4 : decode cX12_isSpelled 4 = .ok (.iconst 1, 1) := by decide +kernel
theorem dX12_isSpelled_5 : decode cX12_isSpelled 5 = .ok (.goto 4, 3) := by decide +kernel
theorem dX12_isSpelled_8 : decode cX12_isSpelled 8 = .ok (.iconst 5, 1) := by decide +kernel
theorem dX12_isSpelled_9 : decode cX12_isSpelled 9 = .ok (.istore 6, 2) := by decide +kernel
theorem dX12_isSpelled_11 : decode cX12_isSpelled 11 = .ok (.aload_n 0, 1) := by decide +kernel
theorem dX12_isSpelled_12 : decode cX12_isSpelled 12 = .ok (.getfield 29, 3) := by decide +kernel
theorem dX12_isSpelled_15 : decode cX12_isSpelled 15 = .ok (.aload_n 0, 1) := by decide +kernel
theorem dX12_isSpelled_16 : decode cX12_isSpelled 16 = .ok (.getfield 32, 3) := by decide +kernel
theorem dX12_isSpelled_19 : decode cX12_isSpelled 19 = .ok (.isub, 1) := by decide +kernel
theorem dX12_isSpelled_20 : decode cX12_isSpelled 20 = .ok (.iload 6, 2) := by decide +kernel
theorem dX12_isSpelled_22 : decode cX12_isSpelled 22 = .ok (.if_icmp .ne 16, 3) := by decide +kernel
theorem dX12_isSpelled_25 : decode cX12_isSpelled 25 = .ok (.aload_n 0, 1) := by decide +kernel
theorem dX12_isSpelled_26 : decode cX12_isSpelled 26 = .ok (.getfield 7, 3) := by decide +kernel
theorem dX12_isSpelled_29 : decode cX12_isSpelled 29 = .ok (.aload_n 0, 1) := by decide +kernel
theorem dX12_isSpelled_30 : decode cX12_isSpelled 30 = .ok (.getfield 32, 3) := by decide +kernel
theorem dX12_isSpelled_33 : decode cX12_isSpelled 33 = .ok (.iaload, 1) := by decide +kernel
theorem dX12_isSpelled_34 : decode cX12_isSpelled 34 = .ok (.iload_n 1, 1) := by decide +kernel
theorem dX12_isSpelled_35 : decode cX12_isSpelled 35 = .ok (.if_icmp .eq 5, 3) := by decide +kernel
theorem dX12_isSpelled_38 : decode cX12_isSpelled 38 = .ok (.iconst 0, 1) := by decide +kernel
theorem dX12_isSpelled_39 : decode cX12_isSpelled 39 = .ok (.ireturn, 1) := by decide +kernel
theorem dX12_isSpelled_40 : decode cX12_isSpelled 40 = .ok (.iload 6, 2) := by decide +kernel
theorem dX12_isSpelled_42 : decode cX12_isSpelled 42 = .ok (.iconst 1, 1) := by decide +kernel
theorem dX12_isSpelled_43 : decode cX12_isSpelled 43 = .ok (.if_icmp .eq 65, 3) := by decide +kernel
theorem dX12_isSpelled_46 : decode cX12_isSpelled 46 = .ok (.aload_n 0, 1) := by decide +kernel
theorem dX12_isSpelled_47 : decode cX12_isSpelled 47 = .ok (.getfield 7, 3) := by decide +kernel
theorem dX12_isSpelled_50 : decode cX12_isSpelled 50 = .ok (.aload_n 0, 1) := by decide +kernel
theorem dX12_isSpelled_51 : decode cX12_isSpelled 51 = .ok (.getfield 32, 3) := by decide +kernel
theorem dX12_isSpelled_54 : decode cX12_isSpelled 54 = .ok (.iconst 1, 1) := by decide +kernel
theorem dX12_isSpelled_55 : decode cX12_isSpelled 55 = .ok (.iadd, 1) := by decide +kernel
theorem dX12_isSpelled_56 : decode cX12_isSpelled 56 = .ok (.iaload, 1) := by decide +kernel
theorem dX12_isSpelled_57 : decode cX12_isSpelled 57 = .ok (.iload_n 2, 1) := by decide +kernel
theorem dX12_isSpelled_58 : decode cX12_isSpelled 58 = .ok (.if_icmp .ne 54, 3) := by decide +kernel
theorem dX12_isSpelled_61 : decode cX12_isSpelled 61 = .ok (.aload_n 0, 1) := by decide +kernel
theorem dX12_isSpelled_62 : decode cX12_isSpelled 62 = .ok (.getfield 7, 3) := by decide +kernel
theorem dX12_isSpelled_65 : decode cX12_isSpelled 65 = .ok (.aload_n 0, 1) := by decide +kernel
theorem dX12_isSpelled_66 : decode cX12_isSpelled 66 = .ok (.getfield 32, 3) := by decide +kernel
theorem dX12_isSpelled_69 : decode cX12_isSpelled 69 = .ok (.iconst 2, 1) := by decide +kernel
theorem dX12_isSpelled_70 : decode cX12_isSpelled 70 = .ok (.iadd, 1) := by decide +kernel
theorem dX12_isSpelled_71 : decode cX12_isSpelled 71 = .ok (.iaload, 1) := by decide +kernel
theorem dX12_isSpelled_72 : decode cX12_isSpelled 72 = .ok (.iload_n 3, 1) := by decide +kernel
theorem dX12_isSpelled_73 : decode cX12_isSpelled 73 = .ok (.if_icmp .ne 39, 3) := by decide +kernel
theorem dX12_isSpelled_76 : decode cX12_isSpelled 76 = .ok (.aload_n 0, 1) := by decide +kernel
theorem dX12_isSpelled_77 : decode cX12_isSpelled 77 = .ok (.getfield 7, 3) := by decide +kernel
theorem dX12_isSpelled_80 : decode cX12_isSpelled 80 = .ok (.aload_n 0, 1) := by decide +kernel
theorem dX12_isSpelled_81 : decode cX12_isSpelled 81 = .ok (.getfield 32, 3) := by decide +kernel
theorem dX12_isSpelled_84 : decode cX12_isSpelled 84 = .ok (.iconst 3, 1) := by decide +kernel
theorem dX12_isSpelled_85 : decode cX12_isSpelled 85 = .ok (.iadd, 1) := by decide +kernel
theorem dX12_isSpelled_86 : decode cX12_isSpelled 86 = .ok (.iaload, 1) := by decide +kernel
theorem dX12_isSpelled_87 : decode cX12_isSpelled 87 = .ok (.iload 4, 2) := by decide +kernel
theorem dX12_isSpelled_89 : decode cX12_isSpelled 89 = .ok (.if_icmp .ne 23, 3) := by decide +kernel
theorem dX12_isSpelled_92 : decode cX12_isSpelled 92 = .ok (.aload_n 0, 1) := by decide +kernel
theorem dX12_isSpelled_93 : decode cX12_isSpelled 93 = .ok (.getfield 7, 3) := by decide +kernel
theorem dX12_isSpelled_96 : decode cX12_isSpelled 96 = .ok (.aload_n 0, 1) := by decide +kernel
theorem dX12_isSpelled_97 : decode cX12_isSpelled 97 = .ok (.getfield 32, 3) := by decide +kernel
theorem dX12_isSpelled_100 : decode cX12_isSpelled 100 = .ok (.iconst 4, 1) := by decide +kernel
theorem dX12_isSpelled_101 : decode cX12_isSpelled 101 = .ok (.iadd, 1) := by decide +kernel
theorem dX12_isSpelled_102 : decode cX12_isSpelled 102 = .ok (.iaload, 1) := by decide +kernel
theorem dX12_isSpelled_103 : decode cX12_isSpelled 103 = .ok (.iload 5, 2) := by decide +kernel
theorem dX12_isSpelled_105 : decode cX12_isSpelled 105 = .ok (.if_icmp .ne 7, 3) := by decide +kernel
theorem dX12_isSpelled_108 : decode cX12_isSpelled 108 = .ok (.iconst 1, 1) := by decide +kernel
theorem dX12_isSpelled_109 : decode cX12_isSpelled 109 = .ok (.goto 4, 3) := by decide +kernel
theorem dX12_isSpelled_112 : decode cX12_isSpelled 112 = .ok (.iconst 0, 1) := by decide +kernel
theorem dX12_isSpelled_113 : decode cX12_isSpelled 113 = .ok (.ireturn, 1) := by decide +kernel
theorem dX12_own_0 : decode cX12_own 0 = .ok (.aload_n 0, 1) := by decide +kernel
theorem dX12_own_1 : decode cX12_own 1 = .ok (.bipush 102, 2) := by decide +kernel
theorem dX12_own_3 : decode cX12_own 3 = .ok (.bipush 105, 2) := by decide +kernel
theorem dX12_own_5 : decode cX12_own 5 = .ok (.bipush 101, 2) := by decide +kernel
theorem dX12_own_7 : decode cX12_own 7 = .ok (.bipush 108, 2) := by decide +kernel
theorem dX12_own_9 : decode cX12_own 9 = .ok (.bipush 100, 2) := by decide +kernel
theorem dX12_own_11 : decode cX12_own 11 = .ok (.invokevirtual 160, 3) := by decide +kernel
theorem dX12_own_14 : decode cX12_own 14 = .ok (.ifCond .eq 5, 3) := by decide +kernel
theorem dX12_own_17 : decode cX12_own 17 = .ok (.iconst 1, 1) := by decide +kernel
theorem dX12_own_18 : decode cX12_own 18 = .ok (.ireturn, 1) := by decide +kernel
theorem dX12_own_19 : decode cX12_own 19 = .ok (.aload_n 0, 1) := by decide +kernel
theorem dX12_own_20 : decode cX12_own 20 = .ok (.bipush 99, 2) := by decide +kernel
theorem dX12_own_22 : decode cX12_own 22 = .ok (.bipush 117, 2) := by decide +kernel
theorem dX12_own_24 : decode cX12_own 24 = .ok (.bipush 114, 2) := by decide +kernel
theorem dX12_own_26 : decode cX12_own 26 = .ok (.bipush 118, 2) := by decide +kernel
theorem dX12_own_28 : decode cX12_own 28 = .ok (.bipush 101, 2) := by decide +kernel
theorem dX12_own_30 : decode cX12_own 30 = .ok (.invokevirtual 160, 3) := by decide +kernel
theorem dX12_own_33 : decode cX12_own 33 = .ok (.ifCond .eq 5, 3) := by decide +kernel
theorem dX12_own_36 : decode cX12_own 36 = .ok (.iconst 2, 1) := by decide +kernel
theorem dX12_own_37 : decode cX12_own 37 = .ok (.ireturn, 1) := by decide +kernel
theorem dX12_own_38 : decode cX12_own 38 = .ok (.aload_n 0, 1) := by decide +kernel
theorem dX12_own_39 : decode cX12_own 39 = .ok (.bipush 120, 2) := by decide +kernel
theorem dX12_own_41 : decode cX12_own 41 = .ok (.iconst 0, 1) := by decide +kernel
theorem dX12_own_42 : decode cX12_own 42 = .ok (.iconst 0, 1) := by decide +kernel
theorem dX12_own_43 : decode cX12_own 43 = .ok (.iconst 0, 1) := by decide +kernel
theorem dX12_own_44 : decode cX12_own 44 = .ok (.iconst 0, 1) := by decide +kernel
theorem dX12_own_45 : decode cX12_own 45 = .ok (.invokevirtual 160, 3) := by decide +kernel
theorem dX12_own_48 : decode cX12_own 48 = .ok (.ifCond .eq 7, 3) := by decide +kernel
theorem dX12_own_51 : decode cX12_own 51 = .ok (.iconst 3, 1) := by decide +kernel
theorem dX12_own_52 : decode cX12_own 52 = .ok (.goto 21, 3) := by decide +kernel
theorem dX12_own_55 : decode cX12_own 55 = .ok (.aload_n 0, 1) := by decide +kernel
theorem dX12_own_56 : decode cX12_own 56 = .ok (.bipush 121, 2) := by decide +kernel
theorem dX12_own_58 : decode cX12_own 58 = .ok (.iconst 0, 1) := by decide +kernel
theorem dX12_own_59 : decode cX12_own 59 = .ok (.iconst 0, 1) := by decide +kernel
theorem dX12_own_60 : decode cX12_own 60 = .ok (.iconst 0, 1) := by decide +kernel
theorem dX12_own_61 : decode cX12_own 61 = .ok (.iconst 0, 1) := by decide +kernel
theorem dX12_own_62 : decode cX12_own 62 = .ok (.invokevirtual 160, 3) := by decide +kernel
theorem dX12_own_65 : decode cX12_own 65 = .ok (.ifCond .eq 7, 3) := by decide +kernel
theorem dX12_own_68 : decode cX12_own 68 = .ok (.iconst 4, 1) := by decide +kernel
theorem dX12_own_69 : decode cX12_own 69 = .ok (.goto 4, 3) := by decide +kernel
theorem dX12_own_72 : decode cX12_own 72 = .ok (.iconst 0, 1) := by decide +kernel
theorem dX12_own_73 : decode cX12_own 73 = .ok (.ireturn, 1) := by decide +kernel
theorem dX12_comes_0 : decode cX12_comes 0 = .ok (.aload_n 0, 1) := by decide +kernel
theorem dX12_comes_1 : decode cX12_comes 1 = .ok (.invokevirtual 157, 3) := by decide +kernel
theorem dX12_comes_4 : decode cX12_comes 4 = .ok (.ifCond .ne 5, 3) := by decide +kernel
theorem dX12_comes_7 : decode cX12_comes 7 = .ok (.iconst (-1), 1) := by decide +kernel
theorem dX12_comes_8 : decode cX12_comes 8 = .ok (.ireturn, 1) := by decide +kernel
theorem dX12_comes_9 : decode cX12_comes 9 = .ok (.aload_n 0, 1) := by decide +kernel
theorem dX12_comes_10 : decode cX12_comes 10 = .ok (.getfield 29, 3) := by decide +kernel
theorem dX12_comes_13 : decode cX12_comes 13 = .ok (.istore_n 1, 1) := by decide +kernel
theorem dX12_comes_14 : decode cX12_comes 14 = .ok (.aload_n 0, 1) := by decide +kernel
theorem dX12_comes_15 : decode cX12_comes 15 = .ok (.invokevirtual 164, 3) := by decide +kernel
theorem dX12_comes_18 : decode cX12_comes 18 = .ok (.aload_n 0, 1) := by decide +kernel
theorem dX12_comes_19 : decode cX12_comes 19 = .ok (.invokevirtual 167, 3) := by decide +kernel
theorem dX12_comes_22 : decode cX12_comes 22 = .ok (.istore_n 2, 1) := by decide +kernel
theorem dX12_comes_23 : decode cX12_comes 23 = .ok (.aload_n 0, 1) := by decide +kernel
theorem dX12_comes_24 : decode cX12_comes 24 = .ok (.iload_n 1, 1) := by decide +kernel
theorem dX12_comes_25 : decode cX12_comes 25 = .ok (.putfield 29, 3) := by decide +kernel
theorem dX12_comes_28 : decode cX12_comes 28 = .ok (.iload_n 2, 1) := by decide +kernel
theorem dX12_comes_29 : decode cX12_comes 29 = .ok (.ireturn, 1) := by decide +kernel
theorem dX12_name_0 : decode cX12_name 0 = .ok (.aload_n 0, 1) := by decide +kernel
theorem dX12_name_1 : decode cX12_name 1 = .ok (.invokevirtual 164, 3) := by decide +kernel
theorem dX12_name_4 : decode cX12_name 4 = .ok (.aload_n 0, 1) := by decide +kernel
theorem dX12_name_5 : decode cX12_name 5 = .ok (.invokevirtual 139, 3) := by decide +kernel
theorem dX12_name_8 : decode cX12_name 8 = .ok (.ifCond .eq 33, 3) := by decide +kernel
theorem dX12_name_11 : decode cX12_name 11 = .ok (.aload_n 0, 1) := by decide +kernel
theorem dX12_name_12 : decode cX12_name 12 = .ok (.invokevirtual 167, 3) := by decide +kernel
theorem dX12_name_15 : decode cX12_name 15 = .ok (.ifCond .ne 17, 3) := by decide +kernel
theorem dX12_name_18 : decode cX12_name 18 = .ok (.aload_n 0, 1) := by decide +kernel
theorem dX12_name_19 : decode cX12_name 19 = .ok (.getfield 29, 3) := by decide +kernel
theorem dX12_name_22 : decode cX12_name 22 = .ok (.aload_n 0, 1) := by decide +kernel
theorem dX12_name_23 : decode cX12_name 23 = .ok (.getfield 32, 3) := by decide +kernel
theorem dX12_name_26 : decode cX12_name 26 = .ok (.isub, 1) := by decide +kernel
theorem dX12_name_27 : decode cX12_name 27 = .ok (.bipush 6, 2) := by decide +kernel
theorem dX12_name_29 : decode cX12_name 29 = .ok (.if_icmp .le 12, 3) := by decide +kernel
theorem dX12_name_32 : decode cX12_name 32 = .ok (.aload_n 0, 1) := by decide +kernel
theorem dX12_name_33 : decode cX12_name 33 = .ok (.iconst 1, 1) := by decide +kernel
theorem dX12_name_34 : decode cX12_name 34 = .ok (.aload_n 0, 1) := by decide +kernel
theorem dX12_name_35 : decode cX12_name 35 = .ok (.getfield 32, 3) := by decide +kernel
theorem dX12_name_38 : decode cX12_name 38 = .ok (.invokevirtual 147, 3) := by decide +kernel
theorem dX12_name_41 : decode cX12_name 41 = .ok (.iconst 0, 1) := by decide +kernel
theorem dX12_name_42 : decode cX12_name 42 = .ok (.istore_n 1, 1) := by decide +kernel
theorem dX12_name_43 : decode cX12_name 43 = .ok (.aload_n 0, 1) := by decide +kernel
theorem dX12_name_44 : decode cX12_name 44 = .ok (.getfield 29, 3) := by decide +kernel
theorem dX12_name_47 : decode cX12_name 47 = .ok (.iconst 1, 1) := by decide +kernel
theorem dX12_name_48 : decode cX12_name 48 = .ok (.isub, 1) := by decide +kernel
theorem dX12_name_49 : decode cX12_name 49 = .ok (.istore_n 2, 1) := by decide +kernel
theorem dX12_name_50 : decode cX12_name 50 = .ok (.iload_n 2, 1) := by decide +kernel
theorem dX12_name_51 : decode cX12_name 51 = .ok (.aload_n 0, 1) := by decide +kernel
theorem dX12_name_52 : decode cX12_name 52 = .ok (.getfield 32, 3) := by decide +kernel
theorem dX12_name_55 : decode cX12_name 55 = .ok (.if_icmp .lt 31, 3) := by decide +kernel
theorem dX12_name_58 : decode cX12_name 58 = .ok (.aload_n 0, 1) := by decide +kernel
theorem dX12_name_59 : decode cX12_name 59 = .ok (.invokevirtual 139, 3) := by decide +kernel
theorem dX12_name_62 : decode cX12_name 62 = .ok (.ifCond .eq 24, 3) := by decide +kernel
theorem dX12_name_65 : decode cX12_name 65 = .ok (.bipush 32, 2) := by decide +kernel
theorem dX12_name_67 : decode cX12_name 67 = .ok (.iload_n 1, 1) := by decide +kernel
theorem dX12_name_68 : decode cX12_name 68 = .ok (.imul, 1) := by decide +kernel
theorem dX12_name_69 : decode cX12_name 69 = .ok (.aload_n 0, 1) := by decide +kernel
theorem dX12_name_70 : decode cX12_name 70 = .ok (.getfield 7, 3) := by decide +kernel
theorem dX12_name_73 : decode cX12_name 73 = .ok (.iload_n 2, 1) := by decide +kernel
theorem dX12_name_74 : decode cX12_name 74 = .ok (.iaload, 1) := by decide +kernel
theorem dX12_name_75 : decode cX12_name 75 = .ok (.iadd, 1) := by decide +kernel
theorem dX12_name_76 : decode cX12_name 76 = .ok (.bipush 96, 2) := by decide +kernel
theorem dX12_name_78 : decode cX12_name 78 = .ok (.isub, 1) := by decide +kernel
theorem dX12_name_79 : decode cX12_name 79 = .ok (.istore_n 1, 1) := by decide +kernel
theorem dX12_name_80 : decode cX12_name 80 = .ok (.iinc 2 (-1), 3) := by decide +kernel
theorem dX12_name_83 : decode cX12_name 83 = .ok (.goto (-33), 3) := by decide +kernel
theorem dX12_name_86 : decode cX12_name 86 = .ok (.aload_n 0, 1) := by decide +kernel
theorem dX12_name_87 : decode cX12_name 87 = .ok (.invokevirtual 139, 3) := by decide +kernel
theorem dX12_name_90 : decode cX12_name 90 = .ok (.ifCond .eq 7, 3) := by decide +kernel
theorem dX12_name_93 : decode cX12_name 93 = .ok (.iload_n 1, 1) := by decide +kernel
theorem dX12_name_94 : decode cX12_name 94 = .ok (.goto 4, 3) := by decide +kernel
theorem dX12_name_97 : decode cX12_name 97 = .ok (.iconst 0, 1) := by decide +kernel
theorem dX12_name_98 : decode cX12_name 98 = .ok (.ireturn, 1) := by decide +kernel
theorem dX12_number_0 : decode cX12_number 0 = .ok (.aload_n 0, 1) := by decide +kernel
theorem dX12_number_1 : decode cX12_number 1 = .ok (.invokevirtual 139, 3) := by decide +kernel
theorem dX12_number_4 : decode cX12_number 4 = .ok (.ifCond .ne 5, 3) := by decide +kernel
theorem dX12_number_7 : decode cX12_number 7 = .ok (.lconst 0, 1) := by decide +kernel
theorem dX12_number_8 : decode cX12_number 8 = .ok (.lreturn, 1) := by decide +kernel
theorem dX12_number_9 : decode cX12_number 9 = .ok (.aload_n 0, 1) := by decide +kernel
theorem dX12_number_10 : decode cX12_number 10 = .ok (.invokevirtual 143, 3) := by decide +kernel
theorem dX12_number_13 : decode cX12_number 13 = .ok (.pop, 1) := by decide +kernel
theorem dX12_number_14 : decode cX12_number 14 = .ok (.aload_n 0, 1) := by decide +kernel
theorem dX12_number_15 : decode cX12_number 15 = .ok (.aload_n 0, 1) := by decide +kernel
theorem dX12_number_16 : decode cX12_number 16 = .ok (.getfield 29, 3) := by decide +kernel
theorem dX12_number_19 : decode cX12_number 19 = .ok (.putfield 32, 3) := by decide +kernel
theorem dX12_number_22 : decode cX12_number 22 = .ok (.aload_n 0, 1) := by decide +kernel
theorem dX12_number_23 : decode cX12_number 23 = .ok (.aload_n 0, 1) := by decide +kernel
theorem dX12_number_24 : decode cX12_number 24 = .ok (.getfield 29, 3) := by decide +kernel
theorem dX12_number_27 : decode cX12_number 27 = .ok (.invokevirtual 154, 3) := by decide +kernel
theorem dX12_number_30 : decode cX12_number 30 = .ok (.ifCond .eq 29, 3) := by decide +kernel
theorem dX12_number_33 : decode cX12_number 33 = .ok (.aload_n 0, 1) := by decide +kernel
theorem dX12_number_34 : decode cX12_number 34 = .ok (.aload_n 0, 1) := by decide +kernel
theorem dX12_number_35 : decode cX12_number 35 = .ok (.getfield 29, 3) := by decide +kernel
theorem dX12_number_38 : decode cX12_number 38 = .ok (.iconst 1, 1) := by decide +kernel
theorem dX12_number_39 : decode cX12_number 39 = .ok (.isub, 1) := by decide +kernel
theorem dX12_number_40 : decode cX12_number 40 = .ok (.invokevirtual 151, 3) := by decide +kernel
theorem dX12_number_43 : decode cX12_number 43 = .ok (.ifCond .ne 16, 3) := by decide +kernel
theorem dX12_number_46 : decode cX12_number 46 = .ok (.aload_n 0, 1) := by decide +kernel
theorem dX12_number_47 : decode cX12_number 47 = .ok (.aload_n 0, 1) := by decide +kernel
theorem dX12_number_48 : decode cX12_number 48 = .ok (.getfield 29, 3) := by decide +kernel
theorem dX12_number_51 : decode cX12_number 51 = .ok (.iconst 1, 1) := by decide +kernel
theorem dX12_number_52 : decode cX12_number 52 = .ok (.isub, 1) := by decide +kernel
theorem dX12_number_53 : decode cX12_number 53 = .ok (.invokevirtual 154, 3) := by decide +kernel
theorem dX12_number_56 : decode cX12_number 56 = .ok (.ifCond .eq 14, 3) := by decide +kernel
theorem dX12_number_59 : decode cX12_number 59 = .ok (.aload_n 0, 1) := by decide +kernel
theorem dX12_number_60 : decode cX12_number 60 = .ok (.iconst 1, 1) := by decide +kernel
theorem dX12_number_61 : decode cX12_number 61 = .ok (.aload_n 0, 1) := by decide +kernel
theorem dX12_number_62 : decode cX12_number 62 = .ok (.getfield 29, 3) := by decide +kernel
theorem dX12_number_65 : decode cX12_number 65 = .ok (.invokevirtual 147, 3) := by decide +kernel
theorem dX12_number_68 : decode cX12_number 68 = .ok (.lconst 0, 1) := by decide +kernel
theorem dX12_number_69 : decode cX12_number 69 = .ok (.lreturn, 1) := by decide +kernel
theorem dX12_number_70 : decode cX12_number 70 = .ok (.lconst 0, 1) := by decide +kernel
theorem dX12_number_71 : decode cX12_number 71 = .ok (.lstore_n 1, 1) := by decide +kernel
theorem dX12_number_72 : decode cX12_number 72 = .ok (.aload_n 0, 1) := by decide +kernel
theorem dX12_number_73 : decode cX12_number 73 = .ok (.aload_n 0, 1) := by decide +kernel
theorem dX12_number_74 : decode cX12_number 74 = .ok (.getfield 29, 3) := by decide +kernel
theorem dX12_number_77 : decode cX12_number 77 = .ok (.invokevirtual 154, 3) := by decide +kernel
theorem dX12_number_80 : decode cX12_number 80 = .ok (.ifCond .eq 48, 3) := by decide +kernel
theorem dX12_number_83 : decode cX12_number 83 = .ok (.lload_n 1, 1) := by decide +kernel
theorem dX12_number_84 : decode cX12_number 84 = .ok (.ldc2_w 170, 3) := by decide +kernel
theorem dX12_number_87 : decode cX12_number 87 = .ok (.lcmp, 1) := by decide +kernel
theorem dX12_number_88 : decode cX12_number 88 = .ok (.ifCond .le 7, 3) := by decide +kernel
theorem dX12_number_91 : decode cX12_number 91 = .ok (.lload_n 1, 1) := by decide +kernel
theorem dX12_number_92 : decode cX12_number 92 = .ok (.goto 22, 3) := by decide +kernel
theorem dX12_number_95 : decode cX12_number 95 = .ok (.ldc2_w 172, 3) := by decide +kernel
theorem dX12_number_98 : decode cX12_number 98 = .ok (.lload_n 1, 1) := by decide +kernel
theorem dX12_number_99 : decode cX12_number 99 = .ok (.lmul, 1) := by decide +kernel
theorem dX12_number_100 : decode cX12_number 100 = .ok (.aload_n 0, 1) := by decide +kernel
theorem dX12_number_101 : decode cX12_number 101 = .ok (.aload_n 0, 1) := by decide +kernel
theorem dX12_number_102 : decode cX12_number 102 = .ok (.getfield 29, 3) := by decide +kernel
theorem dX12_number_105 : decode cX12_number 105 = .ok (.invokevirtual 136, 3) := by decide +kernel
theorem dX12_number_108 : decode cX12_number 108 = .ok (.i2l, 1) := by decide +kernel
theorem dX12_number_109 : decode cX12_number 109 = .ok (.ladd, 1) := by decide +kernel
theorem dX12_number_110 : decode cX12_number 110 = .ok (.ldc2_w 174, 3) := by decide +kernel
theorem dX12_number_113 : decode cX12_number 113 = .ok (.lsub, 1) := by decide +kernel
theorem dX12_number_114 : decode cX12_number 114 = .ok (.lstore_n 1, 1) := by decide +kernel
theorem dX12_number_115 : decode cX12_number 115 = .ok (.aload_n 0, 1) := by decide +kernel
theorem dX12_number_116 : decode cX12_number 116 = .ok (.dup, 1) := by decide +kernel
theorem dX12_number_117 : decode cX12_number 117 = .ok (.getfield 29, 3) := by decide +kernel
theorem dX12_number_120 : decode cX12_number 120 = .ok (.iconst 1, 1) := by decide +kernel
theorem dX12_number_121 : decode cX12_number 121 = .ok (.iadd, 1) := by decide +kernel
theorem dX12_number_122 : decode cX12_number 122 = .ok (.putfield 29, 3) := by decide +kernel
theorem dX12_number_125 : decode cX12_number 125 = .ok (.goto (-53), 3) := by decide +kernel
theorem dX12_number_128 : decode cX12_number 128 = .ok (.lload_n 1, 1) := by decide +kernel
theorem dX12_number_129 : decode cX12_number 129 = .ok (.ldc2_w 170, 3) := by decide +kernel
theorem dX12_number_132 : decode cX12_number 132 = .ok (.lcmp, 1) := by decide +kernel
theorem dX12_number_133 : decode cX12_number 133 = .ok (.ifCond .le 12, 3) := by decide +kernel
theorem dX12_number_136 : decode cX12_number 136 = .ok (.aload_n 0, 1) := by decide +kernel
theorem dX12_number_137 : decode cX12_number 137 = .ok (.iconst 2, 1) := by decide +kernel
theorem dX12_number_138 : decode cX12_number 138 = .ok (.aload_n 0, 1) := by decide +kernel
theorem dX12_number_139 : decode cX12_number 139 = .ok (.getfield 32, 3) := by decide +kernel
theorem dX12_number_142 : decode cX12_number 142 = .ok (.invokevirtual 147, 3) := by decide +kernel
theorem dX12_number_145 : decode cX12_number 145 = .ok (.aload_n 0, 1) := by decide +kernel
theorem dX12_number_146 : decode cX12_number 146 = .ok (.invokevirtual 139, 3) := by decide +kernel
theorem dX12_number_149 : decode cX12_number 149 = .ok (.ifCond .eq 7, 3) := by decide +kernel
theorem dX12_number_152 : decode cX12_number 152 = .ok (.lload_n 1, 1) := by decide +kernel
theorem dX12_number_153 : decode cX12_number 153 = .ok (.goto 4, 3) := by decide +kernel
theorem dX12_number_156 : decode cX12_number 156 = .ok (.lconst 0, 1) := by decide +kernel
theorem dX12_number_157 : decode cX12_number 157 = .ok (.lreturn, 1) := by decide +kernel
theorem dX12_modulo_0 : decode cX12_modulo 0 = .ok (.lload_n 1, 1) := by decide +kernel
theorem dX12_modulo_1 : decode cX12_modulo 1 = .ok (.aload_n 0, 1) := by decide +kernel
theorem dX12_modulo_2 : decode cX12_modulo 2 = .ok (.getfield 41, 3) := by decide +kernel
theorem dX12_modulo_5 : decode cX12_modulo 5 = .ok (.i2l, 1) := by decide +kernel
theorem dX12_modulo_6 : decode cX12_modulo 6 = .ok (.lrem, 1) := by decide +kernel
theorem dX12_modulo_7 : decode cX12_modulo 7 = .ok (.lstore_n 3, 1) := by decide +kernel
theorem dX12_modulo_8 : decode cX12_modulo 8 = .ok (.lload_n 3, 1) := by decide +kernel
theorem dX12_modulo_9 : decode cX12_modulo 9 = .ok (.lconst 0, 1) := by decide +kernel
theorem dX12_modulo_10 : decode cX12_modulo 10 = .ok (.lcmp, 1) := by decide +kernel
theorem dX12_modulo_11 : decode cX12_modulo 11 = .ok (.ifCond .ge 13, 3) := by decide +kernel
theorem dX12_modulo_14 : decode cX12_modulo 14 = .ok (.lload_n 3, 1) := by decide +kernel
theorem dX12_modulo_15 : decode cX12_modulo 15 = .ok (.aload_n 0, 1) := by decide +kernel
theorem dX12_modulo_16 : decode cX12_modulo 16 = .ok (.getfield 41, 3) := by decide +kernel
theorem dX12_modulo_19 : decode cX12_modulo 19 = .ok (.i2l, 1) := by decide +kernel
theorem dX12_modulo_20 : decode cX12_modulo 20 = .ok (.ladd, 1) := by decide +kernel
theorem dX12_modulo_21 : decode cX12_modulo 21 = .ok (.goto 4, 3) := by decide +kernel
theorem dX12_modulo_24 : decode cX12_modulo 24 = .ok (.lload_n 3, 1) := by decide +kernel
theorem dX12_modulo_25 : decode cX12_modulo 25 = .ok (.l2i, 1) := by decide +kernel
theorem dX12_modulo_26 : decode cX12_modulo 26 = .ok (.ireturn, 1) := by decide +kernel
theorem dX12_power_0 : decode cX12_power 0 = .ok (.lconst 1, 1) := by decide +kernel
theorem dX12_power_1 : decode cX12_power 1 = .ok (.lstore_n 3, 1) := by decide +kernel
theorem dX12_power_2 : decode cX12_power 2 = .ok (.iconst 0, 1) := by decide +kernel
theorem dX12_power_3 : decode cX12_power 3 = .ok (.istore 5, 2) := by decide +kernel
theorem dX12_power_5 : decode cX12_power 5 = .ok (.iload 5, 2) := by decide +kernel
theorem dX12_power_7 : decode cX12_power 7 = .ok (.iload_n 2, 1) := by decide +kernel
theorem dX12_power_8 : decode cX12_power 8 = .ok (.if_icmp .ge 20, 3) := by decide +kernel
theorem dX12_power_11 : decode cX12_power 11 = .ok (.lload_n 3, 1) := by decide +kernel
theorem dX12_power_12 : decode cX12_power 12 = .ok (.iload_n 1, 1) := by decide +kernel
theorem dX12_power_13 : decode cX12_power 13 = .ok (.i2l, 1) := by decide +kernel
theorem dX12_power_14 : decode cX12_power 14 = .ok (.lmul, 1) := by decide +kernel
theorem dX12_power_15 : decode cX12_power 15 = .ok (.aload_n 0, 1) := by decide +kernel
theorem dX12_power_16 : decode cX12_power 16 = .ok (.getfield 41, 3) := by decide +kernel
theorem dX12_power_19 : decode cX12_power 19 = .ok (.i2l, 1) := by decide +kernel
theorem dX12_power_20 : decode cX12_power 20 = .ok (.lrem, 1) := by decide +kernel
theorem dX12_power_21 : decode cX12_power 21 = .ok (.lstore_n 3, 1) := by decide +kernel
theorem dX12_power_22 : decode cX12_power 22 = .ok (.iinc 5 1, 3) := by decide +kernel
theorem dX12_power_25 : decode cX12_power 25 = .ok (.goto (-20), 3) := by decide +kernel
theorem dX12_power_28 : decode cX12_power 28 = .ok (.aload_n 0, 1) := by decide +kernel
theorem dX12_power_29 : decode cX12_power 29 = .ok (.lload_n 3, 1) := by decide +kernel
theorem dX12_power_30 : decode cX12_power 30 = .ok (.invokevirtual 176, 3) := by decide +kernel
theorem dX12_power_33 : decode cX12_power 33 = .ok (.ireturn, 1) := by decide +kernel
theorem dX12_inverse_0 : decode cX12_inverse 0 = .ok (.aload_n 0, 1) := by decide +kernel
theorem dX12_inverse_1 : decode cX12_inverse 1 = .ok (.iload_n 1, 1) := by decide +kernel
theorem dX12_inverse_2 : decode cX12_inverse 2 = .ok (.aload_n 0, 1) := by decide +kernel
theorem dX12_inverse_3 : decode cX12_inverse 3 = .ok (.getfield 41, 3) := by decide +kernel
theorem dX12_inverse_6 : decode cX12_inverse 6 = .ok (.iconst 2, 1) := by decide +kernel
theorem dX12_inverse_7 : decode cX12_inverse 7 = .ok (.isub, 1) := by decide +kernel
theorem dX12_inverse_8 : decode cX12_inverse 8 = .ok (.invokevirtual 180, 3) := by decide +kernel
theorem dX12_inverse_11 : decode cX12_inverse 11 = .ok (.ireturn, 1) := by decide +kernel
theorem dX12_cell_0 : decode cX12_cell 0 = .ok (.aload_n 0, 1) := by decide +kernel
theorem dX12_cell_1 : decode cX12_cell 1 = .ok (.getfield 44, 3) := by decide +kernel
theorem dX12_cell_4 : decode cX12_cell 4 = .ok (.bipush 25, 2) := by decide +kernel
theorem dX12_cell_6 : decode cX12_cell 6 = .ok (.iload_n 1, 1) := by decide +kernel
theorem dX12_cell_7 : decode cX12_cell 7 = .ok (.imul, 1) := by decide +kernel
theorem dX12_cell_8 : decode cX12_cell 8 = .ok (.iconst 5, 1) := by decide +kernel
theorem dX12_cell_9 : decode cX12_cell 9 = .ok (.iload_n 2, 1) := by decide +kernel
theorem dX12_cell_10 : decode cX12_cell 10 = .ok (.imul, 1) := by decide +kernel
theorem dX12_cell_11 : decode cX12_cell 11 = .ok (.iadd, 1) := by decide +kernel
theorem dX12_cell_12 : decode cX12_cell 12 = .ok (.iload_n 3, 1) := by decide +kernel
theorem dX12_cell_13 : decode cX12_cell 13 = .ok (.iadd, 1) := by decide +kernel
theorem dX12_cell_14 : decode cX12_cell 14 = .ok (.iaload, 1) := by decide +kernel
theorem dX12_cell_15 : decode cX12_cell 15 = .ok (.ireturn, 1) := by decide +kernel
theorem dX12_sets_0 : decode cX12_sets 0 = .ok (.aload_n 0, 1) := by decide +kernel
theorem dX12_sets_1 : decode cX12_sets 1 = .ok (.getfield 44, 3) := by decide +kernel
theorem dX12_sets_4 : decode cX12_sets 4 = .ok (.bipush 25, 2) := by decide +kernel
theorem dX12_sets_6 : decode cX12_sets 6 = .ok (.iload_n 1, 1) := by decide +kernel
theorem dX12_sets_7 : decode cX12_sets 7 = .ok (.imul, 1) := by decide +kernel
theorem dX12_sets_8 : decode cX12_sets 8 = .ok (.iconst 5, 1) := by decide +kernel
theorem dX12_sets_9 : decode cX12_sets 9 = .ok (.iload_n 2, 1) := by decide +kernel
theorem dX12_sets_10 : decode cX12_sets 10 = .ok (.imul, 1) := by decide +kernel
theorem dX12_sets_11 : decode cX12_sets 11 = .ok (.iadd, 1) := by decide +kernel
theorem dX12_sets_12 : decode cX12_sets 12 = .ok (.iload_n 3, 1) := by decide +kernel
theorem dX12_sets_13 : decode cX12_sets 13 = .ok (.iadd, 1) := by decide +kernel
theorem dX12_sets_14 : decode cX12_sets 14 = .ok (.aload_n 0, 1) := by decide +kernel
theorem dX12_sets_15 : decode cX12_sets 15 = .ok (.lload 4, 2) := by decide +kernel
theorem dX12_sets_17 : decode cX12_sets 17 = .ok (.invokevirtual 176, 3) := by decide +kernel
theorem dX12_sets_20 : decode cX12_sets 20 = .ok (.iastore, 1) := by decide +kernel
theorem dX12_sets_21 : decode cX12_sets 21 = .ok (.return_, 1) := by decide +kernel
theorem dX12_empties_0 : decode cX12_empties 0 = .ok (.iconst 0, 1) := by decide +kernel
theorem dX12_empties_1 : decode cX12_empties 1 = .ok (.istore_n 2, 1) := by decide +kernel
theorem dX12_empties_2 : decode cX12_empties 2 = .ok (.iload_n 2, 1) := by decide +kernel
theorem dX12_empties_3 : decode cX12_empties 3 = .ok (.bipush 25, 2) := by decide +kernel
theorem dX12_empties_5 : decode cX12_empties 5 = .ok (.if_icmp .ge 21, 3) := by decide +kernel
theorem dX12_empties_8 : decode cX12_empties 8 = .ok (.aload_n 0, 1) := by decide +kernel
theorem dX12_empties_9 : decode cX12_empties 9 = .ok (.getfield 44, 3) := by decide +kernel
theorem dX12_empties_12 : decode cX12_empties 12 = .ok (.bipush 25, 2) := by decide +kernel
theorem dX12_empties_14 : decode cX12_empties 14 = .ok (.iload_n 1, 1) := by decide +kernel
theorem dX12_empties_15 : decode cX12_empties 15 = .ok (.imul, 1) := by decide +kernel
theorem dX12_empties_16 : decode cX12_empties 16 = .ok (.iload_n 2, 1) := by decide +kernel
theorem dX12_empties_17 : decode cX12_empties 17 = .ok (.iadd, 1) := by decide +kernel
theorem dX12_empties_18 : decode cX12_empties 18 = .ok (.iconst 0, 1) := by decide +kernel
theorem dX12_empties_19 : decode cX12_empties 19 = .ok (.iastore, 1) := by decide +kernel
theorem dX12_empties_20 : decode cX12_empties 20 = .ok (.iinc 2 1, 3) := by decide +kernel
theorem dX12_empties_23 : decode cX12_empties 23 = .ok (.goto (-21), 3) := by decide +kernel
theorem dX12_empties_26 : decode cX12_empties 26 = .ok (.return_, 1) := by decide +kernel
theorem dX12_copies_0 : decode cX12_copies 0 = .ok (.iconst 0, 1) := by decide +kernel
theorem dX12_copies_1 : decode cX12_copies 1 = .ok (.istore_n 3, 1) := by decide +kernel
theorem dX12_copies_2 : decode cX12_copies 2 = .ok (.iload_n 3, 1) := by decide +kernel
theorem dX12_copies_3 : decode cX12_copies 3 = .ok (.bipush 25, 2) := by decide +kernel
theorem dX12_copies_5 : decode cX12_copies 5 = .ok (.if_icmp .ge 31, 3) := by decide +kernel
theorem dX12_copies_8 : decode cX12_copies 8 = .ok (.aload_n 0, 1) := by decide +kernel
theorem dX12_copies_9 : decode cX12_copies 9 = .ok (.getfield 44, 3) := by decide +kernel
theorem dX12_copies_12 : decode cX12_copies 12 = .ok (.bipush 25, 2) := by decide +kernel
theorem dX12_copies_14 : decode cX12_copies 14 = .ok (.iload_n 1, 1) := by decide +kernel
theorem dX12_copies_15 : decode cX12_copies 15 = .ok (.imul, 1) := by decide +kernel
theorem dX12_copies_16 : decode cX12_copies 16 = .ok (.iload_n 3, 1) := by decide +kernel
theorem dX12_copies_17 : decode cX12_copies 17 = .ok (.iadd, 1) := by decide +kernel
theorem dX12_copies_18 : decode cX12_copies 18 = .ok (.aload_n 0, 1) := by decide +kernel
theorem dX12_copies_19 : decode cX12_copies 19 = .ok (.getfield 44, 3) := by decide +kernel
theorem dX12_copies_22 : decode cX12_copies 22 = .ok (.bipush 25, 2) := by decide +kernel
theorem dX12_copies_24 : decode cX12_copies 24 = .ok (.iload_n 2, 1) := by decide +kernel
theorem dX12_copies_25 : decode cX12_copies 25 = .ok (.imul, 1) := by decide +kernel
theorem dX12_copies_26 : decode cX12_copies 26 = .ok (.iload_n 3, 1) := by decide +kernel
theorem dX12_copies_27 : decode cX12_copies 27 = .ok (.iadd, 1) := by decide +kernel
theorem dX12_copies_28 : decode cX12_copies 28 = .ok (.iaload, 1) := by decide +kernel
theorem dX12_copies_29 : decode cX12_copies 29 = .ok (.iastore, 1) := by decide +kernel
theorem dX12_copies_30 : decode cX12_copies 30 = .ok (.iinc 3 1, 3) := by decide +kernel
theorem dX12_copies_33 : decode cX12_copies 33 = .ok (.goto (-31), 3) := by decide +kernel
theorem dX12_copies_36 : decode cX12_copies 36 = .ok (.return_, 1) := by decide +kernel
theorem dX12_degreeOf_0 : decode cX12_degreeOf 0 = .ok (.iconst (-1), 1) := by decide +kernel
theorem dX12_degreeOf_1 : decode cX12_degreeOf 1 = .ok (.istore_n 2, 1) := by decide +kernel
theorem dX12_degreeOf_2 : decode cX12_degreeOf 2 = .ok (.iconst 0, 1) := by decide +kernel
theorem dX12_degreeOf_3 : decode cX12_degreeOf 3 = .ok (.istore_n 3, 1) := by decide +kernel
theorem dX12_degreeOf_4 : decode cX12_degreeOf 4 = .ok (.iload_n 3, 1) := by decide +kernel
theorem dX12_degreeOf_5 : decode cX12_degreeOf 5 = .ok (.iconst 4, 1) := by decide +kernel
theorem dX12_degreeOf_6 : decode cX12_degreeOf 6 = .ok (.if_icmp .gt 54, 3) := by decide +kernel
theorem dX12_degreeOf_9 : decode cX12_degreeOf 9 = .ok (.iconst 0, 1) := by decide +kernel
theorem dX12_degreeOf_10 : decode cX12_degreeOf 10 = .ok (.istore 4, 2) := by decide +kernel
theorem dX12_degreeOf_12 : decode cX12_degreeOf 12 = .ok (.iload_n 3, 1) := by decide +kernel
theorem dX12_degreeOf_13 : decode cX12_degreeOf 13 = .ok (.iload 4, 2) := by decide +kernel
theorem dX12_degreeOf_15 : decode cX12_degreeOf 15 = .ok (.iadd, 1) := by decide +kernel
theorem dX12_degreeOf_16 : decode cX12_degreeOf 16 = .ok (.iconst 4, 1) := by decide +kernel
theorem dX12_degreeOf_17 : decode cX12_degreeOf 17 = .ok (.if_icmp .gt 37, 3) := by decide +kernel
theorem dX12_degreeOf_20 : decode cX12_degreeOf 20 = .ok (.aload_n 0, 1) := by decide +kernel
theorem dX12_degreeOf_21 : decode cX12_degreeOf 21 = .ok (.iload_n 1, 1) := by decide +kernel
theorem dX12_degreeOf_22 : decode cX12_degreeOf 22 = .ok (.iload_n 3, 1) := by decide +kernel
theorem dX12_degreeOf_23 : decode cX12_degreeOf 23 = .ok (.iload 4, 2) := by decide +kernel
theorem dX12_degreeOf_25 : decode cX12_degreeOf 25 = .ok (.invokevirtual 184, 3) := by decide +kernel
theorem dX12_degreeOf_28 : decode cX12_degreeOf 28 = .ok (.ifCond .eq 18, 3) := by decide +kernel
theorem dX12_degreeOf_31 : decode cX12_degreeOf 31 = .ok (.iload_n 3, 1) := by decide +kernel
theorem dX12_degreeOf_32 : decode cX12_degreeOf 32 = .ok (.iload 4, 2) := by decide +kernel
theorem dX12_degreeOf_34 : decode cX12_degreeOf 34 = .ok (.iadd, 1) := by decide +kernel
theorem dX12_degreeOf_35 : decode cX12_degreeOf 35 = .ok (.iload_n 2, 1) := by decide +kernel
theorem dX12_degreeOf_36 : decode cX12_degreeOf 36 = .ok (.if_icmp .le 10, 3) := by decide +kernel
theorem dX12_degreeOf_39 : decode cX12_degreeOf 39 = .ok (.iload_n 3, 1) := by decide +kernel
theorem dX12_degreeOf_40 : decode cX12_degreeOf 40 = .ok (.iload 4, 2) := by decide +kernel
theorem dX12_degreeOf_42 : decode cX12_degreeOf 42 = .ok (.iadd, 1) := by decide +kernel
theorem dX12_degreeOf_43 : decode cX12_degreeOf 43 = .ok (.goto 4, 3) := by decide +kernel
theorem dX12_degreeOf_46 : decode cX12_degreeOf 46 = .ok (.iload_n 2, 1) := by decide +kernel
theorem dX12_degreeOf_47 : decode cX12_degreeOf 47 = .ok (.istore_n 2, 1) := by decide +kernel
theorem dX12_degreeOf_48 : decode cX12_degreeOf 48 = .ok (.iinc 4 1, 3) := by decide +kernel
theorem dX12_degreeOf_51 : decode cX12_degreeOf 51 = .ok (.goto (-39), 3) := by decide +kernel
theorem dX12_degreeOf_54 : decode cX12_degreeOf 54 = .ok (.iinc 3 1, 3) := by decide +kernel
theorem dX12_degreeOf_57 : decode cX12_degreeOf 57 = .ok (.goto (-53), 3) := by decide +kernel
theorem dX12_degreeOf_60 : decode cX12_degreeOf 60 = .ok (.iload_n 2, 1) := by decide +kernel
theorem dX12_degreeOf_61 : decode cX12_degreeOf 61 = .ok (.ireturn, 1) := by decide +kernel
theorem dX12_adds_0 : decode cX12_adds 0 = .ok (.iconst 0, 1) := by decide +kernel
theorem dX12_adds_1 : decode cX12_adds 1 = .ok (.istore 5, 2) := by decide +kernel
theorem dX12_adds_3 : decode cX12_adds 3 = .ok (.iload 5, 2) := by decide +kernel
theorem dX12_adds_5 : decode cX12_adds 5 = .ok (.iconst 4, 1) := by decide +kernel
theorem dX12_adds_6 : decode cX12_adds 6 = .ok (.if_icmp .gt 56, 3) := by decide +kernel
theorem dX12_adds_9 : decode cX12_adds 9 = .ok (.iconst 0, 1) := by decide +kernel
theorem dX12_adds_10 : decode cX12_adds 10 = .ok (.istore 6, 2) := by decide +kernel
theorem dX12_adds_12 : decode cX12_adds 12 = .ok (.iload 6, 2) := by decide +kernel
theorem dX12_adds_14 : decode cX12_adds 14 = .ok (.iconst 4, 1) := by decide +kernel
theorem dX12_adds_15 : decode cX12_adds 15 = .ok (.if_icmp .gt 41, 3) := by decide +kernel
theorem dX12_adds_18 : decode cX12_adds 18 = .ok (.aload_n 0, 1) := by decide +kernel
theorem dX12_adds_19 : decode cX12_adds 19 = .ok (.iload_n 1, 1) := by decide +kernel
theorem dX12_adds_20 : decode cX12_adds 20 = .ok (.iload 5, 2) := by decide +kernel
theorem dX12_adds_22 : decode cX12_adds 22 = .ok (.iload 6, 2) := by decide +kernel
theorem dX12_adds_24 : decode cX12_adds 24 = .ok (.aload_n 0, 1) := by decide +kernel
theorem dX12_adds_25 : decode cX12_adds 25 = .ok (.iload_n 1, 1) := by decide +kernel
theorem dX12_adds_26 : decode cX12_adds 26 = .ok (.iload 5, 2) := by decide +kernel
theorem dX12_adds_28 : decode cX12_adds 28 = .ok (.iload 6, 2) := by decide +kernel
theorem dX12_adds_30 : decode cX12_adds 30 = .ok (.invokevirtual 184, 3) := by decide +kernel
theorem dX12_adds_33 : decode cX12_adds 33 = .ok (.i2l, 1) := by decide +kernel
theorem dX12_adds_34 : decode cX12_adds 34 = .ok (.lload_n 3, 1) := by decide +kernel
theorem dX12_adds_35 : decode cX12_adds 35 = .ok (.aload_n 0, 1) := by decide +kernel
theorem dX12_adds_36 : decode cX12_adds 36 = .ok (.iload_n 2, 1) := by decide +kernel
theorem dX12_adds_37 : decode cX12_adds 37 = .ok (.iload 5, 2) := by decide +kernel
theorem dX12_adds_39 : decode cX12_adds 39 = .ok (.iload 6, 2) := by decide +kernel
theorem dX12_adds_41 : decode cX12_adds 41 = .ok (.invokevirtual 184, 3) := by decide +kernel
theorem dX12_adds_44 : decode cX12_adds 44 = .ok (.i2l, 1) := by decide +kernel
theorem dX12_adds_45 : decode cX12_adds 45 = .ok (.lmul, 1) := by decide +kernel
theorem dX12_adds_46 : decode cX12_adds 46 = .ok (.ladd, 1) := by decide +kernel
theorem dX12_adds_47 : decode cX12_adds 47 = .ok (.invokevirtual 188, 3) := by decide +kernel
theorem dX12_adds_50 : decode cX12_adds 50 = .ok (.iinc 6 1, 3) := by decide +kernel
theorem dX12_adds_53 : decode cX12_adds 53 = .ok (.goto (-41), 3) := by decide +kernel
theorem dX12_adds_56 : decode cX12_adds 56 = .ok (.iinc 5 1, 3) := by decide +kernel
theorem dX12_adds_59 : decode cX12_adds 59 = .ok (.goto (-56), 3) := by decide +kernel
theorem dX12_adds_62 : decode cX12_adds 62 = .ok (.return_, 1) := by decide +kernel
theorem dX12_multiplies_0 : decode cX12_multiplies 0 = .ok (.iconst 0, 1) := by decide +kernel
theorem dX12_multiplies_1 : decode cX12_multiplies 1 = .ok (.istore 4, 2) := by decide +kernel
theorem dX12_multiplies_3 : decode cX12_multiplies 3 = .ok (.iload 4, 2) := by decide +kernel
theorem dX12_multiplies_5 : decode cX12_multiplies 5 = .ok (.bipush 81, 2) := by decide +kernel
theorem dX12_multiplies_7 : decode cX12_multiplies 7 = .ok (.if_icmp .ge 17, 3) := by decide +kernel
theorem dX12_multiplies_10 : decode cX12_multiplies 10 = .ok (.aload_n 0, 1) := by decide +kernel
theorem dX12_multiplies_11 : decode cX12_multiplies 11 = .ok (.getfield 47, 3) := by decide +kernel
theorem dX12_multiplies_14 : decode cX12_multiplies 14 = .ok (.iload 4, 2) := by decide +kernel
theorem dX12_multiplies_16 : decode cX12_multiplies 16 = .ok (.lconst 0, 1) := by decide +kernel
theorem dX12_multiplies_17 : decode cX12_multiplies 17 = .ok (.lastore, 1) := by decide +kernel
theorem dX12_multiplies_18 : decode cX12_multiplies 18 = .ok (.iinc 4 1, 3) := by decide +kernel
theorem dX12_multiplies_21 : decode cX12_multiplies 21 = .ok (.goto (-18), 3) := by decide +kernel
theorem dX12_multiplies_24 : decode cX12_multiplies 24 = .ok (.iconst 0, 1) := by decide +kernel
theorem dX12_multiplies_25 : decode cX12_multiplies 25 = .ok (.istore 4, 2) := by decide +kernel
theorem dX12_multiplies_27 : decode cX12_multiplies 27 = .ok (.iload 4, 2) := by decide +kernel
theorem dX12_multiplies_29 : decode cX12_multiplies 29 = .ok (.iconst 4, 1) := by decide +kernel
theorem dX12_multiplies_30 : decode cX12_multiplies 30 = .ok (.if_icmp .gt 118, 3) := by decide +kernel
theorem dX12_multiplies_33 : decode cX12_multiplies 33 = .ok (.iconst 0, 1) := by decide +kernel
theorem dX12_multiplies_34 : decode cX12_multiplies 34 = .ok (.istore 5, 2) := by decide +kernel
theorem dX12_multiplies_36 : decode cX12_multiplies 36 = .ok (.iload 4, 2) := by decide +kernel
theorem dX12_multiplies_38 : decode cX12_multiplies 38 = .ok (.iload 5, 2) := by decide +kernel
theorem dX12_multiplies_40 : decode cX12_multiplies 40 = .ok (.iadd, 1) := by decide +kernel
theorem dX12_multiplies_41 : decode cX12_multiplies 41 = .ok (.iconst 4, 1) := by decide +kernel
theorem dX12_multiplies_42 : decode cX12_multiplies 42 = .ok (.if_icmp .gt 100, 3) := by decide +kernel
theorem dX12_multiplies_45 : decode cX12_multiplies 45 = .ok (.aload_n 0, 1) := by decide +kernel
theorem dX12_multiplies_46 : decode cX12_multiplies 46 = .ok (.iload_n 2, 1) := by decide +kernel
theorem dX12_multiplies_47 : decode cX12_multiplies 47 = .ok (.iload 4, 2) := by decide +kernel
theorem dX12_multiplies_49 : decode cX12_multiplies 49 = .ok (.iload 5, 2) := by decide +kernel
theorem dX12_multiplies_51 : decode cX12_multiplies 51 = .ok (.invokevirtual 184, 3) := by decide +kernel
theorem dX12_multiplies_54 : decode cX12_multiplies 54 = .ok (.ifCond .ne 6, 3) := by decide +kernel
theorem dX12_multiplies_57 : decode cX12_multiplies 57 = .ok (.goto 79, 3) := by decide +kernel
theorem dX12_multiplies_60 : decode cX12_multiplies 60 = .ok (.iconst 0, 1) := by decide +kernel
theorem dX12_multiplies_61 : decode cX12_multiplies 61 = .ok (.istore 6, 2) := by decide +kernel
theorem dX12_multiplies_63 : decode cX12_multiplies 63 = .ok (.iload 6, 2) := by decide +kernel
theorem dX12_multiplies_65 : decode cX12_multiplies 65 = .ok (.iconst 4, 1) := by decide +kernel
theorem dX12_multiplies_66 : decode cX12_multiplies 66 = .ok (.if_icmp .gt 70, 3) := by decide +kernel
theorem dX12_multiplies_69 : decode cX12_multiplies 69 = .ok (.iconst 0, 1) := by decide +kernel
theorem dX12_multiplies_70 : decode cX12_multiplies 70 = .ok (.istore 7, 2) := by decide +kernel
theorem dX12_multiplies_72 : decode cX12_multiplies 72 = .ok (.iload 6, 2) := by decide +kernel
theorem dX12_multiplies_74 : decode cX12_multiplies 74 = .ok (.iload 7, 2) := by decide +kernel
theorem dX12_multiplies_76 : decode cX12_multiplies 76 = .ok (.iadd, 1) := by decide +kernel
theorem dX12_multiplies_77 : decode cX12_multiplies 77 = .ok (.iconst 4, 1) := by decide +kernel
theorem dX12_multiplies_78 : decode cX12_multiplies 78 = .ok (.if_icmp .gt 52, 3) := by decide +kernel
theorem dX12_multiplies_81 : decode cX12_multiplies 81 = .ok (.aload_n 0, 1) := by decide +kernel
theorem dX12_multiplies_82 : decode cX12_multiplies 82 = .ok (.getfield 47, 3) := by decide +kernel
theorem dX12_multiplies_85 : decode cX12_multiplies 85 = .ok (.bipush 9, 2) := by decide +kernel
theorem dX12_multiplies_87 : decode cX12_multiplies 87 = .ok (.iload 4, 2) := by decide +kernel
theorem dX12_multiplies_89 : decode cX12_multiplies 89 = .ok (.iload 6, 2) := by decide +kernel
theorem dX12_multiplies_91 : decode cX12_multiplies 91 = .ok (.iadd, 1) := by decide +kernel
theorem dX12_multiplies_92 : decode cX12_multiplies 92 = .ok (.imul, 1) := by decide +kernel
theorem dX12_multiplies_93 : decode cX12_multiplies 93 = .ok (.iload 5, 2) := by decide +kernel
theorem dX12_multiplies_95 : decode cX12_multiplies 95 = .ok (.iadd, 1) := by decide +kernel
theorem dX12_multiplies_96 : decode cX12_multiplies 96 = .ok (.iload 7, 2) := by decide +kernel
theorem dX12_multiplies_98 : decode cX12_multiplies 98 = .ok (.iadd, 1) := by decide +kernel
theorem dX12_multiplies_99 : decode cX12_multiplies 99 = .ok (.dup2, 1) := by decide +kernel
theorem dX12_multiplies_100 : decode cX12_multiplies 100 = .ok (.laload, 1) := by decide +kernel
theorem dX12_multiplies_101 : decode cX12_multiplies 101 = .ok (.aload_n 0, 1) := by decide +kernel
theorem dX12_multiplies_102 : decode cX12_multiplies 102 = .ok (.iload_n 2, 1) := by decide +kernel
theorem dX12_multiplies_103 : decode cX12_multiplies 103 = .ok (.iload 4, 2) := by decide +kernel
theorem dX12_multiplies_105 : decode cX12_multiplies 105 = .ok (.iload 5, 2) := by decide +kernel
theorem dX12_multiplies_107 : decode cX12_multiplies 107 = .ok (.invokevirtual 184, 3) := by decide +kernel
theorem dX12_multiplies_110 : decode cX12_multiplies 110 = .ok (.i2l, 1) := by decide +kernel
theorem dX12_multiplies_111 : decode cX12_multiplies 111 = .ok (.aload_n 0, 1) := by decide +kernel
theorem dX12_multiplies_112 : decode cX12_multiplies 112 = .ok (.iload_n 3, 1) := by decide +kernel
theorem dX12_multiplies_113 : decode cX12_multiplies 113 = .ok (.iload 6, 2) := by decide +kernel
theorem dX12_multiplies_115 : decode cX12_multiplies 115 = .ok (.iload 7, 2) := by decide +kernel
theorem dX12_multiplies_117 : decode cX12_multiplies 117 = .ok (.invokevirtual 184, 3) := by decide +kernel
theorem dX12_multiplies_120 : decode cX12_multiplies 120 = .ok (.i2l, 1) := by decide +kernel
theorem dX12_multiplies_121 : decode cX12_multiplies 121 = .ok (.lmul, 1) := by decide +kernel
theorem dX12_multiplies_122 : decode cX12_multiplies 122 = .ok (.ladd, 1) := by decide +kernel
theorem dX12_multiplies_123 : decode cX12_multiplies 123 = .ok (.lastore, 1) := by decide +kernel
theorem dX12_multiplies_124 : decode cX12_multiplies 124 = .ok (.iinc 7 1, 3) := by decide +kernel
theorem dX12_multiplies_127 : decode cX12_multiplies 127 = .ok (.goto (-55), 3) := by decide +kernel
theorem dX12_multiplies_130 : decode cX12_multiplies 130 = .ok (.iinc 6 1, 3) := by decide +kernel
theorem dX12_multiplies_133 : decode cX12_multiplies 133 = .ok (.goto (-70), 3) := by decide +kernel
theorem dX12_multiplies_136 : decode cX12_multiplies 136 = .ok (.iinc 5 1, 3) := by decide +kernel
theorem dX12_multiplies_139 : decode cX12_multiplies 139 = .ok (.goto (-103), 3) := by decide +kernel
theorem dX12_multiplies_142 : decode cX12_multiplies 142 = .ok (.iinc 4 1, 3) := by decide +kernel
theorem dX12_multiplies_145 : decode cX12_multiplies 145 = .ok (.goto (-118), 3) := by decide +kernel
theorem dX12_multiplies_148 : decode cX12_multiplies 148 = .ok (.iconst 0, 1) := by decide +kernel
theorem dX12_multiplies_149 : decode cX12_multiplies 149 = .ok (.istore 4, 2) := by decide +kernel
theorem dX12_multiplies_151 : decode cX12_multiplies 151 = .ok (.iload 4, 2) := by decide +kernel
theorem dX12_multiplies_153 : decode cX12_multiplies 153 = .ok (.bipush 9, 2) := by decide +kernel
theorem dX12_multiplies_155 : decode cX12_multiplies 155 = .ok (.if_icmp .ge 60, 3) := by decide +kernel
theorem dX12_multiplies_158 : decode cX12_multiplies 158 = .ok (.iconst 0, 1) := by decide +kernel
theorem dX12_multiplies_159 : decode cX12_multiplies 159 = .ok (.istore 5, 2) := by decide +kernel
theorem dX12_multiplies_161 : decode cX12_multiplies 161 = .ok (.iload 5, 2) := by decide +kernel
theorem dX12_multiplies_163 : decode cX12_multiplies 163 = .ok (.bipush 9, 2) := by decide +kernel
theorem dX12_multiplies_165 : decode cX12_multiplies 165 = .ok (.if_icmp .ge 44, 3) := by decide +kernel
theorem dX12_multiplies_168 : decode cX12_multiplies 168 = .ok (.iload 4, 2) := by decide +kernel
theorem dX12_multiplies_170 : decode cX12_multiplies 170 = .ok (.iload 5, 2) := by decide +kernel
theorem dX12_multiplies_172 : decode cX12_multiplies 172 = .ok (.iadd, 1) := by decide +kernel
theorem dX12_multiplies_173 : decode cX12_multiplies 173 = .ok (.iconst 4, 1) := by decide +kernel
theorem dX12_multiplies_174 : decode cX12_multiplies 174 = .ok (.if_icmp .le 29, 3) := by decide +kernel
theorem dX12_multiplies_177 : decode cX12_multiplies 177 = .ok (.aload_n 0, 1) := by decide +kernel
theorem dX12_multiplies_178 : decode cX12_multiplies 178 = .ok (.getfield 47, 3) := by decide +kernel
theorem dX12_multiplies_181 : decode cX12_multiplies 181 = .ok (.bipush 9, 2) := by decide +kernel
theorem dX12_multiplies_183 : decode cX12_multiplies 183 = .ok (.iload 4, 2) := by decide +kernel
theorem dX12_multiplies_185 : decode cX12_multiplies 185 = .ok (.imul, 1) := by decide +kernel
theorem dX12_multiplies_186 : decode cX12_multiplies 186 = .ok (.iload 5, 2) := by decide +kernel
theorem dX12_multiplies_188 : decode cX12_multiplies 188 = .ok (.iadd, 1) := by decide +kernel
theorem dX12_multiplies_189 : decode cX12_multiplies 189 = .ok (.laload, 1) := by decide +kernel
theorem dX12_multiplies_190 : decode cX12_multiplies 190 = .ok (.aload_n 0, 1) := by decide +kernel
theorem dX12_multiplies_191 : decode cX12_multiplies 191 = .ok (.getfield 41, 3) := by decide +kernel
theorem dX12_multiplies_194 : decode cX12_multiplies 194 = .ok (.i2l, 1) := by decide +kernel
theorem dX12_multiplies_195 : decode cX12_multiplies 195 = .ok (.lrem, 1) := by decide +kernel
theorem dX12_multiplies_196 : decode cX12_multiplies 196 = .ok (.lconst 0, 1) := by decide +kernel
theorem dX12_multiplies_197 : decode cX12_multiplies 197 = .ok (.lcmp, 1) := by decide +kernel
theorem dX12_multiplies_198 : decode cX12_multiplies 198 = .ok (.ifCond .eq 5, 3) := by decide +kernel
theorem dX12_multiplies_201 : decode cX12_multiplies 201 = .ok (.iconst 0, 1) := by decide +kernel
theorem dX12_multiplies_202 : decode cX12_multiplies 202 = .ok (.ireturn, 1) := by decide +kernel
theorem dX12_multiplies_203 : decode cX12_multiplies 203 = .ok (.iinc 5 1, 3) := by decide +kernel
theorem dX12_multiplies_206 : decode cX12_multiplies 206 = .ok (.goto (-45), 3) := by decide +kernel
theorem dX12_multiplies_209 : decode cX12_multiplies 209 = .ok (.iinc 4 1, 3) := by decide +kernel
theorem dX12_multiplies_212 : decode cX12_multiplies 212 = .ok (.goto (-61), 3) := by decide +kernel
theorem dX12_multiplies_215 : decode cX12_multiplies 215 = .ok (.aload_n 0, 1) := by decide +kernel
theorem dX12_multiplies_216 : decode cX12_multiplies 216 = .ok (.iload_n 1, 1) := by decide +kernel
theorem dX12_multiplies_217 : decode cX12_multiplies 217 = .ok (.invokevirtual 192, 3) := by decide +kernel
theorem dX12_multiplies_220 : decode cX12_multiplies 220 = .ok (.iconst 0, 1) := by decide +kernel
theorem dX12_multiplies_221 : decode cX12_multiplies 221 = .ok (.istore 4, 2) := by decide +kernel
theorem dX12_multiplies_223 : decode cX12_multiplies 223 = .ok (.iload 4, 2) := by decide +kernel
theorem dX12_multiplies_225 : decode cX12_multiplies 225 = .ok (.iconst 4, 1) := by decide +kernel
theorem dX12_multiplies_226 : decode cX12_multiplies 226 = .ok (.if_icmp .gt 49, 3) := by decide +kernel
theorem dX12_multiplies_229 : decode cX12_multiplies 229 = .ok (.iconst 0, 1) := by decide +kernel
theorem dX12_multiplies_230 : decode cX12_multiplies 230 = .ok (.istore 5, 2) := by decide +kernel
theorem dX12_multiplies_232 : decode cX12_multiplies 232 = .ok (.iload 4, 2) := by decide +kernel
theorem dX12_multiplies_234 : decode cX12_multiplies 234 = .ok (.iload 5, 2) := by decide +kernel
theorem dX12_multiplies_236 : decode cX12_multiplies 236 = .ok (.iadd, 1) := by decide +kernel
theorem dX12_multiplies_237 : decode cX12_multiplies 237 = .ok (.iconst 4, 1) := by decide +kernel
theorem dX12_multiplies_238 : decode cX12_multiplies 238 = .ok (.if_icmp .gt 31, 3) := by decide +kernel
theorem dX12_multiplies_241 : decode cX12_multiplies 241 = .ok (.aload_n 0, 1) := by decide +kernel
theorem dX12_multiplies_242 : decode cX12_multiplies 242 = .ok (.iload_n 1, 1) := by decide +kernel
theorem dX12_multiplies_243 : decode cX12_multiplies 243 = .ok (.iload 4, 2) := by decide +kernel
theorem dX12_multiplies_245 : decode cX12_multiplies 245 = .ok (.iload 5, 2) := by decide +kernel
theorem dX12_multiplies_247 : decode cX12_multiplies 247 = .ok (.aload_n 0, 1) := by decide +kernel
theorem dX12_multiplies_248 : decode cX12_multiplies 248 = .ok (.getfield 47, 3) := by decide +kernel
theorem dX12_multiplies_251 : decode cX12_multiplies 251 = .ok (.bipush 9, 2) := by decide +kernel
theorem dX12_multiplies_253 : decode cX12_multiplies 253 = .ok (.iload 4, 2) := by decide +kernel
theorem dX12_multiplies_255 : decode cX12_multiplies 255 = .ok (.imul, 1) := by decide +kernel
theorem dX12_multiplies_256 : decode cX12_multiplies 256 = .ok (.iload 5, 2) := by decide +kernel
theorem dX12_multiplies_258 : decode cX12_multiplies 258 = .ok (.iadd, 1) := by decide +kernel
theorem dX12_multiplies_259 : decode cX12_multiplies 259 = .ok (.laload, 1) := by decide +kernel
theorem dX12_multiplies_260 : decode cX12_multiplies 260 = .ok (.invokevirtual 188, 3) := by decide +kernel
theorem dX12_multiplies_263 : decode cX12_multiplies 263 = .ok (.iinc 5 1, 3) := by decide +kernel
theorem dX12_multiplies_266 : decode cX12_multiplies 266 = .ok (.goto (-34), 3) := by decide +kernel
theorem dX12_multiplies_269 : decode cX12_multiplies 269 = .ok (.iinc 4 1, 3) := by decide +kernel
theorem dX12_multiplies_272 : decode cX12_multiplies 272 = .ok (.goto (-49), 3) := by decide +kernel
theorem dX12_multiplies_275 : decode cX12_multiplies 275 = .ok (.iconst 1, 1) := by decide +kernel
theorem dX12_multiplies_276 : decode cX12_multiplies 276 = .ok (.ireturn, 1) := by decide +kernel
theorem dX12_sumOf_0 : decode cX12_sumOf 0 = .ok (.bipush 12, 2) := by decide +kernel
theorem dX12_sumOf_2 : decode cX12_sumOf 2 = .ok (.iconst 3, 1) := by decide +kernel
theorem dX12_sumOf_3 : decode cX12_sumOf 3 = .ok (.iload_n 0, 1) := by decide +kernel
theorem dX12_sumOf_4 : decode cX12_sumOf 4 = .ok (.imul, 1) := by decide +kernel
theorem dX12_sumOf_5 : decode cX12_sumOf 5 = .ok (.iadd, 1) := by decide +kernel
theorem dX12_sumOf_6 : decode cX12_sumOf 6 = .ok (.ireturn, 1) := by decide +kernel
theorem dX12_productOf_0 : decode cX12_productOf 0 = .ok (.bipush 12, 2) := by decide +kernel
theorem dX12_productOf_2 : decode cX12_productOf 2 = .ok (.iconst 3, 1) := by decide +kernel
theorem dX12_productOf_3 : decode cX12_productOf 3 = .ok (.iload_n 0, 1) := by decide +kernel
theorem dX12_productOf_4 : decode cX12_productOf 4 = .ok (.imul, 1) := by decide +kernel
theorem dX12_productOf_5 : decode cX12_productOf 5 = .ok (.iadd, 1) := by decide +kernel
theorem dX12_productOf_6 : decode cX12_productOf 6 = .ok (.iconst 1, 1) := by decide +kernel
theorem dX12_productOf_7 : decode cX12_productOf 7 = .ok (.iadd, 1) := by decide +kernel
theorem dX12_productOf_8 : decode cX12_productOf 8 = .ok (.ireturn, 1) := by decide +kernel
theorem dX12_atomOf_0 : decode cX12_atomOf 0 = .ok (.bipush 12, 2) := by decide +kernel
theorem dX12_atomOf_2 : decode cX12_atomOf 2 = .ok (.iconst 3, 1) := by decide +kernel
theorem dX12_atomOf_3 : decode cX12_atomOf 3 = .ok (.iload_n 0, 1) := by decide +kernel
theorem dX12_atomOf_4 : decode cX12_atomOf 4 = .ok (.imul, 1) := by decide +kernel
theorem dX12_atomOf_5 : decode cX12_atomOf 5 = .ok (.iadd, 1) := by decide +kernel
theorem dX12_atomOf_6 : decode cX12_atomOf 6 = .ok (.iconst 2, 1) := by decide +kernel
theorem dX12_atomOf_7 : decode cX12_atomOf 7 = .ok (.iadd, 1) := by decide +kernel
theorem dX12_atomOf_8 : decode cX12_atomOf 8 = .ok (.ireturn, 1) := by decide +kernel
theorem dX12_beginsSum_0 : decode cX12_beginsSum 0 = .ok (.aload_n 0, 1) := by decide +kernel
theorem dX12_beginsSum_1 : decode cX12_beginsSum 1 = .ok (.aload_n 0, 1) := by decide +kernel
theorem dX12_beginsSum_2 : decode cX12_beginsSum 2 = .ok (.getfield 69, 3) := by decide +kernel
theorem dX12_beginsSum_5 : decode cX12_beginsSum 5 = .ok (.invokestatic 195, 3) := by decide +kernel
theorem dX12_beginsSum_8 : decode cX12_beginsSum 8 = .ok (.invokevirtual 192, 3) := by decide +kernel
theorem dX12_beginsSum_11 : decode cX12_beginsSum 11 = .ok (.aload_n 0, 1) := by decide +kernel
theorem dX12_beginsSum_12 : decode cX12_beginsSum 12 = .ok (.getfield 63, 3) := by decide +kernel
theorem dX12_beginsSum_15 : decode cX12_beginsSum 15 = .ok (.aload_n 0, 1) := by decide +kernel
theorem dX12_beginsSum_16 : decode cX12_beginsSum 16 = .ok (.getfield 69, 3) := by decide +kernel
theorem dX12_beginsSum_19 : decode cX12_beginsSum 19 = .ok (.iconst 1, 1) := by decide +kernel
theorem dX12_beginsSum_20 : decode cX12_beginsSum 20 = .ok (.iastore, 1) := by decide +kernel
theorem dX12_beginsSum_21 : decode cX12_beginsSum 21 = .ok (.aload_n 0, 1) := by decide +kernel
theorem dX12_beginsSum_22 : decode cX12_beginsSum 22 = .ok (.bipush 45, 2) := by decide +kernel
theorem dX12_beginsSum_24 : decode cX12_beginsSum 24 = .ok (.invokevirtual 198, 3) := by decide +kernel
theorem dX12_beginsSum_27 : decode cX12_beginsSum 27 = .ok (.ifCond .eq 23, 3) := by decide +kernel
theorem dX12_beginsSum_30 : decode cX12_beginsSum 30 = .ok (.aload_n 0, 1) := by decide +kernel
theorem dX12_beginsSum_31 : decode cX12_beginsSum 31 = .ok (.dup, 1) := by decide +kernel
theorem dX12_beginsSum_32 : decode cX12_beginsSum 32 = .ok (.getfield 29, 3) := by decide +kernel
theorem dX12_beginsSum_35 : decode cX12_beginsSum 35 = .ok (.iconst 1, 1) := by decide +kernel
theorem dX12_beginsSum_36 : decode cX12_beginsSum 36 = .ok (.iadd, 1) := by decide +kernel
theorem dX12_beginsSum_37 : decode cX12_beginsSum 37 = .ok (.putfield 29, 3) := by decide +kernel
theorem dX12_beginsSum_40 : decode cX12_beginsSum 40 = .ok (.aload_n 0, 1) := by decide +kernel
theorem dX12_beginsSum_41 : decode cX12_beginsSum 41 = .ok (.getfield 63, 3) := by decide +kernel
theorem dX12_beginsSum_44 : decode cX12_beginsSum 44 = .ok (.aload_n 0, 1) := by decide +kernel
theorem dX12_beginsSum_45 : decode cX12_beginsSum 45 = .ok (.getfield 69, 3) := by decide +kernel
theorem dX12_beginsSum_48 : decode cX12_beginsSum 48 = .ok (.iconst (-1), 1) := by decide +kernel
theorem dX12_beginsSum_49 : decode cX12_beginsSum 49 = .ok (.iastore, 1) := by decide +kernel
theorem dX12_beginsSum_50 : decode cX12_beginsSum 50 = .ok (.aload_n 0, 1) := by decide +kernel
theorem dX12_beginsSum_51 : decode cX12_beginsSum 51 = .ok (.invokevirtual 201, 3) := by decide +kernel
theorem dX12_beginsSum_54 : decode cX12_beginsSum 54 = .ok (.return_, 1) := by decide +kernel
theorem dX12_beginsTerm_0 : decode cX12_beginsTerm 0 = .ok (.aload_n 0, 1) := by decide +kernel
theorem dX12_beginsTerm_1 : decode cX12_beginsTerm 1 = .ok (.aload_n 0, 1) := by decide +kernel
theorem dX12_beginsTerm_2 : decode cX12_beginsTerm 2 = .ok (.getfield 69, 3) := by decide +kernel
theorem dX12_beginsTerm_5 : decode cX12_beginsTerm 5 = .ok (.invokestatic 204, 3) := by decide +kernel
theorem dX12_beginsTerm_8 : decode cX12_beginsTerm 8 = .ok (.invokevirtual 192, 3) := by decide +kernel
theorem dX12_beginsTerm_11 : decode cX12_beginsTerm 11 = .ok (.aload_n 0, 1) := by decide +kernel
theorem dX12_beginsTerm_12 : decode cX12_beginsTerm 12 = .ok (.aload_n 0, 1) := by decide +kernel
theorem dX12_beginsTerm_13 : decode cX12_beginsTerm 13 = .ok (.getfield 69, 3) := by decide +kernel
theorem dX12_beginsTerm_16 : decode cX12_beginsTerm 16 = .ok (.invokestatic 204, 3) := by decide +kernel
theorem dX12_beginsTerm_19 : decode cX12_beginsTerm 19 = .ok (.iconst 0, 1) := by decide +kernel
theorem dX12_beginsTerm_20 : decode cX12_beginsTerm 20 = .ok (.iconst 0, 1) := by decide +kernel
theorem dX12_beginsTerm_21 : decode cX12_beginsTerm 21 = .ok (.lconst 1, 1) := by decide +kernel
theorem dX12_beginsTerm_22 : decode cX12_beginsTerm 22 = .ok (.invokevirtual 188, 3) := by decide +kernel
theorem dX12_beginsTerm_25 : decode cX12_beginsTerm 25 = .ok (.return_, 1) := by decide +kernel
theorem dX12_endsTerm_0 : decode cX12_endsTerm 0 = .ok (.aload_n 0, 1) := by decide +kernel
theorem dX12_endsTerm_1 : decode cX12_endsTerm 1 = .ok (.aload_n 0, 1) := by decide +kernel
theorem dX12_endsTerm_2 : decode cX12_endsTerm 2 = .ok (.getfield 69, 3) := by decide +kernel
theorem dX12_endsTerm_5 : decode cX12_endsTerm 5 = .ok (.invokestatic 195, 3) := by decide +kernel
theorem dX12_endsTerm_8 : decode cX12_endsTerm 8 = .ok (.aload_n 0, 1) := by decide +kernel
theorem dX12_endsTerm_9 : decode cX12_endsTerm 9 = .ok (.getfield 69, 3) := by decide +kernel
theorem dX12_endsTerm_12 : decode cX12_endsTerm 12 = .ok (.invokestatic 204, 3) := by decide +kernel
theorem dX12_endsTerm_15 : decode cX12_endsTerm 15 = .ok (.aload_n 0, 1) := by decide +kernel
theorem dX12_endsTerm_16 : decode cX12_endsTerm 16 = .ok (.getfield 63, 3) := by decide +kernel
theorem dX12_endsTerm_19 : decode cX12_endsTerm 19 = .ok (.aload_n 0, 1) := by decide +kernel
theorem dX12_endsTerm_20 : decode cX12_endsTerm 20 = .ok (.getfield 69, 3) := by decide +kernel
theorem dX12_endsTerm_23 : decode cX12_endsTerm 23 = .ok (.iaload, 1) := by decide +kernel
theorem dX12_endsTerm_24 : decode cX12_endsTerm 24 = .ok (.i2l, 1) := by decide +kernel
theorem dX12_endsTerm_25 : decode cX12_endsTerm 25 = .ok (.invokevirtual 207, 3) := by decide +kernel
theorem dX12_endsTerm_28 : decode cX12_endsTerm 28 = .ok (.return_, 1) := by decide +kernel
theorem dX12_takesAtom_0 : decode cX12_takesAtom 0 = .ok (.iconst 1, 1) := by decide +kernel
theorem dX12_takesAtom_1 : decode cX12_takesAtom 1 = .ok (.istore_n 1, 1) := by decide +kernel
theorem dX12_takesAtom_2 : decode cX12_takesAtom 2 = .ok (.aload_n 0, 1) := by decide +kernel
theorem dX12_takesAtom_3 : decode cX12_takesAtom 3 = .ok (.bipush 94, 2) := by decide +kernel
theorem dX12_takesAtom_5 : decode cX12_takesAtom 5 = .ok (.invokevirtual 198, 3) := by decide +kernel
theorem dX12_takesAtom_8 : decode cX12_takesAtom 8 = .ok (.ifCond .eq 56, 3) := by decide +kernel
theorem dX12_takesAtom_11 : decode cX12_takesAtom 11 = .ok (.aload_n 0, 1) := by decide +kernel
theorem dX12_takesAtom_12 : decode cX12_takesAtom 12 = .ok (.dup, 1) := by decide +kernel
theorem dX12_takesAtom_13 : decode cX12_takesAtom 13 = .ok (.getfield 29, 3) := by decide +kernel
theorem dX12_takesAtom_16 : decode cX12_takesAtom 16 = .ok (.iconst 1, 1) := by decide +kernel
theorem dX12_takesAtom_17 : decode cX12_takesAtom 17 = .ok (.iadd, 1) := by decide +kernel
theorem dX12_takesAtom_18 : decode cX12_takesAtom 18 = .ok (.putfield 29, 3) := by decide +kernel
theorem dX12_takesAtom_21 : decode cX12_takesAtom 21 = .ok (.aload_n 0, 1) := by decide +kernel
theorem dX12_takesAtom_22 : decode cX12_takesAtom 22 = .ok (.invokevirtual 211, 3) := by decide +kernel
theorem dX12_takesAtom_25 : decode cX12_takesAtom 25 = .ok (.lstore_n 2, 1) := by decide +kernel
theorem dX12_takesAtom_26 : decode cX12_takesAtom 26 = .ok (.aload_n 0, 1) := by decide +kernel
theorem dX12_takesAtom_27 : decode cX12_takesAtom 27 = .ok (.invokevirtual 139, 3) := by decide +kernel
theorem dX12_takesAtom_30 : decode cX12_takesAtom 30 = .ok (.ifCond .eq 20, 3) := by decide +kernel
theorem dX12_takesAtom_33 : decode cX12_takesAtom 33 = .ok (.lload_n 2, 1) := by decide +kernel
theorem dX12_takesAtom_34 : decode cX12_takesAtom 34 = .ok (.ldc2_w 215, 3) := by decide +kernel
theorem dX12_takesAtom_37 : decode cX12_takesAtom 37 = .ok (.lcmp, 1) := by decide +kernel
theorem dX12_takesAtom_38 : decode cX12_takesAtom 38 = .ok (.ifCond .le 12, 3) := by decide +kernel
theorem dX12_takesAtom_41 : decode cX12_takesAtom 41 = .ok (.aload_n 0, 1) := by decide +kernel
theorem dX12_takesAtom_42 : decode cX12_takesAtom 42 = .ok (.iconst 2, 1) := by decide +kernel
theorem dX12_takesAtom_43 : decode cX12_takesAtom 43 = .ok (.aload_n 0, 1) := by decide +kernel
theorem dX12_takesAtom_44 : decode cX12_takesAtom 44 = .ok (.getfield 32, 3) := by decide +kernel
theorem dX12_takesAtom_47 : decode cX12_takesAtom 47 = .ok (.invokevirtual 147, 3) := by decide +kernel
theorem dX12_takesAtom_50 : decode cX12_takesAtom 50 = .ok (.aload_n 0, 1) := by decide +kernel
theorem dX12_takesAtom_51 : decode cX12_takesAtom 51 = .ok (.invokevirtual 139, 3) := by decide +kernel
theorem dX12_takesAtom_54 : decode cX12_takesAtom 54 = .ok (.ifCond .eq 8, 3) := by decide +kernel
theorem dX12_takesAtom_57 : decode cX12_takesAtom 57 = .ok (.lload_n 2, 1) := by decide +kernel
theorem dX12_takesAtom_58 : decode cX12_takesAtom 58 = .ok (.l2i, 1) := by decide +kernel
theorem dX12_takesAtom_59 : decode cX12_takesAtom 59 = .ok (.goto 4, 3) := by decide +kernel
theorem dX12_takesAtom_62 : decode cX12_takesAtom 62 = .ok (.iconst 1, 1) := by decide +kernel
theorem dX12_takesAtom_63 : decode cX12_takesAtom 63 = .ok (.istore_n 1, 1) := by decide +kernel
theorem dX12_takesAtom_64 : decode cX12_takesAtom 64 = .ok (.aload_n 0, 1) := by decide +kernel
theorem dX12_takesAtom_65 : decode cX12_takesAtom 65 = .ok (.invokevirtual 139, 3) := by decide +kernel
theorem dX12_takesAtom_68 : decode cX12_takesAtom 68 = .ok (.ifCond .ne 4, 3) := by decide +kernel
theorem dX12_takesAtom_71 : decode cX12_takesAtom 71 = .ok (.return_, 1) := by decide +kernel
theorem dX12_takesAtom_72 : decode cX12_takesAtom 72 = .ok (.aload_n 0, 1) := by decide +kernel
theorem dX12_takesAtom_73 : decode cX12_takesAtom 73 = .ok (.sipush 140, 3) := by decide +kernel
theorem dX12_takesAtom_76 : decode cX12_takesAtom 76 = .ok (.invokevirtual 192, 3) := by decide +kernel
theorem dX12_takesAtom_79 : decode cX12_takesAtom 79 = .ok (.aload_n 0, 1) := by decide +kernel
theorem dX12_takesAtom_80 : decode cX12_takesAtom 80 = .ok (.sipush 140, 3) := by decide +kernel
theorem dX12_takesAtom_83 : decode cX12_takesAtom 83 = .ok (.iconst 0, 1) := by decide +kernel
theorem dX12_takesAtom_84 : decode cX12_takesAtom 84 = .ok (.iconst 0, 1) := by decide +kernel
theorem dX12_takesAtom_85 : decode cX12_takesAtom 85 = .ok (.lconst 1, 1) := by decide +kernel
theorem dX12_takesAtom_86 : decode cX12_takesAtom 86 = .ok (.invokevirtual 188, 3) := by decide +kernel
theorem dX12_takesAtom_89 : decode cX12_takesAtom 89 = .ok (.iconst 0, 1) := by decide +kernel
theorem dX12_takesAtom_90 : decode cX12_takesAtom 90 = .ok (.istore_n 2, 1) := by decide +kernel
theorem dX12_takesAtom_91 : decode cX12_takesAtom 91 = .ok (.iload_n 2, 1) := by decide +kernel
theorem dX12_takesAtom_92 : decode cX12_takesAtom 92 = .ok (.iload_n 1, 1) := by decide +kernel
theorem dX12_takesAtom_93 : decode cX12_takesAtom 93 = .ok (.if_icmp .ge 50, 3) := by decide +kernel
theorem dX12_takesAtom_96 : decode cX12_takesAtom 96 = .ok (.aload_n 0, 1) := by decide +kernel
theorem dX12_takesAtom_97 : decode cX12_takesAtom 97 = .ok (.invokevirtual 139, 3) := by decide +kernel
theorem dX12_takesAtom_100 : decode cX12_takesAtom 100 = .ok (.ifCond .eq 43, 3) := by decide +kernel
theorem dX12_takesAtom_103 : decode cX12_takesAtom 103 = .ok (.aload_n 0, 1) := by decide +kernel
theorem dX12_takesAtom_104 : decode cX12_takesAtom 104 = .ok (.sipush 140, 3) := by decide +kernel
theorem dX12_takesAtom_107 : decode cX12_takesAtom 107 = .ok (.sipush 140, 3) := by decide +kernel
theorem dX12_takesAtom_110 : decode cX12_takesAtom 110 = .ok (.aload_n 0, 1) := by decide +kernel
theorem dX12_takesAtom_111 : decode cX12_takesAtom 111 = .ok (.getfield 69, 3) := by decide +kernel
theorem dX12_takesAtom_114 : decode cX12_takesAtom 114 = .ok (.invokestatic 217, 3) := by decide +kernel
theorem dX12_takesAtom_117 : decode cX12_takesAtom 117 = .ok (.invokevirtual 220, 3) := by decide +kernel
theorem dX12_takesAtom_120 : decode cX12_takesAtom 120 = .ok (.ifCond .ne 17, 3) := by decide +kernel
theorem dX12_takesAtom_123 : decode cX12_takesAtom 123 = .ok (.aload_n 0, 1) := by decide +kernel
theorem dX12_takesAtom_124 : decode cX12_takesAtom 124 = .ok (.iconst 4, 1) := by decide +kernel
theorem dX12_takesAtom_125 : decode cX12_takesAtom 125 = .ok (.aload_n 0, 1) := by decide +kernel
theorem dX12_takesAtom_126 : decode cX12_takesAtom 126 = .ok (.getfield 66, 3) := by decide +kernel
theorem dX12_takesAtom_129 : decode cX12_takesAtom 129 = .ok (.aload_n 0, 1) := by decide +kernel
theorem dX12_takesAtom_130 : decode cX12_takesAtom 130 = .ok (.getfield 69, 3) := by decide +kernel
theorem dX12_takesAtom_133 : decode cX12_takesAtom 133 = .ok (.iaload, 1) := by decide +kernel
theorem dX12_takesAtom_134 : decode cX12_takesAtom 134 = .ok (.invokevirtual 147, 3) := by decide +kernel
theorem dX12_takesAtom_137 : decode cX12_takesAtom 137 = .ok (.iinc 2 1, 3) := by decide +kernel
theorem dX12_takesAtom_140 : decode cX12_takesAtom 140 = .ok (.goto (-49), 3) := by decide +kernel
theorem dX12_takesAtom_143 : decode cX12_takesAtom 143 = .ok (.aload_n 0, 1) := by decide +kernel
theorem dX12_takesAtom_144 : decode cX12_takesAtom 144 = .ok (.invokevirtual 139, 3) := by decide +kernel
theorem dX12_takesAtom_147 : decode cX12_takesAtom 147 = .ok (.ifCond .eq 41, 3) := by decide +kernel
theorem dX12_takesAtom_150 : decode cX12_takesAtom 150 = .ok (.aload_n 0, 1) := by decide +kernel
theorem dX12_takesAtom_151 : decode cX12_takesAtom 151 = .ok (.aload_n 0, 1) := by decide +kernel
theorem dX12_takesAtom_152 : decode cX12_takesAtom 152 = .ok (.getfield 69, 3) := by decide +kernel
theorem dX12_takesAtom_155 : decode cX12_takesAtom 155 = .ok (.invokestatic 204, 3) := by decide +kernel
theorem dX12_takesAtom_158 : decode cX12_takesAtom 158 = .ok (.aload_n 0, 1) := by decide +kernel
theorem dX12_takesAtom_159 : decode cX12_takesAtom 159 = .ok (.getfield 69, 3) := by decide +kernel
theorem dX12_takesAtom_162 : decode cX12_takesAtom 162 = .ok (.invokestatic 204, 3) := by decide +kernel
theorem dX12_takesAtom_165 : decode cX12_takesAtom 165 = .ok (.sipush 140, 3) := by decide +kernel
theorem dX12_takesAtom_168 : decode cX12_takesAtom 168 = .ok (.invokevirtual 220, 3) := by decide +kernel
theorem dX12_takesAtom_171 : decode cX12_takesAtom 171 = .ok (.ifCond .ne 17, 3) := by decide +kernel
theorem dX12_takesAtom_174 : decode cX12_takesAtom 174 = .ok (.aload_n 0, 1) := by decide +kernel
theorem dX12_takesAtom_175 : decode cX12_takesAtom 175 = .ok (.iconst 4, 1) := by decide +kernel
theorem dX12_takesAtom_176 : decode cX12_takesAtom 176 = .ok (.aload_n 0, 1) := by decide +kernel
theorem dX12_takesAtom_177 : decode cX12_takesAtom 177 = .ok (.getfield 66, 3) := by decide +kernel
theorem dX12_takesAtom_180 : decode cX12_takesAtom 180 = .ok (.aload_n 0, 1) := by decide +kernel
theorem dX12_takesAtom_181 : decode cX12_takesAtom 181 = .ok (.getfield 69, 3) := by decide +kernel
theorem dX12_takesAtom_184 : decode cX12_takesAtom 184 = .ok (.iaload, 1) := by decide +kernel
theorem dX12_takesAtom_185 : decode cX12_takesAtom 185 = .ok (.invokevirtual 147, 3) := by decide +kernel
theorem dX12_takesAtom_188 : decode cX12_takesAtom 188 = .ok (.return_, 1) := by decide +kernel
theorem dX12_opensBracket_0 : decode cX12_opensBracket 0 = .ok (.aload_n 0, 1) := by decide +kernel
theorem dX12_opensBracket_1 : decode cX12_opensBracket 1 = .ok (.invokevirtual 143, 3) := by decide +kernel
theorem dX12_opensBracket_4 : decode cX12_opensBracket 4 = .ok (.pop, 1) := by decide +kernel
theorem dX12_opensBracket_5 : decode cX12_opensBracket 5 = .ok (.aload_n 0, 1) := by decide +kernel
theorem dX12_opensBracket_6 : decode cX12_opensBracket 6 = .ok (.getfield 66, 3) := by decide +kernel
theorem dX12_opensBracket_9 : decode cX12_opensBracket 9 = .ok (.aload_n 0, 1) := by decide +kernel
theorem dX12_opensBracket_10 : decode cX12_opensBracket 10 = .ok (.getfield 69, 3) := by decide +kernel
theorem dX12_opensBracket_13 : decode cX12_opensBracket 13 = .ok (.aload_n 0, 1) := by decide +kernel
theorem dX12_opensBracket_14 : decode cX12_opensBracket 14 = .ok (.getfield 29, 3) := by decide +kernel
theorem dX12_opensBracket_17 : decode cX12_opensBracket 17 = .ok (.iastore, 1) := by decide +kernel
theorem dX12_opensBracket_18 : decode cX12_opensBracket 18 = .ok (.aload_n 0, 1) := by decide +kernel
theorem dX12_opensBracket_19 : decode cX12_opensBracket 19 = .ok (.bipush 40, 2) := by decide +kernel
theorem dX12_opensBracket_21 : decode cX12_opensBracket 21 = .ok (.invokevirtual 198, 3) := by decide +kernel
theorem dX12_opensBracket_24 : decode cX12_opensBracket 24 = .ok (.ifCond .eq 56, 3) := by decide +kernel
theorem dX12_opensBracket_27 : decode cX12_opensBracket 27 = .ok (.aload_n 0, 1) := by decide +kernel
theorem dX12_opensBracket_28 : decode cX12_opensBracket 28 = .ok (.getfield 69, 3) := by decide +kernel
theorem dX12_opensBracket_31 : decode cX12_opensBracket 31 = .ok (.bipush 40, 2) := by decide +kernel
theorem dX12_opensBracket_33 : decode cX12_opensBracket 33 = .ok (.if_icmp .ne 12, 3) := by decide +kernel
theorem dX12_opensBracket_36 : decode cX12_opensBracket 36 = .ok (.aload_n 0, 1) := by decide +kernel
theorem dX12_opensBracket_37 : decode cX12_opensBracket 37 = .ok (.iconst 4, 1) := by decide +kernel
theorem dX12_opensBracket_38 : decode cX12_opensBracket 38 = .ok (.aload_n 0, 1) := by decide +kernel
theorem dX12_opensBracket_39 : decode cX12_opensBracket 39 = .ok (.getfield 29, 3) := by decide +kernel
theorem dX12_opensBracket_42 : decode cX12_opensBracket 42 = .ok (.invokevirtual 147, 3) := by decide +kernel
theorem dX12_opensBracket_45 : decode cX12_opensBracket 45 = .ok (.aload_n 0, 1) := by decide +kernel
theorem dX12_opensBracket_46 : decode cX12_opensBracket 46 = .ok (.invokevirtual 139, 3) := by decide +kernel
theorem dX12_opensBracket_49 : decode cX12_opensBracket 49 = .ok (.ifCond .ne 5, 3) := by decide +kernel
theorem dX12_opensBracket_52 : decode cX12_opensBracket 52 = .ok (.iconst 0, 1) := by decide +kernel
theorem dX12_opensBracket_53 : decode cX12_opensBracket 53 = .ok (.ireturn, 1) := by decide +kernel
theorem dX12_opensBracket_54 : decode cX12_opensBracket 54 = .ok (.aload_n 0, 1) := by decide +kernel
theorem dX12_opensBracket_55 : decode cX12_opensBracket 55 = .ok (.dup, 1) := by decide +kernel
theorem dX12_opensBracket_56 : decode cX12_opensBracket 56 = .ok (.getfield 29, 3) := by decide +kernel
theorem dX12_opensBracket_59 : decode cX12_opensBracket 59 = .ok (.iconst 1, 1) := by decide +kernel
theorem dX12_opensBracket_60 : decode cX12_opensBracket 60 = .ok (.iadd, 1) := by decide +kernel
theorem dX12_opensBracket_61 : decode cX12_opensBracket 61 = .ok (.putfield 29, 3) := by decide +kernel
theorem dX12_opensBracket_64 : decode cX12_opensBracket 64 = .ok (.aload_n 0, 1) := by decide +kernel
theorem dX12_opensBracket_65 : decode cX12_opensBracket 65 = .ok (.dup, 1) := by decide +kernel
theorem dX12_opensBracket_66 : decode cX12_opensBracket 66 = .ok (.getfield 69, 3) := by decide +kernel
theorem dX12_opensBracket_69 : decode cX12_opensBracket 69 = .ok (.iconst 1, 1) := by decide +kernel
theorem dX12_opensBracket_70 : decode cX12_opensBracket 70 = .ok (.iadd, 1) := by decide +kernel
theorem dX12_opensBracket_71 : decode cX12_opensBracket 71 = .ok (.putfield 69, 3) := by decide +kernel
theorem dX12_opensBracket_74 : decode cX12_opensBracket 74 = .ok (.aload_n 0, 1) := by decide +kernel
theorem dX12_opensBracket_75 : decode cX12_opensBracket 75 = .ok (.invokevirtual 224, 3) := by decide +kernel
theorem dX12_opensBracket_78 : decode cX12_opensBracket 78 = .ok (.iconst 1, 1) := by decide +kernel
theorem dX12_opensBracket_79 : decode cX12_opensBracket 79 = .ok (.ireturn, 1) := by decide +kernel
theorem dX12_opensBracket_80 : decode cX12_opensBracket 80 = .ok (.aload_n 0, 1) := by decide +kernel
theorem dX12_opensBracket_81 : decode cX12_opensBracket 81 = .ok (.aload_n 0, 1) := by decide +kernel
theorem dX12_opensBracket_82 : decode cX12_opensBracket 82 = .ok (.getfield 69, 3) := by decide +kernel
theorem dX12_opensBracket_85 : decode cX12_opensBracket 85 = .ok (.invokestatic 217, 3) := by decide +kernel
theorem dX12_opensBracket_88 : decode cX12_opensBracket 88 = .ok (.invokevirtual 192, 3) := by decide +kernel
theorem dX12_opensBracket_91 : decode cX12_opensBracket 91 = .ok (.aload_n 0, 1) := by decide +kernel
theorem dX12_opensBracket_92 : decode cX12_opensBracket 92 = .ok (.aload_n 0, 1) := by decide +kernel
theorem dX12_opensBracket_93 : decode cX12_opensBracket 93 = .ok (.getfield 29, 3) := by decide +kernel
theorem dX12_opensBracket_96 : decode cX12_opensBracket 96 = .ok (.invokevirtual 154, 3) := by decide +kernel
theorem dX12_opensBracket_99 : decode cX12_opensBracket 99 = .ok (.ifCond .eq 22, 3) := by decide +kernel
theorem dX12_opensBracket_102 : decode cX12_opensBracket 102 = .ok (.aload_n 0, 1) := by decide +kernel
theorem dX12_opensBracket_103 : decode cX12_opensBracket 103 = .ok (.aload_n 0, 1) := by decide +kernel
theorem dX12_opensBracket_104 : decode cX12_opensBracket 104 = .ok (.getfield 69, 3) := by decide +kernel
theorem dX12_opensBracket_107 : decode cX12_opensBracket 107 = .ok (.invokestatic 217, 3) := by decide +kernel
theorem dX12_opensBracket_110 : decode cX12_opensBracket 110 = .ok (.iconst 0, 1) := by decide +kernel
theorem dX12_opensBracket_111 : decode cX12_opensBracket 111 = .ok (.iconst 0, 1) := by decide +kernel
theorem dX12_opensBracket_112 : decode cX12_opensBracket 112 = .ok (.aload_n 0, 1) := by decide +kernel
theorem dX12_opensBracket_113 : decode cX12_opensBracket 113 = .ok (.invokevirtual 211, 3) := by decide +kernel
theorem dX12_opensBracket_116 : decode cX12_opensBracket 116 = .ok (.invokevirtual 188, 3) := by decide +kernel
theorem dX12_opensBracket_119 : decode cX12_opensBracket 119 = .ok (.iconst 0, 1) := by decide +kernel
theorem dX12_opensBracket_120 : decode cX12_opensBracket 120 = .ok (.ireturn, 1) := by decide +kernel
theorem dX12_opensBracket_121 : decode cX12_opensBracket 121 = .ok (.aload_n 0, 1) := by decide +kernel
theorem dX12_opensBracket_122 : decode cX12_opensBracket 122 = .ok (.invokevirtual 227, 3) := by decide +kernel
theorem dX12_opensBracket_125 : decode cX12_opensBracket 125 = .ok (.istore_n 1, 1) := by decide +kernel
theorem dX12_opensBracket_126 : decode cX12_opensBracket 126 = .ok (.iload_n 1, 1) := by decide +kernel
theorem dX12_opensBracket_127 : decode cX12_opensBracket 127 = .ok (.iconst 3, 1) := by decide +kernel
theorem dX12_opensBracket_128 : decode cX12_opensBracket 128 = .ok (.if_icmp .eq 17, 3) := by decide +kernel
theorem dX12_opensBracket_131 : decode cX12_opensBracket 131 = .ok (.iload_n 1, 1) := by decide +kernel
theorem dX12_opensBracket_132 : decode cX12_opensBracket 132 = .ok (.iconst 4, 1) := by decide +kernel
theorem dX12_opensBracket_133 : decode cX12_opensBracket 133 = .ok (.if_icmp .eq 12, 3) := by decide +kernel
theorem dX12_opensBracket_136 : decode cX12_opensBracket 136 = .ok (.aload_n 0, 1) := by decide +kernel
theorem dX12_opensBracket_137 : decode cX12_opensBracket 137 = .ok (.iconst 1, 1) := by decide +kernel
theorem dX12_opensBracket_138 : decode cX12_opensBracket 138 = .ok (.aload_n 0, 1) := by decide +kernel
theorem dX12_opensBracket_139 : decode cX12_opensBracket 139 = .ok (.getfield 29, 3) := by decide +kernel
theorem dX12_opensBracket_142 : decode cX12_opensBracket 142 = .ok (.invokevirtual 147, 3) := by decide +kernel
theorem dX12_opensBracket_145 : decode cX12_opensBracket 145 = .ok (.aload_n 0, 1) := by decide +kernel
theorem dX12_opensBracket_146 : decode cX12_opensBracket 146 = .ok (.invokevirtual 139, 3) := by decide +kernel
theorem dX12_opensBracket_149 : decode cX12_opensBracket 149 = .ok (.ifCond .ne 5, 3) := by decide +kernel
theorem dX12_opensBracket_152 : decode cX12_opensBracket 152 = .ok (.iconst 0, 1) := by decide +kernel
theorem dX12_opensBracket_153 : decode cX12_opensBracket 153 = .ok (.ireturn, 1) := by decide +kernel
theorem dX12_opensBracket_154 : decode cX12_opensBracket 154 = .ok (.aload_n 0, 1) := by decide +kernel
theorem dX12_opensBracket_155 : decode cX12_opensBracket 155 = .ok (.invokevirtual 164, 3) := by decide +kernel
theorem dX12_opensBracket_158 : decode cX12_opensBracket 158 = .ok (.aload_n 0, 1) := by decide +kernel
theorem dX12_opensBracket_159 : decode cX12_opensBracket 159 = .ok (.aload_n 0, 1) := by decide +kernel
theorem dX12_opensBracket_160 : decode cX12_opensBracket 160 = .ok (.getfield 69, 3) := by decide +kernel
theorem dX12_opensBracket_163 : decode cX12_opensBracket 163 = .ok (.invokestatic 217, 3) := by decide +kernel
theorem dX12_opensBracket_166 : decode cX12_opensBracket 166 = .ok (.iload_n 1, 1) := by decide +kernel
theorem dX12_opensBracket_167 : decode cX12_opensBracket 167 = .ok (.iconst 3, 1) := by decide +kernel
theorem dX12_opensBracket_168 : decode cX12_opensBracket 168 = .ok (.if_icmp .ne 7, 3) := by decide +kernel
theorem dX12_opensBracket_171 : decode cX12_opensBracket 171 = .ok (.iconst 1, 1) := by decide +kernel
theorem dX12_opensBracket_172 : decode cX12_opensBracket 172 = .ok (.goto 4, 3) := by decide +kernel
theorem dX12_opensBracket_175 : decode cX12_opensBracket 175 = .ok (.iconst 0, 1) := by decide +kernel
theorem dX12_opensBracket_176 : decode cX12_opensBracket 176 = .ok (.iload_n 1, 1) := by decide +kernel
theorem dX12_opensBracket_177 : decode cX12_opensBracket 177 = .ok (.iconst 3, 1) := by decide +kernel
theorem dX12_opensBracket_178 : decode cX12_opensBracket 178 = .ok (.if_icmp .ne 7, 3) := by decide +kernel
theorem dX12_opensBracket_181 : decode cX12_opensBracket 181 = .ok (.iconst 0, 1) := by decide +kernel
theorem dX12_opensBracket_182 : decode cX12_opensBracket 182 = .ok (.goto 4, 3) := by decide +kernel
theorem dX12_opensBracket_185 : decode cX12_opensBracket 185 = .ok (.iconst 1, 1) := by decide +kernel
theorem dX12_opensBracket_186 : decode cX12_opensBracket 186 = .ok (.lconst 1, 1) := by decide +kernel
theorem dX12_opensBracket_187 : decode cX12_opensBracket 187 = .ok (.invokevirtual 188, 3) := by decide +kernel
theorem dX12_opensBracket_190 : decode cX12_opensBracket 190 = .ok (.iconst 0, 1) := by decide +kernel
theorem dX12_opensBracket_191 : decode cX12_opensBracket 191 = .ok (.ireturn, 1) := by decide +kernel
theorem dX12_goesOn_0 : decode cX12_goesOn 0 = .ok (.iconst 1, 1) := by decide +kernel
theorem dX12_goesOn_1 : decode cX12_goesOn 1 = .ok (.istore_n 1, 1) := by decide +kernel
theorem dX12_goesOn_2 : decode cX12_goesOn 2 = .ok (.iload_n 1, 1) := by decide +kernel
theorem dX12_goesOn_3 : decode cX12_goesOn 3 = .ok (.ifCond .eq 146, 3) := by decide +kernel
theorem dX12_goesOn_6 : decode cX12_goesOn 6 = .ok (.aload_n 0, 1) := by decide +kernel
theorem dX12_goesOn_7 : decode cX12_goesOn 7 = .ok (.invokevirtual 139, 3) := by decide +kernel
theorem dX12_goesOn_10 : decode cX12_goesOn 10 = .ok (.ifCond .eq 139, 3) := by decide +kernel
theorem dX12_goesOn_13 : decode cX12_goesOn 13 = .ok (.aload_n 0, 1) := by decide +kernel
theorem dX12_goesOn_14 : decode cX12_goesOn 14 = .ok (.invokevirtual 143, 3) := by decide +kernel
theorem dX12_goesOn_17 : decode cX12_goesOn 17 = .ok (.istore_n 2, 1) := by decide +kernel
theorem dX12_goesOn_18 : decode cX12_goesOn 18 = .ok (.iload_n 2, 1) := by decide +kernel
theorem dX12_goesOn_19 : decode cX12_goesOn 19 = .ok (.bipush 42, 2) := by decide +kernel
theorem dX12_goesOn_21 : decode cX12_goesOn 21 = .ok (.if_icmp .ne 15, 3) := by decide +kernel
theorem dX12_goesOn_24 : decode cX12_goesOn 24 = .ok (.aload_n 0, 1) := by decide +kernel
theorem dX12_goesOn_25 : decode cX12_goesOn 25 = .ok (.dup, 1) := by decide +kernel
theorem dX12_goesOn_26 : decode cX12_goesOn 26 = .ok (.getfield 29, 3) := by decide +kernel
theorem dX12_goesOn_29 : decode cX12_goesOn 29 = .ok (.iconst 1, 1) := by decide +kernel
theorem dX12_goesOn_30 : decode cX12_goesOn 30 = .ok (.iadd, 1) := by decide +kernel
theorem dX12_goesOn_31 : decode cX12_goesOn 31 = .ok (.putfield 29, 3) := by decide +kernel
theorem dX12_goesOn_34 : decode cX12_goesOn 34 = .ok (.iconst 1, 1) := by decide +kernel
theorem dX12_goesOn_35 : decode cX12_goesOn 35 = .ok (.ireturn, 1) := by decide +kernel
theorem dX12_goesOn_36 : decode cX12_goesOn 36 = .ok (.aload_n 0, 1) := by decide +kernel
theorem dX12_goesOn_37 : decode cX12_goesOn 37 = .ok (.invokevirtual 230, 3) := by decide +kernel
theorem dX12_goesOn_40 : decode cX12_goesOn 40 = .ok (.iload_n 2, 1) := by decide +kernel
theorem dX12_goesOn_41 : decode cX12_goesOn 41 = .ok (.bipush 43, 2) := by decide +kernel
theorem dX12_goesOn_43 : decode cX12_goesOn 43 = .ok (.if_icmp .eq 9, 3) := by decide +kernel
theorem dX12_goesOn_46 : decode cX12_goesOn 46 = .ok (.iload_n 2, 1) := by decide +kernel
theorem dX12_goesOn_47 : decode cX12_goesOn 47 = .ok (.bipush 45, 2) := by decide +kernel
theorem dX12_goesOn_49 : decode cX12_goesOn 49 = .ok (.if_icmp .ne 39, 3) := by decide +kernel
theorem dX12_goesOn_52 : decode cX12_goesOn 52 = .ok (.aload_n 0, 1) := by decide +kernel
theorem dX12_goesOn_53 : decode cX12_goesOn 53 = .ok (.dup, 1) := by decide +kernel
theorem dX12_goesOn_54 : decode cX12_goesOn 54 = .ok (.getfield 29, 3) := by decide +kernel
theorem dX12_goesOn_57 : decode cX12_goesOn 57 = .ok (.iconst 1, 1) := by decide +kernel
theorem dX12_goesOn_58 : decode cX12_goesOn 58 = .ok (.iadd, 1) := by decide +kernel
theorem dX12_goesOn_59 : decode cX12_goesOn 59 = .ok (.putfield 29, 3) := by decide +kernel
theorem dX12_goesOn_62 : decode cX12_goesOn 62 = .ok (.aload_n 0, 1) := by decide +kernel
theorem dX12_goesOn_63 : decode cX12_goesOn 63 = .ok (.getfield 63, 3) := by decide +kernel
theorem dX12_goesOn_66 : decode cX12_goesOn 66 = .ok (.aload_n 0, 1) := by decide +kernel
theorem dX12_goesOn_67 : decode cX12_goesOn 67 = .ok (.getfield 69, 3) := by decide +kernel
theorem dX12_goesOn_70 : decode cX12_goesOn 70 = .ok (.iload_n 2, 1) := by decide +kernel
theorem dX12_goesOn_71 : decode cX12_goesOn 71 = .ok (.bipush 43, 2) := by decide +kernel
theorem dX12_goesOn_73 : decode cX12_goesOn 73 = .ok (.if_icmp .ne 7, 3) := by decide +kernel
theorem dX12_goesOn_76 : decode cX12_goesOn 76 = .ok (.iconst 1, 1) := by decide +kernel
theorem dX12_goesOn_77 : decode cX12_goesOn 77 = .ok (.goto 4, 3) := by decide +kernel
theorem dX12_goesOn_80 : decode cX12_goesOn 80 = .ok (.iconst (-1), 1) := by decide +kernel
theorem dX12_goesOn_81 : decode cX12_goesOn 81 = .ok (.iastore, 1) := by decide +kernel
theorem dX12_goesOn_82 : decode cX12_goesOn 82 = .ok (.aload_n 0, 1) := by decide +kernel
theorem dX12_goesOn_83 : decode cX12_goesOn 83 = .ok (.invokevirtual 201, 3) := by decide +kernel
theorem dX12_goesOn_86 : decode cX12_goesOn 86 = .ok (.iconst 1, 1) := by decide +kernel
theorem dX12_goesOn_87 : decode cX12_goesOn 87 = .ok (.ireturn, 1) := by decide +kernel
theorem dX12_goesOn_88 : decode cX12_goesOn 88 = .ok (.aload_n 0, 1) := by decide +kernel
theorem dX12_goesOn_89 : decode cX12_goesOn 89 = .ok (.getfield 69, 3) := by decide +kernel
theorem dX12_goesOn_92 : decode cX12_goesOn 92 = .ok (.ifCond .ne 5, 3) := by decide +kernel
theorem dX12_goesOn_95 : decode cX12_goesOn 95 = .ok (.iconst 0, 1) := by decide +kernel
theorem dX12_goesOn_96 : decode cX12_goesOn 96 = .ok (.ireturn, 1) := by decide +kernel
theorem dX12_goesOn_97 : decode cX12_goesOn 97 = .ok (.aload_n 0, 1) := by decide +kernel
theorem dX12_goesOn_98 : decode cX12_goesOn 98 = .ok (.bipush 41, 2) := by decide +kernel
theorem dX12_goesOn_100 : decode cX12_goesOn 100 = .ok (.invokevirtual 233, 3) := by decide +kernel
theorem dX12_goesOn_103 : decode cX12_goesOn 103 = .ok (.aload_n 0, 1) := by decide +kernel
theorem dX12_goesOn_104 : decode cX12_goesOn 104 = .ok (.invokevirtual 139, 3) := by decide +kernel
theorem dX12_goesOn_107 : decode cX12_goesOn 107 = .ok (.ifCond .ne 5, 3) := by decide +kernel
theorem dX12_goesOn_110 : decode cX12_goesOn 110 = .ok (.iconst 0, 1) := by decide +kernel
theorem dX12_goesOn_111 : decode cX12_goesOn 111 = .ok (.ireturn, 1) := by decide +kernel
theorem dX12_goesOn_112 : decode cX12_goesOn 112 = .ok (.aload_n 0, 1) := by decide +kernel
theorem dX12_goesOn_113 : decode cX12_goesOn 113 = .ok (.aload_n 0, 1) := by decide +kernel
theorem dX12_goesOn_114 : decode cX12_goesOn 114 = .ok (.getfield 69, 3) := by decide +kernel
theorem dX12_goesOn_117 : decode cX12_goesOn 117 = .ok (.iconst 1, 1) := by decide +kernel
theorem dX12_goesOn_118 : decode cX12_goesOn 118 = .ok (.isub, 1) := by decide +kernel
theorem dX12_goesOn_119 : decode cX12_goesOn 119 = .ok (.invokestatic 217, 3) := by decide +kernel
theorem dX12_goesOn_122 : decode cX12_goesOn 122 = .ok (.aload_n 0, 1) := by decide +kernel
theorem dX12_goesOn_123 : decode cX12_goesOn 123 = .ok (.getfield 69, 3) := by decide +kernel
theorem dX12_goesOn_126 : decode cX12_goesOn 126 = .ok (.invokestatic 195, 3) := by decide +kernel
theorem dX12_goesOn_129 : decode cX12_goesOn 129 = .ok (.invokevirtual 236, 3) := by decide +kernel
theorem dX12_goesOn_132 : decode cX12_goesOn 132 = .ok (.aload_n 0, 1) := by decide +kernel
theorem dX12_goesOn_133 : decode cX12_goesOn 133 = .ok (.dup, 1) := by decide +kernel
theorem dX12_goesOn_134 : decode cX12_goesOn 134 = .ok (.getfield 69, 3) := by decide +kernel
theorem dX12_goesOn_137 : decode cX12_goesOn 137 = .ok (.iconst 1, 1) := by decide +kernel
theorem dX12_goesOn_138 : decode cX12_goesOn 138 = .ok (.isub, 1) := by decide +kernel
theorem dX12_goesOn_139 : decode cX12_goesOn 139 = .ok (.putfield 69, 3) := by decide +kernel
theorem dX12_goesOn_142 : decode cX12_goesOn 142 = .ok (.aload_n 0, 1) := by decide +kernel
theorem dX12_goesOn_143 : decode cX12_goesOn 143 = .ok (.invokevirtual 239, 3) := by decide +kernel
theorem dX12_goesOn_146 : decode cX12_goesOn 146 = .ok (.goto (-144), 3) := by decide +kernel
theorem dX12_goesOn_149 : decode cX12_goesOn 149 = .ok (.iconst 0, 1) := by decide +kernel
theorem dX12_goesOn_150 : decode cX12_goesOn 150 = .ok (.ireturn, 1) := by decide +kernel
theorem dX12_readsSum_0 : decode cX12_readsSum 0 = .ok (.aload_n 0, 1) := by decide +kernel
theorem dX12_readsSum_1 : decode cX12_readsSum 1 = .ok (.iconst 0, 1) := by decide +kernel
theorem dX12_readsSum_2 : decode cX12_readsSum 2 = .ok (.putfield 69, 3) := by decide +kernel
theorem dX12_readsSum_5 : decode cX12_readsSum 5 = .ok (.aload_n 0, 1) := by decide +kernel
theorem dX12_readsSum_6 : decode cX12_readsSum 6 = .ok (.invokevirtual 224, 3) := by decide +kernel
theorem dX12_readsSum_9 : decode cX12_readsSum 9 = .ok (.aload_n 0, 1) := by decide +kernel
theorem dX12_readsSum_10 : decode cX12_readsSum 10 = .ok (.invokevirtual 139, 3) := by decide +kernel
theorem dX12_readsSum_13 : decode cX12_readsSum 13 = .ok (.istore_n 1, 1) := by decide +kernel
theorem dX12_readsSum_14 : decode cX12_readsSum 14 = .ok (.iload_n 1, 1) := by decide +kernel
theorem dX12_readsSum_15 : decode cX12_readsSum 15 = .ok (.ifCond .eq 32, 3) := by decide +kernel
theorem dX12_readsSum_18 : decode cX12_readsSum 18 = .ok (.aload_n 0, 1) := by decide +kernel
theorem dX12_readsSum_19 : decode cX12_readsSum 19 = .ok (.invokevirtual 139, 3) := by decide +kernel
theorem dX12_readsSum_22 : decode cX12_readsSum 22 = .ok (.ifCond .eq 25, 3) := by decide +kernel
theorem dX12_readsSum_25 : decode cX12_readsSum 25 = .ok (.aload_n 0, 1) := by decide +kernel
theorem dX12_readsSum_26 : decode cX12_readsSum 26 = .ok (.invokevirtual 242, 3) := by decide +kernel
theorem dX12_readsSum_29 : decode cX12_readsSum 29 = .ok (.ifCond .eq 6, 3) := by decide +kernel
theorem dX12_readsSum_32 : decode cX12_readsSum 32 = .ok (.goto (-18), 3) := by decide +kernel
theorem dX12_readsSum_35 : decode cX12_readsSum 35 = .ok (.aload_n 0, 1) := by decide +kernel
theorem dX12_readsSum_36 : decode cX12_readsSum 36 = .ok (.invokevirtual 239, 3) := by decide +kernel
theorem dX12_readsSum_39 : decode cX12_readsSum 39 = .ok (.aload_n 0, 1) := by decide +kernel
theorem dX12_readsSum_40 : decode cX12_readsSum 40 = .ok (.invokevirtual 245, 3) := by decide +kernel
theorem dX12_readsSum_43 : decode cX12_readsSum 43 = .ok (.istore_n 1, 1) := by decide +kernel
theorem dX12_readsSum_44 : decode cX12_readsSum 44 = .ok (.goto (-30), 3) := by decide +kernel
theorem dX12_readsSum_47 : decode cX12_readsSum 47 = .ok (.return_, 1) := by decide +kernel
theorem dX12_readsCurve_0 : decode cX12_readsCurve 0 = .ok (.aload_n 0, 1) := by decide +kernel
theorem dX12_readsCurve_1 : decode cX12_readsCurve 1 = .ok (.invokevirtual 164, 3) := by decide +kernel
theorem dX12_readsCurve_4 : decode cX12_readsCurve 4 = .ok (.aload_n 0, 1) := by decide +kernel
theorem dX12_readsCurve_5 : decode cX12_readsCurve 5 = .ok (.invokevirtual 139, 3) := by decide +kernel
theorem dX12_readsCurve_8 : decode cX12_readsCurve 8 = .ok (.ifCond .eq 20, 3) := by decide +kernel
theorem dX12_readsCurve_11 : decode cX12_readsCurve 11 = .ok (.aload_n 0, 1) := by decide +kernel
theorem dX12_readsCurve_12 : decode cX12_readsCurve 12 = .ok (.invokevirtual 167, 3) := by decide +kernel
theorem dX12_readsCurve_15 : decode cX12_readsCurve 15 = .ok (.iconst 2, 1) := by decide +kernel
theorem dX12_readsCurve_16 : decode cX12_readsCurve 16 = .ok (.if_icmp .eq 12, 3) := by decide +kernel
theorem dX12_readsCurve_19 : decode cX12_readsCurve 19 = .ok (.aload_n 0, 1) := by decide +kernel
theorem dX12_readsCurve_20 : decode cX12_readsCurve 20 = .ok (.iconst 1, 1) := by decide +kernel
theorem dX12_readsCurve_21 : decode cX12_readsCurve 21 = .ok (.aload_n 0, 1) := by decide +kernel
theorem dX12_readsCurve_22 : decode cX12_readsCurve 22 = .ok (.getfield 32, 3) := by decide +kernel
theorem dX12_readsCurve_25 : decode cX12_readsCurve 25 = .ok (.invokevirtual 147, 3) := by decide +kernel
theorem dX12_readsCurve_28 : decode cX12_readsCurve 28 = .ok (.aload_n 0, 1) := by decide +kernel
theorem dX12_readsCurve_29 : decode cX12_readsCurve 29 = .ok (.invokevirtual 139, 3) := by decide +kernel
theorem dX12_readsCurve_32 : decode cX12_readsCurve 32 = .ok (.ifCond .eq 21, 3) := by decide +kernel
theorem dX12_readsCurve_35 : decode cX12_readsCurve 35 = .ok (.aload_n 0, 1) := by decide +kernel
theorem dX12_readsCurve_36 : decode cX12_readsCurve 36 = .ok (.getfield 57, 3) := by decide +kernel
theorem dX12_readsCurve_39 : decode cX12_readsCurve 39 = .ok (.bipush 6, 2) := by decide +kernel
theorem dX12_readsCurve_41 : decode cX12_readsCurve 41 = .ok (.if_icmp .ne 12, 3) := by decide +kernel
theorem dX12_readsCurve_44 : decode cX12_readsCurve 44 = .ok (.aload_n 0, 1) := by decide +kernel
theorem dX12_readsCurve_45 : decode cX12_readsCurve 45 = .ok (.iconst 4, 1) := by decide +kernel
theorem dX12_readsCurve_46 : decode cX12_readsCurve 46 = .ok (.aload_n 0, 1) := by decide +kernel
theorem dX12_readsCurve_47 : decode cX12_readsCurve 47 = .ok (.getfield 32, 3) := by decide +kernel
theorem dX12_readsCurve_50 : decode cX12_readsCurve 50 = .ok (.invokevirtual 147, 3) := by decide +kernel
theorem dX12_readsCurve_53 : decode cX12_readsCurve 53 = .ok (.aload_n 0, 1) := by decide +kernel
theorem dX12_readsCurve_54 : decode cX12_readsCurve 54 = .ok (.invokevirtual 248, 3) := by decide +kernel
theorem dX12_readsCurve_57 : decode cX12_readsCurve 57 = .ok (.istore_n 1, 1) := by decide +kernel
theorem dX12_readsCurve_58 : decode cX12_readsCurve 58 = .ok (.aload_n 0, 1) := by decide +kernel
theorem dX12_readsCurve_59 : decode cX12_readsCurve 59 = .ok (.getfield 32, 3) := by decide +kernel
theorem dX12_readsCurve_62 : decode cX12_readsCurve 62 = .ok (.istore_n 2, 1) := by decide +kernel
theorem dX12_readsCurve_63 : decode cX12_readsCurve 63 = .ok (.iconst 0, 1) := by decide +kernel
theorem dX12_readsCurve_64 : decode cX12_readsCurve 64 = .ok (.istore_n 3, 1) := by decide +kernel
theorem dX12_readsCurve_65 : decode cX12_readsCurve 65 = .ok (.iload_n 3, 1) := by decide +kernel
theorem dX12_readsCurve_66 : decode cX12_readsCurve 66 = .ok (.aload_n 0, 1) := by decide +kernel
theorem dX12_readsCurve_67 : decode cX12_readsCurve 67 = .ok (.getfield 57, 3) := by decide +kernel
theorem dX12_readsCurve_70 : decode cX12_readsCurve 70 = .ok (.if_icmp .ge 35, 3) := by decide +kernel
theorem dX12_readsCurve_73 : decode cX12_readsCurve 73 = .ok (.aload_n 0, 1) := by decide +kernel
theorem dX12_readsCurve_74 : decode cX12_readsCurve 74 = .ok (.invokevirtual 139, 3) := by decide +kernel
theorem dX12_readsCurve_77 : decode cX12_readsCurve 77 = .ok (.ifCond .eq 28, 3) := by decide +kernel
theorem dX12_readsCurve_80 : decode cX12_readsCurve 80 = .ok (.aload_n 0, 1) := by decide +kernel
theorem dX12_readsCurve_81 : decode cX12_readsCurve 81 = .ok (.getfield 54, 3) := by decide +kernel
theorem dX12_readsCurve_84 : decode cX12_readsCurve 84 = .ok (.bipush 6, 2) := by decide +kernel
theorem dX12_readsCurve_86 : decode cX12_readsCurve 86 = .ok (.iload_n 3, 1) := by decide +kernel
theorem dX12_readsCurve_87 : decode cX12_readsCurve 87 = .ok (.iadd, 1) := by decide +kernel
theorem dX12_readsCurve_88 : decode cX12_readsCurve 88 = .ok (.iaload, 1) := by decide +kernel
theorem dX12_readsCurve_89 : decode cX12_readsCurve 89 = .ok (.iload_n 1, 1) := by decide +kernel
theorem dX12_readsCurve_90 : decode cX12_readsCurve 90 = .ok (.if_icmp .ne 9, 3) := by decide +kernel
theorem dX12_readsCurve_93 : decode cX12_readsCurve 93 = .ok (.aload_n 0, 1) := by decide +kernel
theorem dX12_readsCurve_94 : decode cX12_readsCurve 94 = .ok (.iconst 3, 1) := by decide +kernel
theorem dX12_readsCurve_95 : decode cX12_readsCurve 95 = .ok (.iload_n 2, 1) := by decide +kernel
theorem dX12_readsCurve_96 : decode cX12_readsCurve 96 = .ok (.invokevirtual 147, 3) := by decide +kernel
theorem dX12_readsCurve_99 : decode cX12_readsCurve 99 = .ok (.iinc 3 1, 3) := by decide +kernel
theorem dX12_readsCurve_102 : decode cX12_readsCurve 102 = .ok (.goto (-37), 3) := by decide +kernel
theorem dX12_readsCurve_105 : decode cX12_readsCurve 105 = .ok (.aload_n 0, 1) := by decide +kernel
theorem dX12_readsCurve_106 : decode cX12_readsCurve 106 = .ok (.bipush 61, 2) := by decide +kernel
theorem dX12_readsCurve_108 : decode cX12_readsCurve 108 = .ok (.invokevirtual 233, 3) := by decide +kernel
theorem dX12_readsCurve_111 : decode cX12_readsCurve 111 = .ok (.aload_n 0, 1) := by decide +kernel
theorem dX12_readsCurve_112 : decode cX12_readsCurve 112 = .ok (.invokevirtual 139, 3) := by decide +kernel
theorem dX12_readsCurve_115 : decode cX12_readsCurve 115 = .ok (.ifCond .eq 7, 3) := by decide +kernel
theorem dX12_readsCurve_118 : decode cX12_readsCurve 118 = .ok (.aload_n 0, 1) := by decide +kernel
theorem dX12_readsCurve_119 : decode cX12_readsCurve 119 = .ok (.invokevirtual 251, 3) := by decide +kernel
theorem dX12_readsCurve_122 : decode cX12_readsCurve 122 = .ok (.aload_n 0, 1) := by decide +kernel
theorem dX12_readsCurve_123 : decode cX12_readsCurve 123 = .ok (.bipush 59, 2) := by decide +kernel
theorem dX12_readsCurve_125 : decode cX12_readsCurve 125 = .ok (.invokevirtual 233, 3) := by decide +kernel
theorem dX12_readsCurve_128 : decode cX12_readsCurve 128 = .ok (.aload_n 0, 1) := by decide +kernel
theorem dX12_readsCurve_129 : decode cX12_readsCurve 129 = .ok (.invokevirtual 139, 3) := by decide +kernel
theorem dX12_readsCurve_132 : decode cX12_readsCurve 132 = .ok (.ifCond .ne 4, 3) := by decide +kernel
theorem dX12_readsCurve_135 : decode cX12_readsCurve 135 = .ok (.return_, 1) := by decide +kernel
theorem dX12_readsCurve_136 : decode cX12_readsCurve 136 = .ok (.aload_n 0, 1) := by decide +kernel
theorem dX12_readsCurve_137 : decode cX12_readsCurve 137 = .ok (.bipush 6, 2) := by decide +kernel
theorem dX12_readsCurve_139 : decode cX12_readsCurve 139 = .ok (.aload_n 0, 1) := by decide +kernel
theorem dX12_readsCurve_140 : decode cX12_readsCurve 140 = .ok (.getfield 57, 3) := by decide +kernel
theorem dX12_readsCurve_143 : decode cX12_readsCurve 143 = .ok (.iadd, 1) := by decide +kernel
theorem dX12_readsCurve_144 : decode cX12_readsCurve 144 = .ok (.iconst 0, 1) := by decide +kernel
theorem dX12_readsCurve_145 : decode cX12_readsCurve 145 = .ok (.invokestatic 195, 3) := by decide +kernel
theorem dX12_readsCurve_148 : decode cX12_readsCurve 148 = .ok (.invokevirtual 236, 3) := by decide +kernel
theorem dX12_readsCurve_151 : decode cX12_readsCurve 151 = .ok (.aload_n 0, 1) := by decide +kernel
theorem dX12_readsCurve_152 : decode cX12_readsCurve 152 = .ok (.getfield 54, 3) := by decide +kernel
theorem dX12_readsCurve_155 : decode cX12_readsCurve 155 = .ok (.bipush 6, 2) := by decide +kernel
theorem dX12_readsCurve_157 : decode cX12_readsCurve 157 = .ok (.aload_n 0, 1) := by decide +kernel
theorem dX12_readsCurve_158 : decode cX12_readsCurve 158 = .ok (.getfield 57, 3) := by decide +kernel
theorem dX12_readsCurve_161 : decode cX12_readsCurve 161 = .ok (.iadd, 1) := by decide +kernel
theorem dX12_readsCurve_162 : decode cX12_readsCurve 162 = .ok (.iload_n 1, 1) := by decide +kernel
theorem dX12_readsCurve_163 : decode cX12_readsCurve 163 = .ok (.iastore, 1) := by decide +kernel
theorem dX12_readsCurve_164 : decode cX12_readsCurve 164 = .ok (.aload_n 0, 1) := by decide +kernel
theorem dX12_readsCurve_165 : decode cX12_readsCurve 165 = .ok (.bipush 6, 2) := by decide +kernel
theorem dX12_readsCurve_167 : decode cX12_readsCurve 167 = .ok (.aload_n 0, 1) := by decide +kernel
theorem dX12_readsCurve_168 : decode cX12_readsCurve 168 = .ok (.getfield 57, 3) := by decide +kernel
theorem dX12_readsCurve_171 : decode cX12_readsCurve 171 = .ok (.iadd, 1) := by decide +kernel
theorem dX12_readsCurve_172 : decode cX12_readsCurve 172 = .ok (.invokevirtual 254, 3) := by decide +kernel
theorem dX12_readsCurve_175 : decode cX12_readsCurve 175 = .ok (.iconst 1, 1) := by decide +kernel
theorem dX12_readsCurve_176 : decode cX12_readsCurve 176 = .ok (.if_icmp .ge 9, 3) := by decide +kernel
theorem dX12_readsCurve_179 : decode cX12_readsCurve 179 = .ok (.aload_n 0, 1) := by decide +kernel
theorem dX12_readsCurve_180 : decode cX12_readsCurve 180 = .ok (.iconst 5, 1) := by decide +kernel
theorem dX12_readsCurve_181 : decode cX12_readsCurve 181 = .ok (.iload_n 2, 1) := by decide +kernel
theorem dX12_readsCurve_182 : decode cX12_readsCurve 182 = .ok (.invokevirtual 147, 3) := by decide +kernel
theorem dX12_readsCurve_185 : decode cX12_readsCurve 185 = .ok (.aload_n 0, 1) := by decide +kernel
theorem dX12_readsCurve_186 : decode cX12_readsCurve 186 = .ok (.dup, 1) := by decide +kernel
theorem dX12_readsCurve_187 : decode cX12_readsCurve 187 = .ok (.getfield 57, 3) := by decide +kernel
theorem dX12_readsCurve_190 : decode cX12_readsCurve 190 = .ok (.iconst 1, 1) := by decide +kernel
theorem dX12_readsCurve_191 : decode cX12_readsCurve 191 = .ok (.iadd, 1) := by decide +kernel
theorem dX12_readsCurve_192 : decode cX12_readsCurve 192 = .ok (.putfield 57, 3) := by decide +kernel
theorem dX12_readsCurve_195 : decode cX12_readsCurve 195 = .ok (.return_, 1) := by decide +kernel
theorem dX12_isPrime_0 : decode cX12_isPrime 0 = .ok (.lload_n 0, 1) := by decide +kernel
theorem dX12_isPrime_1 : decode cX12_isPrime 1 = .ok (.ldc2_w 257, 3) := by decide +kernel
theorem dX12_isPrime_4 : decode cX12_isPrime 4 = .ok (.lcmp, 1) := by decide +kernel
theorem dX12_isPrime_5 : decode cX12_isPrime 5 = .ok (.ifCond .lt 11, 3) := by decide +kernel
theorem dX12_isPrime_8 : decode cX12_isPrime 8 = .ok (.lload_n 0, 1) := by decide +kernel
theorem dX12_isPrime_9 : decode cX12_isPrime 9 = .ok (.ldc2_w 259, 3) := by decide +kernel
theorem dX12_isPrime_12 : decode cX12_isPrime 12 = .ok (.lcmp, 1) := by decide +kernel
theorem dX12_isPrime_13 : decode cX12_isPrime 13 = .ok (.ifCond .le 5, 3) := by decide +kernel
theorem dX12_isPrime_16 : decode cX12_isPrime 16 = .ok (.iconst 0, 1) := by decide +kernel
theorem dX12_isPrime_17 : decode cX12_isPrime 17 = .ok (.ireturn, 1) := by decide +kernel
theorem dX12_isPrime_18 : decode cX12_isPrime 18 = .ok (.ldc2_w 257, 3) := by decide +kernel
theorem dX12_isPrime_21 : decode cX12_isPrime 21 = .ok (.lstore_n 2, 1) := by decide +kernel
theorem dX12_isPrime_22 : decode cX12_isPrime 22 = .ok (.lload_n 2, 1) := by decide +kernel
theorem dX12_isPrime_23 : decode cX12_isPrime 23 = .ok (.lload_n 0, 1) := by decide +kernel
theorem dX12_isPrime_24 : decode cX12_isPrime 24 = .ok (.lcmp, 1) := by decide +kernel
theorem dX12_isPrime_25 : decode cX12_isPrime 25 = .ok (.ifCond .ge 20, 3) := by decide +kernel
theorem dX12_isPrime_28 : decode cX12_isPrime 28 = .ok (.lload_n 0, 1) := by decide +kernel
theorem dX12_isPrime_29 : decode cX12_isPrime 29 = .ok (.lload_n 2, 1) := by decide +kernel
theorem dX12_isPrime_30 : decode cX12_isPrime 30 = .ok (.lrem, 1) := by decide +kernel
theorem dX12_isPrime_31 : decode cX12_isPrime 31 = .ok (.lconst 0, 1) := by decide +kernel
theorem dX12_isPrime_32 : decode cX12_isPrime 32 = .ok (.lcmp, 1) := by decide +kernel
theorem dX12_isPrime_33 : decode cX12_isPrime 33 = .ok (.ifCond .ne 5, 3) := by decide +kernel
theorem dX12_isPrime_36 : decode cX12_isPrime 36 = .ok (.iconst 0, 1) := by decide +kernel
theorem dX12_isPrime_37 : decode cX12_isPrime 37 = .ok (.ireturn, 1) := by decide +kernel
theorem dX12_isPrime_38 : decode cX12_isPrime 38 = .ok (.lload_n 2, 1) := by decide +kernel
theorem dX12_isPrime_39 : decode cX12_isPrime 39 = .ok (.lconst 1, 1) := by decide +kernel
theorem dX12_isPrime_40 : decode cX12_isPrime 40 = .ok (.ladd, 1) := by decide +kernel
theorem dX12_isPrime_41 : decode cX12_isPrime 41 = .ok (.lstore_n 2, 1) := by decide +kernel
theorem dX12_isPrime_42 : decode cX12_isPrime 42 = .ok (.goto (-20), 3) := by decide +kernel
theorem dX12_isPrime_45 : decode cX12_isPrime 45 = .ok (.iconst 1, 1) := by decide +kernel
theorem dX12_isPrime_46 : decode cX12_isPrime 46 = .ok (.ireturn, 1) := by decide +kernel
theorem dX12_readsField_0 : decode cX12_readsField 0 = .ok (.aload_n 0, 1) := by decide +kernel
theorem dX12_readsField_1 : decode cX12_readsField 1 = .ok (.invokevirtual 227, 3) := by decide +kernel
theorem dX12_readsField_4 : decode cX12_readsField 4 = .ok (.iconst 1, 1) := by decide +kernel
theorem dX12_readsField_5 : decode cX12_readsField 5 = .ok (.if_icmp .eq 4, 3) := by decide +kernel
theorem dX12_readsField_8 : decode cX12_readsField 8 = .ok (.return_, 1) := by decide +kernel
theorem dX12_readsField_9 : decode cX12_readsField 9 = .ok (.aload_n 0, 1) := by decide +kernel
theorem dX12_readsField_10 : decode cX12_readsField 10 = .ok (.invokevirtual 164, 3) := by decide +kernel
theorem dX12_readsField_13 : decode cX12_readsField 13 = .ok (.aload_n 0, 1) := by decide +kernel
theorem dX12_readsField_14 : decode cX12_readsField 14 = .ok (.invokevirtual 211, 3) := by decide +kernel
theorem dX12_readsField_17 : decode cX12_readsField 17 = .ok (.lstore_n 1, 1) := by decide +kernel
theorem dX12_readsField_18 : decode cX12_readsField 18 = .ok (.aload_n 0, 1) := by decide +kernel
theorem dX12_readsField_19 : decode cX12_readsField 19 = .ok (.invokevirtual 139, 3) := by decide +kernel
theorem dX12_readsField_22 : decode cX12_readsField 22 = .ok (.ifCond .eq 19, 3) := by decide +kernel
theorem dX12_readsField_25 : decode cX12_readsField 25 = .ok (.lload_n 1, 1) := by decide +kernel
theorem dX12_readsField_26 : decode cX12_readsField 26 = .ok (.invokestatic 261, 3) := by decide +kernel
theorem dX12_readsField_29 : decode cX12_readsField 29 = .ok (.ifCond .ne 12, 3) := by decide +kernel
theorem dX12_readsField_32 : decode cX12_readsField 32 = .ok (.aload_n 0, 1) := by decide +kernel
theorem dX12_readsField_33 : decode cX12_readsField 33 = .ok (.iconst 2, 1) := by decide +kernel
theorem dX12_readsField_34 : decode cX12_readsField 34 = .ok (.aload_n 0, 1) := by decide +kernel
theorem dX12_readsField_35 : decode cX12_readsField 35 = .ok (.getfield 32, 3) := by decide +kernel
theorem dX12_readsField_38 : decode cX12_readsField 38 = .ok (.invokevirtual 147, 3) := by decide +kernel
theorem dX12_readsField_41 : decode cX12_readsField 41 = .ok (.aload_n 0, 1) := by decide +kernel
theorem dX12_readsField_42 : decode cX12_readsField 42 = .ok (.invokevirtual 139, 3) := by decide +kernel
theorem dX12_readsField_45 : decode cX12_readsField 45 = .ok (.ifCond .eq 9, 3) := by decide +kernel
theorem dX12_readsField_48 : decode cX12_readsField 48 = .ok (.aload_n 0, 1) := by decide +kernel
theorem dX12_readsField_49 : decode cX12_readsField 49 = .ok (.lload_n 1, 1) := by decide +kernel
theorem dX12_readsField_50 : decode cX12_readsField 50 = .ok (.l2i, 1) := by decide +kernel
theorem dX12_readsField_51 : decode cX12_readsField 51 = .ok (.putfield 41, 3) := by decide +kernel
theorem dX12_readsField_54 : decode cX12_readsField 54 = .ok (.aload_n 0, 1) := by decide +kernel
theorem dX12_readsField_55 : decode cX12_readsField 55 = .ok (.bipush 59, 2) := by decide +kernel
theorem dX12_readsField_57 : decode cX12_readsField 57 = .ok (.invokevirtual 233, 3) := by decide +kernel
theorem dX12_readsField_60 : decode cX12_readsField 60 = .ok (.return_, 1) := by decide +kernel
theorem dX12_curves_0 : decode cX12_curves 0 = .ok (.aload_n 0, 1) := by decide +kernel
theorem dX12_curves_1 : decode cX12_curves 1 = .ok (.aload_n 0, 1) := by decide +kernel
theorem dX12_curves_2 : decode cX12_curves 2 = .ok (.getfield 13, 3) := by decide +kernel
theorem dX12_curves_5 : decode cX12_curves 5 = .ok (.putfield 26, 3) := by decide +kernel
theorem dX12_curves_8 : decode cX12_curves 8 = .ok (.aload_n 0, 1) := by decide +kernel
theorem dX12_curves_9 : decode cX12_curves 9 = .ok (.iconst 0, 1) := by decide +kernel
theorem dX12_curves_10 : decode cX12_curves 10 = .ok (.putfield 13, 3) := by decide +kernel
theorem dX12_curves_13 : decode cX12_curves 13 = .ok (.aload_n 0, 1) := by decide +kernel
theorem dX12_curves_14 : decode cX12_curves 14 = .ok (.iconst 0, 1) := by decide +kernel
theorem dX12_curves_15 : decode cX12_curves 15 = .ok (.putfield 29, 3) := by decide +kernel
theorem dX12_curves_18 : decode cX12_curves 18 = .ok (.aload_n 0, 1) := by decide +kernel
theorem dX12_curves_19 : decode cX12_curves 19 = .ok (.iconst 0, 1) := by decide +kernel
theorem dX12_curves_20 : decode cX12_curves 20 = .ok (.putfield 35, 3) := by decide +kernel
theorem dX12_curves_23 : decode cX12_curves 23 = .ok (.aload_n 0, 1) := by decide +kernel
theorem dX12_curves_24 : decode cX12_curves 24 = .ok (.iconst (-1), 1) := by decide +kernel
theorem dX12_curves_25 : decode cX12_curves 25 = .ok (.putfield 38, 3) := by decide +kernel
theorem dX12_curves_28 : decode cX12_curves 28 = .ok (.aload_n 0, 1) := by decide +kernel
theorem dX12_curves_29 : decode cX12_curves 29 = .ok (.getfield 41, 3) := by decide +kernel
theorem dX12_curves_32 : decode cX12_curves 32 = .ok (.istore_n 1, 1) := by decide +kernel
theorem dX12_curves_33 : decode cX12_curves 33 = .ok (.aload_n 0, 1) := by decide +kernel
theorem dX12_curves_34 : decode cX12_curves 34 = .ok (.bipush 7, 2) := by decide +kernel
theorem dX12_curves_36 : decode cX12_curves 36 = .ok (.putfield 41, 3) := by decide +kernel
theorem dX12_curves_39 : decode cX12_curves 39 = .ok (.aload_n 0, 1) := by decide +kernel
theorem dX12_curves_40 : decode cX12_curves 40 = .ok (.iconst 0, 1) := by decide +kernel
theorem dX12_curves_41 : decode cX12_curves 41 = .ok (.putfield 57, 3) := by decide +kernel
theorem dX12_curves_44 : decode cX12_curves 44 = .ok (.aload_n 0, 1) := by decide +kernel
theorem dX12_curves_45 : decode cX12_curves 45 = .ok (.invokevirtual 265, 3) := by decide +kernel
theorem dX12_curves_48 : decode cX12_curves 48 = .ok (.aload_n 0, 1) := by decide +kernel
theorem dX12_curves_49 : decode cX12_curves 49 = .ok (.invokevirtual 139, 3) := by decide +kernel
theorem dX12_curves_52 : decode cX12_curves 52 = .ok (.ifCond .eq 18, 3) := by decide +kernel
theorem dX12_curves_55 : decode cX12_curves 55 = .ok (.aload_n 0, 1) := by decide +kernel
theorem dX12_curves_56 : decode cX12_curves 56 = .ok (.invokevirtual 143, 3) := by decide +kernel
theorem dX12_curves_59 : decode cX12_curves 59 = .ok (.iconst (-1), 1) := by decide +kernel
theorem dX12_curves_60 : decode cX12_curves 60 = .ok (.if_icmp .eq 10, 3) := by decide +kernel
theorem dX12_curves_63 : decode cX12_curves 63 = .ok (.aload_n 0, 1) := by decide +kernel
theorem dX12_curves_64 : decode cX12_curves 64 = .ok (.invokevirtual 268, 3) := by decide +kernel
theorem dX12_curves_67 : decode cX12_curves 67 = .ok (.goto (-19), 3) := by decide +kernel
theorem dX12_curves_70 : decode cX12_curves 70 = .ok (.aload_n 0, 1) := by decide +kernel
theorem dX12_curves_71 : decode cX12_curves 71 = .ok (.aload_n 0, 1) := by decide +kernel
theorem dX12_curves_72 : decode cX12_curves 72 = .ok (.getfield 35, 3) := by decide +kernel
theorem dX12_curves_75 : decode cX12_curves 75 = .ok (.putfield 20, 3) := by decide +kernel
theorem dX12_curves_78 : decode cX12_curves 78 = .ok (.aload_n 0, 1) := by decide +kernel
theorem dX12_curves_79 : decode cX12_curves 79 = .ok (.aload_n 0, 1) := by decide +kernel
theorem dX12_curves_80 : decode cX12_curves 80 = .ok (.getfield 38, 3) := by decide +kernel
theorem dX12_curves_83 : decode cX12_curves 83 = .ok (.putfield 23, 3) := by decide +kernel
theorem dX12_curves_86 : decode cX12_curves 86 = .ok (.aload_n 0, 1) := by decide +kernel
theorem dX12_curves_87 : decode cX12_curves 87 = .ok (.getfield 35, 3) := by decide +kernel
theorem dX12_curves_90 : decode cX12_curves 90 = .ok (.ifCond .eq 14, 3) := by decide +kernel
theorem dX12_curves_93 : decode cX12_curves 93 = .ok (.aload_n 0, 1) := by decide +kernel
theorem dX12_curves_94 : decode cX12_curves 94 = .ok (.iload_n 1, 1) := by decide +kernel
theorem dX12_curves_95 : decode cX12_curves 95 = .ok (.putfield 41, 3) := by decide +kernel
theorem dX12_curves_98 : decode cX12_curves 98 = .ok (.aload_n 0, 1) := by decide +kernel
theorem dX12_curves_99 : decode cX12_curves 99 = .ok (.iconst 1, 1) := by decide +kernel
theorem dX12_curves_100 : decode cX12_curves 100 = .ok (.invokevirtual 124, 3) := by decide +kernel
theorem dX12_curves_103 : decode cX12_curves 103 = .ok (.ireturn, 1) := by decide +kernel
theorem dX12_curves_104 : decode cX12_curves 104 = .ok (.aload_n 0, 1) := by decide +kernel
theorem dX12_curves_105 : decode cX12_curves 105 = .ok (.aload_n 0, 1) := by decide +kernel
theorem dX12_curves_106 : decode cX12_curves 106 = .ok (.getfield 57, 3) := by decide +kernel
theorem dX12_curves_109 : decode cX12_curves 109 = .ok (.putfield 51, 3) := by decide +kernel
theorem dX12_curves_112 : decode cX12_curves 112 = .ok (.iconst 0, 1) := by decide +kernel
theorem dX12_curves_113 : decode cX12_curves 113 = .ok (.istore_n 2, 1) := by decide +kernel
theorem dX12_curves_114 : decode cX12_curves 114 = .ok (.iload_n 2, 1) := by decide +kernel
theorem dX12_curves_115 : decode cX12_curves 115 = .ok (.aload_n 0, 1) := by decide +kernel
theorem dX12_curves_116 : decode cX12_curves 116 = .ok (.getfield 51, 3) := by decide +kernel
theorem dX12_curves_119 : decode cX12_curves 119 = .ok (.if_icmp .ge 33, 3) := by decide +kernel
theorem dX12_curves_122 : decode cX12_curves 122 = .ok (.aload_n 0, 1) := by decide +kernel
theorem dX12_curves_123 : decode cX12_curves 123 = .ok (.iload_n 2, 1) := by decide +kernel
theorem dX12_curves_124 : decode cX12_curves 124 = .ok (.bipush 6, 2) := by decide +kernel
theorem dX12_curves_126 : decode cX12_curves 126 = .ok (.iload_n 2, 1) := by decide +kernel
theorem dX12_curves_127 : decode cX12_curves 127 = .ok (.iadd, 1) := by decide +kernel
theorem dX12_curves_128 : decode cX12_curves 128 = .ok (.invokevirtual 236, 3) := by decide +kernel
theorem dX12_curves_131 : decode cX12_curves 131 = .ok (.aload_n 0, 1) := by decide +kernel
theorem dX12_curves_132 : decode cX12_curves 132 = .ok (.getfield 54, 3) := by decide +kernel
theorem dX12_curves_135 : decode cX12_curves 135 = .ok (.iload_n 2, 1) := by decide +kernel
theorem dX12_curves_136 : decode cX12_curves 136 = .ok (.aload_n 0, 1) := by decide +kernel
theorem dX12_curves_137 : decode cX12_curves 137 = .ok (.getfield 54, 3) := by decide +kernel
theorem dX12_curves_140 : decode cX12_curves 140 = .ok (.bipush 6, 2) := by decide +kernel
theorem dX12_curves_142 : decode cX12_curves 142 = .ok (.iload_n 2, 1) := by decide +kernel
theorem dX12_curves_143 : decode cX12_curves 143 = .ok (.iadd, 1) := by decide +kernel
theorem dX12_curves_144 : decode cX12_curves 144 = .ok (.iaload, 1) := by decide +kernel
theorem dX12_curves_145 : decode cX12_curves 145 = .ok (.iastore, 1) := by decide +kernel
theorem dX12_curves_146 : decode cX12_curves 146 = .ok (.iinc 2 1, 3) := by decide +kernel
theorem dX12_curves_149 : decode cX12_curves 149 = .ok (.goto (-35), 3) := by decide +kernel
theorem dX12_curves_152 : decode cX12_curves 152 = .ok (.aload_n 0, 1) := by decide +kernel
theorem dX12_curves_153 : decode cX12_curves 153 = .ok (.iconst 0, 1) := by decide +kernel
theorem dX12_curves_154 : decode cX12_curves 154 = .ok (.putfield 118, 3) := by decide +kernel
theorem dX12_curves_157 : decode cX12_curves 157 = .ok (.aload_n 0, 1) := by decide +kernel
theorem dX12_curves_158 : decode cX12_curves 158 = .ok (.getfield 51, 3) := by decide +kernel
theorem dX12_curves_161 : decode cX12_curves 161 = .ok (.ireturn, 1) := by decide +kernel
theorem dX12_fault_0 : decode cX12_fault 0 = .ok (.iload_n 1, 1) := by decide +kernel
theorem dX12_fault_1 : decode cX12_fault 1 = .ok (.ifCond .ne 10, 3) := by decide +kernel
theorem dX12_fault_4 : decode cX12_fault 4 = .ok (.aload_n 0, 1) := by decide +kernel
theorem dX12_fault_5 : decode cX12_fault 5 = .ok (.getfield 20, 3) := by decide +kernel
theorem dX12_fault_8 : decode cX12_fault 8 = .ok (.goto 16, 3) := by decide +kernel
theorem dX12_fault_11 : decode cX12_fault 11 = .ok (.iload_n 1, 1) := by decide +kernel
theorem dX12_fault_12 : decode cX12_fault 12 = .ok (.iconst 1, 1) := by decide +kernel
theorem dX12_fault_13 : decode cX12_fault 13 = .ok (.if_icmp .ne 10, 3) := by decide +kernel
theorem dX12_fault_16 : decode cX12_fault 16 = .ok (.aload_n 0, 1) := by decide +kernel
theorem dX12_fault_17 : decode cX12_fault 17 = .ok (.getfield 23, 3) := by decide +kernel
theorem dX12_fault_20 : decode cX12_fault 20 = .ok (.goto 4, 3) := by decide +kernel
theorem dX12_fault_23 : decode cX12_fault 23 = .ok (.iconst (-1), 1) := by decide +kernel
theorem dX12_fault_24 : decode cX12_fault 24 = .ok (.ireturn, 1) := by decide +kernel
theorem dX12_isCurve_0 : decode cX12_isCurve 0 = .ok (.iload_n 1, 1) := by decide +kernel
theorem dX12_isCurve_1 : decode cX12_isCurve 1 = .ok (.iconst 0, 1) := by decide +kernel
theorem dX12_isCurve_2 : decode cX12_isCurve 2 = .ok (.aload_n 0, 1) := by decide +kernel
theorem dX12_isCurve_3 : decode cX12_isCurve 3 = .ok (.getfield 51, 3) := by decide +kernel
theorem dX12_isCurve_6 : decode cX12_isCurve 6 = .ok (.iconst 1, 1) := by decide +kernel
theorem dX12_isCurve_7 : decode cX12_isCurve 7 = .ok (.isub, 1) := by decide +kernel
theorem dX12_isCurve_8 : decode cX12_isCurve 8 = .ok (.invokestatic 271, 3) := by decide +kernel
theorem dX12_isCurve_11 : decode cX12_isCurve 11 = .ok (.ireturn, 1) := by decide +kernel
theorem dX12_points_0 : decode cX12_points 0 = .ok (.aload_n 0, 1) := by decide +kernel
theorem dX12_points_1 : decode cX12_points 1 = .ok (.getfield 41, 3) := by decide +kernel
theorem dX12_points_4 : decode cX12_points 4 = .ok (.aload_n 0, 1) := by decide +kernel
theorem dX12_points_5 : decode cX12_points 5 = .ok (.getfield 41, 3) := by decide +kernel
theorem dX12_points_8 : decode cX12_points 8 = .ok (.imul, 1) := by decide +kernel
theorem dX12_points_9 : decode cX12_points 9 = .ok (.aload_n 0, 1) := by decide +kernel
theorem dX12_points_10 : decode cX12_points 10 = .ok (.getfield 41, 3) := by decide +kernel
theorem dX12_points_13 : decode cX12_points 13 = .ok (.iadd, 1) := by decide +kernel
theorem dX12_points_14 : decode cX12_points 14 = .ok (.iconst 1, 1) := by decide +kernel
theorem dX12_points_15 : decode cX12_points 15 = .ok (.iadd, 1) := by decide +kernel
theorem dX12_points_16 : decode cX12_points 16 = .ok (.ireturn, 1) := by decide +kernel
theorem dX12_isPoint_0 : decode cX12_isPoint 0 = .ok (.iload_n 1, 1) := by decide +kernel
theorem dX12_isPoint_1 : decode cX12_isPoint 1 = .ok (.iconst 0, 1) := by decide +kernel
theorem dX12_isPoint_2 : decode cX12_isPoint 2 = .ok (.aload_n 0, 1) := by decide +kernel
theorem dX12_isPoint_3 : decode cX12_isPoint 3 = .ok (.invokevirtual 274, 3) := by decide +kernel
theorem dX12_isPoint_6 : decode cX12_isPoint 6 = .ok (.iconst 1, 1) := by decide +kernel
theorem dX12_isPoint_7 : decode cX12_isPoint 7 = .ok (.isub, 1) := by decide +kernel
theorem dX12_isPoint_8 : decode cX12_isPoint 8 = .ok (.invokestatic 271, 3) := by decide +kernel
theorem dX12_isPoint_11 : decode cX12_isPoint 11 = .ok (.ireturn, 1) := by decide +kernel
theorem dX12_isNear_0 : decode cX12_isNear 0 = .ok (.iload_n 1, 1) := by decide +kernel
theorem dX12_isNear_1 : decode cX12_isNear 1 = .ok (.aload_n 0, 1) := by decide +kernel
theorem dX12_isNear_2 : decode cX12_isNear 2 = .ok (.getfield 41, 3) := by decide +kernel
theorem dX12_isNear_5 : decode cX12_isNear 5 = .ok (.aload_n 0, 1) := by decide +kernel
theorem dX12_isNear_6 : decode cX12_isNear 6 = .ok (.getfield 41, 3) := by decide +kernel
theorem dX12_isNear_9 : decode cX12_isNear 9 = .ok (.imul, 1) := by decide +kernel
theorem dX12_isNear_10 : decode cX12_isNear 10 = .ok (.if_icmp .ge 7, 3) := by decide +kernel
theorem dX12_isNear_13 : decode cX12_isNear 13 = .ok (.iconst 1, 1) := by decide +kernel
theorem dX12_isNear_14 : decode cX12_isNear 14 = .ok (.goto 4, 3) := by decide +kernel
theorem dX12_isNear_17 : decode cX12_isNear 17 = .ok (.iconst 0, 1) := by decide +kernel
theorem dX12_isNear_18 : decode cX12_isNear 18 = .ok (.ireturn, 1) := by decide +kernel
theorem dX12_xOf_0 : decode cX12_xOf 0 = .ok (.aload_n 0, 1) := by decide +kernel
theorem dX12_xOf_1 : decode cX12_xOf 1 = .ok (.iload_n 1, 1) := by decide +kernel
theorem dX12_xOf_2 : decode cX12_xOf 2 = .ok (.invokevirtual 277, 3) := by decide +kernel
theorem dX12_xOf_5 : decode cX12_xOf 5 = .ok (.ifCond .eq 12, 3) := by decide +kernel
theorem dX12_xOf_8 : decode cX12_xOf 8 = .ok (.iload_n 1, 1) := by decide +kernel
theorem dX12_xOf_9 : decode cX12_xOf 9 = .ok (.aload_n 0, 1) := by decide +kernel
theorem dX12_xOf_10 : decode cX12_xOf 10 = .ok (.getfield 41, 3) := by decide +kernel
theorem dX12_xOf_13 : decode cX12_xOf 13 = .ok (.idiv, 1) := by decide +kernel
theorem dX12_xOf_14 : decode cX12_xOf 14 = .ok (.goto 18, 3) := by decide +kernel
theorem dX12_xOf_17 : decode cX12_xOf 17 = .ok (.iload_n 1, 1) := by decide +kernel
theorem dX12_xOf_18 : decode cX12_xOf 18 = .ok (.aload_n 0, 1) := by decide +kernel
theorem dX12_xOf_19 : decode cX12_xOf 19 = .ok (.invokevirtual 274, 3) := by decide +kernel
theorem dX12_xOf_22 : decode cX12_xOf 22 = .ok (.iconst 1, 1) := by decide +kernel
theorem dX12_xOf_23 : decode cX12_xOf 23 = .ok (.isub, 1) := by decide +kernel
theorem dX12_xOf_24 : decode cX12_xOf 24 = .ok (.if_icmp .ne 7, 3) := by decide +kernel
theorem dX12_xOf_27 : decode cX12_xOf 27 = .ok (.iconst 0, 1) := by decide +kernel
theorem dX12_xOf_28 : decode cX12_xOf 28 = .ok (.goto 4, 3) := by decide +kernel
theorem dX12_xOf_31 : decode cX12_xOf 31 = .ok (.iconst 1, 1) := by decide +kernel
theorem dX12_xOf_32 : decode cX12_xOf 32 = .ok (.ireturn, 1) := by decide +kernel
theorem dX12_yOf_0 : decode cX12_yOf 0 = .ok (.aload_n 0, 1) := by decide +kernel
theorem dX12_yOf_1 : decode cX12_yOf 1 = .ok (.iload_n 1, 1) := by decide +kernel
theorem dX12_yOf_2 : decode cX12_yOf 2 = .ok (.invokevirtual 277, 3) := by decide +kernel
theorem dX12_yOf_5 : decode cX12_yOf 5 = .ok (.ifCond .eq 12, 3) := by decide +kernel
theorem dX12_yOf_8 : decode cX12_yOf 8 = .ok (.iload_n 1, 1) := by decide +kernel
theorem dX12_yOf_9 : decode cX12_yOf 9 = .ok (.aload_n 0, 1) := by decide +kernel
theorem dX12_yOf_10 : decode cX12_yOf 10 = .ok (.getfield 41, 3) := by decide +kernel
theorem dX12_yOf_13 : decode cX12_yOf 13 = .ok (.irem, 1) := by decide +kernel
theorem dX12_yOf_14 : decode cX12_yOf 14 = .ok (.goto 28, 3) := by decide +kernel
theorem dX12_yOf_17 : decode cX12_yOf 17 = .ok (.iload_n 1, 1) := by decide +kernel
theorem dX12_yOf_18 : decode cX12_yOf 18 = .ok (.aload_n 0, 1) := by decide +kernel
theorem dX12_yOf_19 : decode cX12_yOf 19 = .ok (.invokevirtual 274, 3) := by decide +kernel
theorem dX12_yOf_22 : decode cX12_yOf 22 = .ok (.iconst 1, 1) := by decide +kernel
theorem dX12_yOf_23 : decode cX12_yOf 23 = .ok (.isub, 1) := by decide +kernel
theorem dX12_yOf_24 : decode cX12_yOf 24 = .ok (.if_icmp .ne 7, 3) := by decide +kernel
theorem dX12_yOf_27 : decode cX12_yOf 27 = .ok (.iconst 1, 1) := by decide +kernel
theorem dX12_yOf_28 : decode cX12_yOf 28 = .ok (.goto 14, 3) := by decide +kernel
theorem dX12_yOf_31 : decode cX12_yOf 31 = .ok (.iload_n 1, 1) := by decide +kernel
theorem dX12_yOf_32 : decode cX12_yOf 32 = .ok (.aload_n 0, 1) := by decide +kernel
theorem dX12_yOf_33 : decode cX12_yOf 33 = .ok (.getfield 41, 3) := by decide +kernel
theorem dX12_yOf_36 : decode cX12_yOf 36 = .ok (.aload_n 0, 1) := by decide +kernel
theorem dX12_yOf_37 : decode cX12_yOf 37 = .ok (.getfield 41, 3) := by decide +kernel
theorem dX12_yOf_40 : decode cX12_yOf 40 = .ok (.imul, 1) := by decide +kernel
theorem dX12_yOf_41 : decode cX12_yOf 41 = .ok (.isub, 1) := by decide +kernel
theorem dX12_yOf_42 : decode cX12_yOf 42 = .ok (.ireturn, 1) := by decide +kernel
theorem dX12_valueOf_0 : decode cX12_valueOf 0 = .ok (.aload_n 0, 1) := by decide +kernel
theorem dX12_valueOf_1 : decode cX12_valueOf 1 = .ok (.iload_n 3, 1) := by decide +kernel
theorem dX12_valueOf_2 : decode cX12_valueOf 2 = .ok (.invokevirtual 277, 3) := by decide +kernel
theorem dX12_valueOf_5 : decode cX12_valueOf 5 = .ok (.ifCond .eq 7, 3) := by decide +kernel
theorem dX12_valueOf_8 : decode cX12_valueOf 8 = .ok (.iconst 1, 1) := by decide +kernel
theorem dX12_valueOf_9 : decode cX12_valueOf 9 = .ok (.goto 4, 3) := by decide +kernel
theorem dX12_valueOf_12 : decode cX12_valueOf 12 = .ok (.iconst 0, 1) := by decide +kernel
theorem dX12_valueOf_13 : decode cX12_valueOf 13 = .ok (.istore 4, 2) := by decide +kernel
theorem dX12_valueOf_15 : decode cX12_valueOf 15 = .ok (.lconst 0, 1) := by decide +kernel
theorem dX12_valueOf_16 : decode cX12_valueOf 16 = .ok (.lstore 5, 2) := by decide +kernel
theorem dX12_valueOf_18 : decode cX12_valueOf 18 = .ok (.iconst 0, 1) := by decide +kernel
theorem dX12_valueOf_19 : decode cX12_valueOf 19 = .ok (.istore 7, 2) := by decide +kernel
theorem dX12_valueOf_21 : decode cX12_valueOf 21 = .ok (.iload 7, 2) := by decide +kernel
theorem dX12_valueOf_23 : decode cX12_valueOf 23 = .ok (.iload_n 2, 1) := by decide +kernel
theorem dX12_valueOf_24 : decode cX12_valueOf 24 = .ok (.if_icmp .gt 95, 3) := by decide +kernel
theorem dX12_valueOf_27 : decode cX12_valueOf 27 = .ok (.iconst 0, 1) := by decide +kernel
theorem dX12_valueOf_28 : decode cX12_valueOf 28 = .ok (.istore 8, 2) := by decide +kernel
theorem dX12_valueOf_30 : decode cX12_valueOf 30 = .ok (.iload 7, 2) := by decide +kernel
theorem dX12_valueOf_32 : decode cX12_valueOf 32 = .ok (.iload 8, 2) := by decide +kernel
theorem dX12_valueOf_34 : decode cX12_valueOf 34 = .ok (.iadd, 1) := by decide +kernel
theorem dX12_valueOf_35 : decode cX12_valueOf 35 = .ok (.iload_n 2, 1) := by decide +kernel
theorem dX12_valueOf_36 : decode cX12_valueOf 36 = .ok (.if_icmp .gt 77, 3) := by decide +kernel
theorem dX12_valueOf_39 : decode cX12_valueOf 39 = .ok (.lload 5, 2) := by decide +kernel
theorem dX12_valueOf_41 : decode cX12_valueOf 41 = .ok (.aload_n 0, 1) := by decide +kernel
theorem dX12_valueOf_42 : decode cX12_valueOf 42 = .ok (.iload_n 1, 1) := by decide +kernel
theorem dX12_valueOf_43 : decode cX12_valueOf 43 = .ok (.iload 7, 2) := by decide +kernel
theorem dX12_valueOf_45 : decode cX12_valueOf 45 = .ok (.iload 8, 2) := by decide +kernel
theorem dX12_valueOf_47 : decode cX12_valueOf 47 = .ok (.invokevirtual 184, 3) := by decide +kernel
theorem dX12_valueOf_50 : decode cX12_valueOf 50 = .ok (.i2l, 1) := by decide +kernel
theorem dX12_valueOf_51 : decode cX12_valueOf 51 = .ok (.aload_n 0, 1) := by decide +kernel
theorem dX12_valueOf_52 : decode cX12_valueOf 52 = .ok (.aload_n 0, 1) := by decide +kernel
theorem dX12_valueOf_53 : decode cX12_valueOf 53 = .ok (.iload_n 3, 1) := by decide +kernel
theorem dX12_valueOf_54 : decode cX12_valueOf 54 = .ok (.invokevirtual 280, 3) := by decide +kernel
theorem dX12_valueOf_57 : decode cX12_valueOf 57 = .ok (.iload 7, 2) := by decide +kernel
theorem dX12_valueOf_59 : decode cX12_valueOf 59 = .ok (.invokevirtual 180, 3) := by decide +kernel
theorem dX12_valueOf_62 : decode cX12_valueOf 62 = .ok (.i2l, 1) := by decide +kernel
theorem dX12_valueOf_63 : decode cX12_valueOf 63 = .ok (.lmul, 1) := by decide +kernel
theorem dX12_valueOf_64 : decode cX12_valueOf 64 = .ok (.aload_n 0, 1) := by decide +kernel
theorem dX12_valueOf_65 : decode cX12_valueOf 65 = .ok (.getfield 41, 3) := by decide +kernel
theorem dX12_valueOf_68 : decode cX12_valueOf 68 = .ok (.i2l, 1) := by decide +kernel
theorem dX12_valueOf_69 : decode cX12_valueOf 69 = .ok (.lrem, 1) := by decide +kernel
theorem dX12_valueOf_70 : decode cX12_valueOf 70 = .ok (.aload_n 0, 1) := by decide +kernel
theorem dX12_valueOf_71 : decode cX12_valueOf 71 = .ok (.aload_n 0, 1) := by decide +kernel
theorem dX12_valueOf_72 : decode cX12_valueOf 72 = .ok (.iload_n 3, 1) := by decide +kernel
theorem dX12_valueOf_73 : decode cX12_valueOf 73 = .ok (.invokevirtual 283, 3) := by decide +kernel
theorem dX12_valueOf_76 : decode cX12_valueOf 76 = .ok (.iload 8, 2) := by decide +kernel
theorem dX12_valueOf_78 : decode cX12_valueOf 78 = .ok (.invokevirtual 180, 3) := by decide +kernel
theorem dX12_valueOf_81 : decode cX12_valueOf 81 = .ok (.i2l, 1) := by decide +kernel
theorem dX12_valueOf_82 : decode cX12_valueOf 82 = .ok (.lmul, 1) := by decide +kernel
theorem dX12_valueOf_83 : decode cX12_valueOf 83 = .ok (.aload_n 0, 1) := by decide +kernel
theorem dX12_valueOf_84 : decode cX12_valueOf 84 = .ok (.getfield 41, 3) := by decide +kernel
theorem dX12_valueOf_87 : decode cX12_valueOf 87 = .ok (.i2l, 1) := by decide +kernel
theorem dX12_valueOf_88 : decode cX12_valueOf 88 = .ok (.lrem, 1) := by decide +kernel
theorem dX12_valueOf_89 : decode cX12_valueOf 89 = .ok (.aload_n 0, 1) := by decide +kernel
theorem dX12_valueOf_90 : decode cX12_valueOf 90 = .ok (.iload 4, 2) := by decide +kernel
theorem dX12_valueOf_92 : decode cX12_valueOf 92 = .ok (.iload_n 2, 1) := by decide +kernel
theorem dX12_valueOf_93 : decode cX12_valueOf 93 = .ok (.iload 7, 2) := by decide +kernel
theorem dX12_valueOf_95 : decode cX12_valueOf 95 = .ok (.isub, 1) := by decide +kernel
theorem dX12_valueOf_96 : decode cX12_valueOf 96 = .ok (.iload 8, 2) := by decide +kernel
theorem dX12_valueOf_98 : decode cX12_valueOf 98 = .ok (.isub, 1) := by decide +kernel
theorem dX12_valueOf_99 : decode cX12_valueOf 99 = .ok (.invokevirtual 180, 3) := by decide +kernel
theorem dX12_valueOf_102 : decode cX12_valueOf 102 = .ok (.i2l, 1) := by decide +kernel
theorem dX12_valueOf_103 : decode cX12_valueOf 103 = .ok (.lmul, 1) := by decide +kernel
theorem dX12_valueOf_104 : decode cX12_valueOf 104 = .ok (.ladd, 1) := by decide +kernel
theorem dX12_valueOf_105 : decode cX12_valueOf 105 = .ok (.lstore 5, 2) := by decide +kernel
theorem dX12_valueOf_107 : decode cX12_valueOf 107 = .ok (.iinc 8 1, 3) := by decide +kernel
theorem dX12_valueOf_110 : decode cX12_valueOf 110 = .ok (.goto (-80), 3) := by decide +kernel
theorem dX12_valueOf_113 : decode cX12_valueOf 113 = .ok (.iinc 7 1, 3) := by decide +kernel
theorem dX12_valueOf_116 : decode cX12_valueOf 116 = .ok (.goto (-95), 3) := by decide +kernel
theorem dX12_valueOf_119 : decode cX12_valueOf 119 = .ok (.aload_n 0, 1) := by decide +kernel
theorem dX12_valueOf_120 : decode cX12_valueOf 120 = .ok (.lload 5, 2) := by decide +kernel
theorem dX12_valueOf_122 : decode cX12_valueOf 122 = .ok (.invokevirtual 176, 3) := by decide +kernel
theorem dX12_valueOf_125 : decode cX12_valueOf 125 = .ok (.ireturn, 1) := by decide +kernel
theorem dX12_has_0 : decode cX12_has 0 = .ok (.iload_n 1, 1) := by decide +kernel
theorem dX12_has_1 : decode cX12_has 1 = .ok (.tableswitch 51 0 3 #[31, 36, 41, 46], 31) := by decide +kernel
theorem dX12_has_32 : decode cX12_has 32 = .ok (.aload_n 0, 1) := by decide +kernel
theorem dX12_has_33 : decode cX12_has 33 = .ok (.getfield 41, 3) := by decide +kernel
theorem dX12_has_36 : decode cX12_has 36 = .ok (.ireturn, 1) := by decide +kernel
theorem dX12_has_37 : decode cX12_has 37 = .ok (.aload_n 0, 1) := by decide +kernel
theorem dX12_has_38 : decode cX12_has 38 = .ok (.getfield 51, 3) := by decide +kernel
theorem dX12_has_41 : decode cX12_has 41 = .ok (.ireturn, 1) := by decide +kernel
theorem dX12_has_42 : decode cX12_has 42 = .ok (.aload_n 0, 1) := by decide +kernel
theorem dX12_has_43 : decode cX12_has 43 = .ok (.invokevirtual 274, 3) := by decide +kernel
theorem dX12_has_46 : decode cX12_has 46 = .ok (.ireturn, 1) := by decide +kernel
theorem dX12_has_47 : decode cX12_has 47 = .ok (.aload_n 0, 1) := by decide +kernel
theorem dX12_has_48 : decode cX12_has 48 = .ok (.getfield 118, 3) := by decide +kernel
theorem dX12_has_51 : decode cX12_has 51 = .ok (.ireturn, 1) := by decide +kernel
theorem dX12_has_52 : decode cX12_has 52 = .ok (.iconst (-1), 1) := by decide +kernel
theorem dX12_has_53 : decode cX12_has 53 = .ok (.ireturn, 1) := by decide +kernel
theorem dX12_letter_0 : decode cX12_letter 0 = .ok (.aload_n 0, 1) := by decide +kernel
theorem dX12_letter_1 : decode cX12_letter 1 = .ok (.iload_n 1, 1) := by decide +kernel
theorem dX12_letter_2 : decode cX12_letter 2 = .ok (.invokevirtual 286, 3) := by decide +kernel
theorem dX12_letter_5 : decode cX12_letter 5 = .ok (.ifCond .eq 28, 3) := by decide +kernel
theorem dX12_letter_8 : decode cX12_letter 8 = .ok (.iload_n 2, 1) := by decide +kernel
theorem dX12_letter_9 : decode cX12_letter 9 = .ok (.iconst 0, 1) := by decide +kernel
theorem dX12_letter_10 : decode cX12_letter 10 = .ok (.iconst 5, 1) := by decide +kernel
theorem dX12_letter_11 : decode cX12_letter 11 = .ok (.invokestatic 271, 3) := by decide +kernel
theorem dX12_letter_14 : decode cX12_letter 14 = .ok (.ifCond .eq 19, 3) := by decide +kernel
theorem dX12_letter_17 : decode cX12_letter 17 = .ok (.aload_n 0, 1) := by decide +kernel
theorem dX12_letter_18 : decode cX12_letter 18 = .ok (.getfield 54, 3) := by decide +kernel
theorem dX12_letter_21 : decode cX12_letter 21 = .ok (.iload_n 1, 1) := by decide +kernel
theorem dX12_letter_22 : decode cX12_letter 22 = .ok (.iaload, 1) := by decide +kernel
theorem dX12_letter_23 : decode cX12_letter 23 = .ok (.iconst 5, 1) := by decide +kernel
theorem dX12_letter_24 : decode cX12_letter 24 = .ok (.iload_n 2, 1) := by decide +kernel
theorem dX12_letter_25 : decode cX12_letter 25 = .ok (.imul, 1) := by decide +kernel
theorem dX12_letter_26 : decode cX12_letter 26 = .ok (.ishr, 1) := by decide +kernel
theorem dX12_letter_27 : decode cX12_letter 27 = .ok (.bipush 31, 2) := by decide +kernel
theorem dX12_letter_29 : decode cX12_letter 29 = .ok (.iand, 1) := by decide +kernel
theorem dX12_letter_30 : decode cX12_letter 30 = .ok (.goto 4, 3) := by decide +kernel
theorem dX12_letter_33 : decode cX12_letter 33 = .ok (.iconst (-1), 1) := by decide +kernel
theorem dX12_letter_34 : decode cX12_letter 34 = .ok (.ireturn, 1) := by decide +kernel
theorem dX12_isTerm_0 : decode cX12_isTerm 0 = .ok (.iload_n 0, 1) := by decide +kernel
theorem dX12_isTerm_1 : decode cX12_isTerm 1 = .ok (.ifCond .lt 23, 3) := by decide +kernel
theorem dX12_isTerm_4 : decode cX12_isTerm 4 = .ok (.iload_n 1, 1) := by decide +kernel
theorem dX12_isTerm_5 : decode cX12_isTerm 5 = .ok (.ifCond .lt 19, 3) := by decide +kernel
theorem dX12_isTerm_8 : decode cX12_isTerm 8 = .ok (.iload_n 0, 1) := by decide +kernel
theorem dX12_isTerm_9 : decode cX12_isTerm 9 = .ok (.iconst 4, 1) := by decide +kernel
theorem dX12_isTerm_10 : decode cX12_isTerm 10 = .ok (.if_icmp .gt 14, 3) := by decide +kernel
theorem dX12_isTerm_13 : decode cX12_isTerm 13 = .ok (.iload_n 1, 1) := by decide +kernel
theorem dX12_isTerm_14 : decode cX12_isTerm 14 = .ok (.iconst 4, 1) := by decide +kernel
theorem dX12_isTerm_15 : decode cX12_isTerm 15 = .ok (.iload_n 0, 1) := by decide +kernel
theorem dX12_isTerm_16 : decode cX12_isTerm 16 = .ok (.isub, 1) := by decide +kernel
theorem dX12_isTerm_17 : decode cX12_isTerm 17 = .ok (.if_icmp .gt 7, 3) := by decide +kernel
theorem dX12_isTerm_20 : decode cX12_isTerm 20 = .ok (.iconst 1, 1) := by decide +kernel
theorem dX12_isTerm_21 : decode cX12_isTerm 21 = .ok (.goto 4, 3) := by decide +kernel
theorem dX12_isTerm_24 : decode cX12_isTerm 24 = .ok (.iconst 0, 1) := by decide +kernel
theorem dX12_isTerm_25 : decode cX12_isTerm 25 = .ok (.ireturn, 1) := by decide +kernel
theorem dX12_term_0 : decode cX12_term 0 = .ok (.aload_n 0, 1) := by decide +kernel
theorem dX12_term_1 : decode cX12_term 1 = .ok (.iload_n 1, 1) := by decide +kernel
theorem dX12_term_2 : decode cX12_term 2 = .ok (.invokevirtual 286, 3) := by decide +kernel
theorem dX12_term_5 : decode cX12_term 5 = .ok (.ifCond .eq 21, 3) := by decide +kernel
theorem dX12_term_8 : decode cX12_term 8 = .ok (.iload_n 2, 1) := by decide +kernel
theorem dX12_term_9 : decode cX12_term 9 = .ok (.iload_n 3, 1) := by decide +kernel
theorem dX12_term_10 : decode cX12_term 10 = .ok (.invokestatic 289, 3) := by decide +kernel
theorem dX12_term_13 : decode cX12_term 13 = .ok (.ifCond .eq 13, 3) := by decide +kernel
theorem dX12_term_16 : decode cX12_term 16 = .ok (.aload_n 0, 1) := by decide +kernel
theorem dX12_term_17 : decode cX12_term 17 = .ok (.iload_n 1, 1) := by decide +kernel
theorem dX12_term_18 : decode cX12_term 18 = .ok (.iload_n 2, 1) := by decide +kernel
theorem dX12_term_19 : decode cX12_term 19 = .ok (.iload_n 3, 1) := by decide +kernel
theorem dX12_term_20 : decode cX12_term 20 = .ok (.invokevirtual 184, 3) := by decide +kernel
theorem dX12_term_23 : decode cX12_term 23 = .ok (.goto 4, 3) := by decide +kernel
theorem dX12_term_26 : decode cX12_term 26 = .ok (.iconst (-1), 1) := by decide +kernel
theorem dX12_term_27 : decode cX12_term 27 = .ok (.ireturn, 1) := by decide +kernel
theorem dX12_degree_0 : decode cX12_degree 0 = .ok (.aload_n 0, 1) := by decide +kernel
theorem dX12_degree_1 : decode cX12_degree 1 = .ok (.iload_n 1, 1) := by decide +kernel
theorem dX12_degree_2 : decode cX12_degree 2 = .ok (.invokevirtual 286, 3) := by decide +kernel
theorem dX12_degree_5 : decode cX12_degree 5 = .ok (.ifCond .eq 11, 3) := by decide +kernel
theorem dX12_degree_8 : decode cX12_degree 8 = .ok (.aload_n 0, 1) := by decide +kernel
theorem dX12_degree_9 : decode cX12_degree 9 = .ok (.iload_n 1, 1) := by decide +kernel
theorem dX12_degree_10 : decode cX12_degree 10 = .ok (.invokevirtual 254, 3) := by decide +kernel
theorem dX12_degree_13 : decode cX12_degree 13 = .ok (.goto 4, 3) := by decide +kernel
theorem dX12_degree_16 : decode cX12_degree 16 = .ok (.iconst (-1), 1) := by decide +kernel
theorem dX12_degree_17 : decode cX12_degree 17 = .ok (.ireturn, 1) := by decide +kernel
theorem dX12_valueAt_0 : decode cX12_valueAt 0 = .ok (.aload_n 0, 1) := by decide +kernel
theorem dX12_valueAt_1 : decode cX12_valueAt 1 = .ok (.iload_n 1, 1) := by decide +kernel
theorem dX12_valueAt_2 : decode cX12_valueAt 2 = .ok (.aload_n 0, 1) := by decide +kernel
theorem dX12_valueAt_3 : decode cX12_valueAt 3 = .ok (.iload_n 1, 1) := by decide +kernel
theorem dX12_valueAt_4 : decode cX12_valueAt 4 = .ok (.invokevirtual 254, 3) := by decide +kernel
theorem dX12_valueAt_7 : decode cX12_valueAt 7 = .ok (.iload_n 2, 1) := by decide +kernel
theorem dX12_valueAt_8 : decode cX12_valueAt 8 = .ok (.invokevirtual 293, 3) := by decide +kernel
theorem dX12_valueAt_11 : decode cX12_valueAt 11 = .ok (.ireturn, 1) := by decide +kernel
theorem dX12_value_0 : decode cX12_value 0 = .ok (.aload_n 0, 1) := by decide +kernel
theorem dX12_value_1 : decode cX12_value 1 = .ok (.iload_n 1, 1) := by decide +kernel
theorem dX12_value_2 : decode cX12_value 2 = .ok (.invokevirtual 286, 3) := by decide +kernel
theorem dX12_value_5 : decode cX12_value 5 = .ok (.ifCond .eq 20, 3) := by decide +kernel
theorem dX12_value_8 : decode cX12_value 8 = .ok (.aload_n 0, 1) := by decide +kernel
theorem dX12_value_9 : decode cX12_value 9 = .ok (.iload_n 2, 1) := by decide +kernel
theorem dX12_value_10 : decode cX12_value 10 = .ok (.invokevirtual 296, 3) := by decide +kernel
theorem dX12_value_13 : decode cX12_value 13 = .ok (.ifCond .eq 12, 3) := by decide +kernel
theorem dX12_value_16 : decode cX12_value 16 = .ok (.aload_n 0, 1) := by decide +kernel
theorem dX12_value_17 : decode cX12_value 17 = .ok (.iload_n 1, 1) := by decide +kernel
theorem dX12_value_18 : decode cX12_value 18 = .ok (.iload_n 2, 1) := by decide +kernel
theorem dX12_value_19 : decode cX12_value 19 = .ok (.invokevirtual 299, 3) := by decide +kernel
theorem dX12_value_22 : decode cX12_value 22 = .ok (.goto 4, 3) := by decide +kernel
theorem dX12_value_25 : decode cX12_value 25 = .ok (.iconst (-1), 1) := by decide +kernel
theorem dX12_value_26 : decode cX12_value 26 = .ok (.ireturn, 1) := by decide +kernel
theorem dX12_point_0 : decode cX12_point 0 = .ok (.aload_n 0, 1) := by decide +kernel
theorem dX12_point_1 : decode cX12_point 1 = .ok (.iload_n 1, 1) := by decide +kernel
theorem dX12_point_2 : decode cX12_point 2 = .ok (.invokevirtual 286, 3) := by decide +kernel
theorem dX12_point_5 : decode cX12_point 5 = .ok (.ifCond .eq 8, 3) := by decide +kernel
theorem dX12_point_8 : decode cX12_point 8 = .ok (.iload_n 2, 1) := by decide +kernel
theorem dX12_point_9 : decode cX12_point 9 = .ok (.iconst (-1), 1) := by decide +kernel
theorem dX12_point_10 : decode cX12_point 10 = .ok (.if_icmp .ge 5, 3) := by decide +kernel
theorem dX12_point_13 : decode cX12_point 13 = .ok (.iconst (-1), 1) := by decide +kernel
theorem dX12_point_14 : decode cX12_point 14 = .ok (.ireturn, 1) := by decide +kernel
theorem dX12_point_15 : decode cX12_point 15 = .ok (.iconst 0, 1) := by decide +kernel
theorem dX12_point_16 : decode cX12_point 16 = .ok (.istore_n 3, 1) := by decide +kernel
theorem dX12_point_17 : decode cX12_point 17 = .ok (.iconst 0, 1) := by decide +kernel
theorem dX12_point_18 : decode cX12_point 18 = .ok (.istore 4, 2) := by decide +kernel
theorem dX12_point_20 : decode cX12_point 20 = .ok (.iload 4, 2) := by decide +kernel
theorem dX12_point_22 : decode cX12_point 22 = .ok (.aload_n 0, 1) := by decide +kernel
theorem dX12_point_23 : decode cX12_point 23 = .ok (.invokevirtual 274, 3) := by decide +kernel
theorem dX12_point_26 : decode cX12_point 26 = .ok (.if_icmp .ge 33, 3) := by decide +kernel
theorem dX12_point_29 : decode cX12_point 29 = .ok (.aload_n 0, 1) := by decide +kernel
theorem dX12_point_30 : decode cX12_point 30 = .ok (.iload_n 1, 1) := by decide +kernel
theorem dX12_point_31 : decode cX12_point 31 = .ok (.iload 4, 2) := by decide +kernel
theorem dX12_point_33 : decode cX12_point 33 = .ok (.invokevirtual 299, 3) := by decide +kernel
theorem dX12_point_36 : decode cX12_point 36 = .ok (.ifCond .eq 6, 3) := by decide +kernel
theorem dX12_point_39 : decode cX12_point 39 = .ok (.goto 14, 3) := by decide +kernel
theorem dX12_point_42 : decode cX12_point 42 = .ok (.iload_n 3, 1) := by decide +kernel
theorem dX12_point_43 : decode cX12_point 43 = .ok (.iload_n 2, 1) := by decide +kernel
theorem dX12_point_44 : decode cX12_point 44 = .ok (.if_icmp .ne 6, 3) := by decide +kernel
theorem dX12_point_47 : decode cX12_point 47 = .ok (.iload 4, 2) := by decide +kernel
theorem dX12_point_49 : decode cX12_point 49 = .ok (.ireturn, 1) := by decide +kernel
theorem dX12_point_50 : decode cX12_point 50 = .ok (.iinc 3 1, 3) := by decide +kernel
theorem dX12_point_53 : decode cX12_point 53 = .ok (.iinc 4 1, 3) := by decide +kernel
theorem dX12_point_56 : decode cX12_point 56 = .ok (.goto (-36), 3) := by decide +kernel
theorem dX12_point_59 : decode cX12_point 59 = .ok (.iload_n 2, 1) := by decide +kernel
theorem dX12_point_60 : decode cX12_point 60 = .ok (.iconst (-1), 1) := by decide +kernel
theorem dX12_point_61 : decode cX12_point 61 = .ok (.if_icmp .ne 7, 3) := by decide +kernel
theorem dX12_point_64 : decode cX12_point 64 = .ok (.iload_n 3, 1) := by decide +kernel
theorem dX12_point_65 : decode cX12_point 65 = .ok (.goto 4, 3) := by decide +kernel
theorem dX12_point_68 : decode cX12_point 68 = .ok (.iconst (-1), 1) := by decide +kernel
theorem dX12_point_69 : decode cX12_point 69 = .ok (.ireturn, 1) := by decide +kernel
theorem dX12_sets1_0 : decode cX12_sets1 0 = .ok (.iconst 1, 1) := by decide +kernel
theorem dX12_sets1_1 : decode cX12_sets1 1 = .ok (.istore_n 2, 1) := by decide +kernel
theorem dX12_sets1_2 : decode cX12_sets1 2 = .ok (.iconst 0, 1) := by decide +kernel
theorem dX12_sets1_3 : decode cX12_sets1 3 = .ok (.istore_n 3, 1) := by decide +kernel
theorem dX12_sets1_4 : decode cX12_sets1 4 = .ok (.iload_n 3, 1) := by decide +kernel
theorem dX12_sets1_5 : decode cX12_sets1 5 = .ok (.iload_n 1, 1) := by decide +kernel
theorem dX12_sets1_6 : decode cX12_sets1 6 = .ok (.if_icmp .ge 19, 3) := by decide +kernel
theorem dX12_sets1_9 : decode cX12_sets1 9 = .ok (.iload_n 2, 1) := by decide +kernel
theorem dX12_sets1_10 : decode cX12_sets1 10 = .ok (.iload_n 0, 1) := by decide +kernel
theorem dX12_sets1_11 : decode cX12_sets1 11 = .ok (.iload_n 3, 1) := by decide +kernel
theorem dX12_sets1_12 : decode cX12_sets1 12 = .ok (.isub, 1) := by decide +kernel
theorem dX12_sets1_13 : decode cX12_sets1 13 = .ok (.imul, 1) := by decide +kernel
theorem dX12_sets1_14 : decode cX12_sets1 14 = .ok (.iload_n 3, 1) := by decide +kernel
theorem dX12_sets1_15 : decode cX12_sets1 15 = .ok (.iconst 1, 1) := by decide +kernel
theorem dX12_sets1_16 : decode cX12_sets1 16 = .ok (.iadd, 1) := by decide +kernel
theorem dX12_sets1_17 : decode cX12_sets1 17 = .ok (.idiv, 1) := by decide +kernel
theorem dX12_sets1_18 : decode cX12_sets1 18 = .ok (.istore_n 2, 1) := by decide +kernel
theorem dX12_sets1_19 : decode cX12_sets1 19 = .ok (.iinc 3 1, 3) := by decide +kernel
theorem dX12_sets1_22 : decode cX12_sets1 22 = .ok (.goto (-18), 3) := by decide +kernel
theorem dX12_sets1_25 : decode cX12_sets1 25 = .ok (.iload_n 2, 1) := by decide +kernel
theorem dX12_sets1_26 : decode cX12_sets1 26 = .ok (.ireturn, 1) := by decide +kernel
theorem dX12_addsPowers_0 : decode cX12_addsPowers 0 = .ok (.iconst 0, 1) := by decide +kernel
theorem dX12_addsPowers_1 : decode cX12_addsPowers 1 = .ok (.istore 7, 2) := by decide +kernel
theorem dX12_addsPowers_3 : decode cX12_addsPowers 3 = .ok (.iload 7, 2) := by decide +kernel
theorem dX12_addsPowers_5 : decode cX12_addsPowers 5 = .ok (.iload 5, 2) := by decide +kernel
theorem dX12_addsPowers_7 : decode cX12_addsPowers 7 = .ok (.if_icmp .gt 64, 3) := by decide +kernel
theorem dX12_addsPowers_10 : decode cX12_addsPowers 10 = .ok (.aload_n 0, 1) := by decide +kernel
theorem dX12_addsPowers_11 : decode cX12_addsPowers 11 = .ok (.iload_n 1, 1) := by decide +kernel
theorem dX12_addsPowers_12 : decode cX12_addsPowers 12 = .ok (.iload 7, 2) := by decide +kernel
theorem dX12_addsPowers_14 : decode cX12_addsPowers 14 = .ok (.iload 6, 2) := by decide +kernel
theorem dX12_addsPowers_16 : decode cX12_addsPowers 16 = .ok (.aload_n 0, 1) := by decide +kernel
theorem dX12_addsPowers_17 : decode cX12_addsPowers 17 = .ok (.iload_n 1, 1) := by decide +kernel
theorem dX12_addsPowers_18 : decode cX12_addsPowers 18 = .ok (.iload 7, 2) := by decide +kernel
theorem dX12_addsPowers_20 : decode cX12_addsPowers 20 = .ok (.iload 6, 2) := by decide +kernel
theorem dX12_addsPowers_22 : decode cX12_addsPowers 22 = .ok (.invokevirtual 184, 3) := by decide +kernel
theorem dX12_addsPowers_25 : decode cX12_addsPowers 25 = .ok (.i2l, 1) := by decide +kernel
theorem dX12_addsPowers_26 : decode cX12_addsPowers 26 = .ok (.lload_n 2, 1) := by decide +kernel
theorem dX12_addsPowers_27 : decode cX12_addsPowers 27 = .ok (.iload 5, 2) := by decide +kernel
theorem dX12_addsPowers_29 : decode cX12_addsPowers 29 = .ok (.iload 7, 2) := by decide +kernel
theorem dX12_addsPowers_31 : decode cX12_addsPowers 31 = .ok (.invokestatic 302, 3) := by decide +kernel
theorem dX12_addsPowers_34 : decode cX12_addsPowers 34 = .ok (.i2l, 1) := by decide +kernel
theorem dX12_addsPowers_35 : decode cX12_addsPowers 35 = .ok (.lmul, 1) := by decide +kernel
theorem dX12_addsPowers_36 : decode cX12_addsPowers 36 = .ok (.aload_n 0, 1) := by decide +kernel
theorem dX12_addsPowers_37 : decode cX12_addsPowers 37 = .ok (.getfield 41, 3) := by decide +kernel
theorem dX12_addsPowers_40 : decode cX12_addsPowers 40 = .ok (.i2l, 1) := by decide +kernel
theorem dX12_addsPowers_41 : decode cX12_addsPowers 41 = .ok (.lrem, 1) := by decide +kernel
theorem dX12_addsPowers_42 : decode cX12_addsPowers 42 = .ok (.aload_n 0, 1) := by decide +kernel
theorem dX12_addsPowers_43 : decode cX12_addsPowers 43 = .ok (.iload 4, 2) := by decide +kernel
theorem dX12_addsPowers_45 : decode cX12_addsPowers 45 = .ok (.iload 5, 2) := by decide +kernel
theorem dX12_addsPowers_47 : decode cX12_addsPowers 47 = .ok (.iload 7, 2) := by decide +kernel
theorem dX12_addsPowers_49 : decode cX12_addsPowers 49 = .ok (.isub, 1) := by decide +kernel
theorem dX12_addsPowers_50 : decode cX12_addsPowers 50 = .ok (.invokevirtual 180, 3) := by decide +kernel
theorem dX12_addsPowers_53 : decode cX12_addsPowers 53 = .ok (.i2l, 1) := by decide +kernel
theorem dX12_addsPowers_54 : decode cX12_addsPowers 54 = .ok (.lmul, 1) := by decide +kernel
theorem dX12_addsPowers_55 : decode cX12_addsPowers 55 = .ok (.aload_n 0, 1) := by decide +kernel
theorem dX12_addsPowers_56 : decode cX12_addsPowers 56 = .ok (.getfield 41, 3) := by decide +kernel
theorem dX12_addsPowers_59 : decode cX12_addsPowers 59 = .ok (.i2l, 1) := by decide +kernel
theorem dX12_addsPowers_60 : decode cX12_addsPowers 60 = .ok (.lrem, 1) := by decide +kernel
theorem dX12_addsPowers_61 : decode cX12_addsPowers 61 = .ok (.ladd, 1) := by decide +kernel
theorem dX12_addsPowers_62 : decode cX12_addsPowers 62 = .ok (.invokevirtual 188, 3) := by decide +kernel
theorem dX12_addsPowers_65 : decode cX12_addsPowers 65 = .ok (.iinc 7 1, 3) := by decide +kernel
theorem dX12_addsPowers_68 : decode cX12_addsPowers 68 = .ok (.goto (-65), 3) := by decide +kernel
theorem dX12_addsPowers_71 : decode cX12_addsPowers 71 = .ok (.return_, 1) := by decide +kernel
theorem dX12_laysLocal_0 : decode cX12_laysLocal 0 = .ok (.aload_n 0, 1) := by decide +kernel
theorem dX12_laysLocal_1 : decode cX12_laysLocal 1 = .ok (.iload_n 2, 1) := by decide +kernel
theorem dX12_laysLocal_2 : decode cX12_laysLocal 2 = .ok (.invokevirtual 254, 3) := by decide +kernel
theorem dX12_laysLocal_5 : decode cX12_laysLocal 5 = .ok (.istore 4, 2) := by decide +kernel
theorem dX12_laysLocal_7 : decode cX12_laysLocal 7 = .ok (.aload_n 0, 1) := by decide +kernel
theorem dX12_laysLocal_8 : decode cX12_laysLocal 8 = .ok (.iload_n 1, 1) := by decide +kernel
theorem dX12_laysLocal_9 : decode cX12_laysLocal 9 = .ok (.invokevirtual 192, 3) := by decide +kernel
theorem dX12_laysLocal_12 : decode cX12_laysLocal 12 = .ok (.iconst 0, 1) := by decide +kernel
theorem dX12_laysLocal_13 : decode cX12_laysLocal 13 = .ok (.istore 5, 2) := by decide +kernel
theorem dX12_laysLocal_15 : decode cX12_laysLocal 15 = .ok (.iload 5, 2) := by decide +kernel
theorem dX12_laysLocal_17 : decode cX12_laysLocal 17 = .ok (.iload 4, 2) := by decide +kernel
theorem dX12_laysLocal_19 : decode cX12_laysLocal 19 = .ok (.if_icmp .gt 184, 3) := by decide +kernel
theorem dX12_laysLocal_22 : decode cX12_laysLocal 22 = .ok (.iconst 0, 1) := by decide +kernel
theorem dX12_laysLocal_23 : decode cX12_laysLocal 23 = .ok (.istore 6, 2) := by decide +kernel
theorem dX12_laysLocal_25 : decode cX12_laysLocal 25 = .ok (.iload 5, 2) := by decide +kernel
theorem dX12_laysLocal_27 : decode cX12_laysLocal 27 = .ok (.iload 6, 2) := by decide +kernel
theorem dX12_laysLocal_29 : decode cX12_laysLocal 29 = .ok (.iadd, 1) := by decide +kernel
theorem dX12_laysLocal_30 : decode cX12_laysLocal 30 = .ok (.iload 4, 2) := by decide +kernel
theorem dX12_laysLocal_32 : decode cX12_laysLocal 32 = .ok (.if_icmp .gt 165, 3) := by decide +kernel
theorem dX12_laysLocal_35 : decode cX12_laysLocal 35 = .ok (.aload_n 0, 1) := by decide +kernel
theorem dX12_laysLocal_36 : decode cX12_laysLocal 36 = .ok (.iload_n 2, 1) := by decide +kernel
theorem dX12_laysLocal_37 : decode cX12_laysLocal 37 = .ok (.iload 5, 2) := by decide +kernel
theorem dX12_laysLocal_39 : decode cX12_laysLocal 39 = .ok (.iload 6, 2) := by decide +kernel
theorem dX12_laysLocal_41 : decode cX12_laysLocal 41 = .ok (.invokevirtual 184, 3) := by decide +kernel
theorem dX12_laysLocal_44 : decode cX12_laysLocal 44 = .ok (.istore 7, 2) := by decide +kernel
theorem dX12_laysLocal_46 : decode cX12_laysLocal 46 = .ok (.iload 7, 2) := by decide +kernel
theorem dX12_laysLocal_48 : decode cX12_laysLocal 48 = .ok (.ifCond .ne 6, 3) := by decide +kernel
theorem dX12_laysLocal_51 : decode cX12_laysLocal 51 = .ok (.goto 140, 3) := by decide +kernel
theorem dX12_laysLocal_54 : decode cX12_laysLocal 54 = .ok (.iload 4, 2) := by decide +kernel
theorem dX12_laysLocal_56 : decode cX12_laysLocal 56 = .ok (.iload 5, 2) := by decide +kernel
theorem dX12_laysLocal_58 : decode cX12_laysLocal 58 = .ok (.isub, 1) := by decide +kernel
theorem dX12_laysLocal_59 : decode cX12_laysLocal 59 = .ok (.iload 6, 2) := by decide +kernel
theorem dX12_laysLocal_61 : decode cX12_laysLocal 61 = .ok (.isub, 1) := by decide +kernel
theorem dX12_laysLocal_62 : decode cX12_laysLocal 62 = .ok (.istore 8, 2) := by decide +kernel
theorem dX12_laysLocal_64 : decode cX12_laysLocal 64 = .ok (.aload_n 0, 1) := by decide +kernel
theorem dX12_laysLocal_65 : decode cX12_laysLocal 65 = .ok (.iload_n 3, 1) := by decide +kernel
theorem dX12_laysLocal_66 : decode cX12_laysLocal 66 = .ok (.invokevirtual 277, 3) := by decide +kernel
theorem dX12_laysLocal_69 : decode cX12_laysLocal 69 = .ok (.ifCond .eq 70, 3) := by decide +kernel
theorem dX12_laysLocal_72 : decode cX12_laysLocal 72 = .ok (.iconst 0, 1) := by decide +kernel
theorem dX12_laysLocal_73 : decode cX12_laysLocal 73 = .ok (.istore 9, 2) := by decide +kernel
theorem dX12_laysLocal_75 : decode cX12_laysLocal 75 = .ok (.iload 9, 2) := by decide +kernel
theorem dX12_laysLocal_77 : decode cX12_laysLocal 77 = .ok (.iload 6, 2) := by decide +kernel
theorem dX12_laysLocal_79 : decode cX12_laysLocal 79 = .ok (.if_icmp .gt 57, 3) := by decide +kernel
theorem dX12_laysLocal_82 : decode cX12_laysLocal 82 = .ok (.aload_n 0, 1) := by decide +kernel
theorem dX12_laysLocal_83 : decode cX12_laysLocal 83 = .ok (.iload_n 1, 1) := by decide +kernel
theorem dX12_laysLocal_84 : decode cX12_laysLocal 84 = .ok (.iload 7, 2) := by decide +kernel
theorem dX12_laysLocal_86 : decode cX12_laysLocal 86 = .ok (.i2l, 1) := by decide +kernel
theorem dX12_laysLocal_87 : decode cX12_laysLocal 87 = .ok (.iload 6, 2) := by decide +kernel
theorem dX12_laysLocal_89 : decode cX12_laysLocal 89 = .ok (.iload 9, 2) := by decide +kernel
theorem dX12_laysLocal_91 : decode cX12_laysLocal 91 = .ok (.invokestatic 302, 3) := by decide +kernel
theorem dX12_laysLocal_94 : decode cX12_laysLocal 94 = .ok (.i2l, 1) := by decide +kernel
theorem dX12_laysLocal_95 : decode cX12_laysLocal 95 = .ok (.lmul, 1) := by decide +kernel
theorem dX12_laysLocal_96 : decode cX12_laysLocal 96 = .ok (.aload_n 0, 1) := by decide +kernel
theorem dX12_laysLocal_97 : decode cX12_laysLocal 97 = .ok (.getfield 41, 3) := by decide +kernel
theorem dX12_laysLocal_100 : decode cX12_laysLocal 100 = .ok (.i2l, 1) := by decide +kernel
theorem dX12_laysLocal_101 : decode cX12_laysLocal 101 = .ok (.lrem, 1) := by decide +kernel
theorem dX12_laysLocal_102 : decode cX12_laysLocal 102 = .ok (.aload_n 0, 1) := by decide +kernel
theorem dX12_laysLocal_103 : decode cX12_laysLocal 103 = .ok (.aload_n 0, 1) := by decide +kernel
theorem dX12_laysLocal_104 : decode cX12_laysLocal 104 = .ok (.iload_n 3, 1) := by decide +kernel
theorem dX12_laysLocal_105 : decode cX12_laysLocal 105 = .ok (.invokevirtual 283, 3) := by decide +kernel
theorem dX12_laysLocal_108 : decode cX12_laysLocal 108 = .ok (.iload 6, 2) := by decide +kernel
theorem dX12_laysLocal_110 : decode cX12_laysLocal 110 = .ok (.iload 9, 2) := by decide +kernel
theorem dX12_laysLocal_112 : decode cX12_laysLocal 112 = .ok (.isub, 1) := by decide +kernel
theorem dX12_laysLocal_113 : decode cX12_laysLocal 113 = .ok (.invokevirtual 180, 3) := by decide +kernel
theorem dX12_laysLocal_116 : decode cX12_laysLocal 116 = .ok (.i2l, 1) := by decide +kernel
theorem dX12_laysLocal_117 : decode cX12_laysLocal 117 = .ok (.lmul, 1) := by decide +kernel
theorem dX12_laysLocal_118 : decode cX12_laysLocal 118 = .ok (.aload_n 0, 1) := by decide +kernel
theorem dX12_laysLocal_119 : decode cX12_laysLocal 119 = .ok (.iload_n 3, 1) := by decide +kernel
theorem dX12_laysLocal_120 : decode cX12_laysLocal 120 = .ok (.invokevirtual 280, 3) := by decide +kernel
theorem dX12_laysLocal_123 : decode cX12_laysLocal 123 = .ok (.iload 5, 2) := by decide +kernel
theorem dX12_laysLocal_125 : decode cX12_laysLocal 125 = .ok (.iload 9, 2) := by decide +kernel
theorem dX12_laysLocal_127 : decode cX12_laysLocal 127 = .ok (.invokevirtual 305, 3) := by decide +kernel
theorem dX12_laysLocal_130 : decode cX12_laysLocal 130 = .ok (.iinc 9 1, 3) := by decide +kernel
theorem dX12_laysLocal_133 : decode cX12_laysLocal 133 = .ok (.goto (-58), 3) := by decide +kernel
theorem dX12_laysLocal_136 : decode cX12_laysLocal 136 = .ok (.goto 55, 3) := by decide +kernel
theorem dX12_laysLocal_139 : decode cX12_laysLocal 139 = .ok (.iload_n 3, 1) := by decide +kernel
theorem dX12_laysLocal_140 : decode cX12_laysLocal 140 = .ok (.aload_n 0, 1) := by decide +kernel
theorem dX12_laysLocal_141 : decode cX12_laysLocal 141 = .ok (.invokevirtual 274, 3) := by decide +kernel
theorem dX12_laysLocal_144 : decode cX12_laysLocal 144 = .ok (.iconst 1, 1) := by decide +kernel
theorem dX12_laysLocal_145 : decode cX12_laysLocal 145 = .ok (.isub, 1) := by decide +kernel
theorem dX12_laysLocal_146 : decode cX12_laysLocal 146 = .ok (.if_icmp .ge 23, 3) := by decide +kernel
theorem dX12_laysLocal_149 : decode cX12_laysLocal 149 = .ok (.aload_n 0, 1) := by decide +kernel
theorem dX12_laysLocal_150 : decode cX12_laysLocal 150 = .ok (.iload_n 1, 1) := by decide +kernel
theorem dX12_laysLocal_151 : decode cX12_laysLocal 151 = .ok (.iload 7, 2) := by decide +kernel
theorem dX12_laysLocal_153 : decode cX12_laysLocal 153 = .ok (.i2l, 1) := by decide +kernel
theorem dX12_laysLocal_154 : decode cX12_laysLocal 154 = .ok (.aload_n 0, 1) := by decide +kernel
theorem dX12_laysLocal_155 : decode cX12_laysLocal 155 = .ok (.iload_n 3, 1) := by decide +kernel
theorem dX12_laysLocal_156 : decode cX12_laysLocal 156 = .ok (.invokevirtual 283, 3) := by decide +kernel
theorem dX12_laysLocal_159 : decode cX12_laysLocal 159 = .ok (.iload 6, 2) := by decide +kernel
theorem dX12_laysLocal_161 : decode cX12_laysLocal 161 = .ok (.iload 8, 2) := by decide +kernel
theorem dX12_laysLocal_163 : decode cX12_laysLocal 163 = .ok (.invokevirtual 305, 3) := by decide +kernel
theorem dX12_laysLocal_166 : decode cX12_laysLocal 166 = .ok (.goto 25, 3) := by decide +kernel
theorem dX12_laysLocal_169 : decode cX12_laysLocal 169 = .ok (.aload_n 0, 1) := by decide +kernel
theorem dX12_laysLocal_170 : decode cX12_laysLocal 170 = .ok (.iload_n 1, 1) := by decide +kernel
theorem dX12_laysLocal_171 : decode cX12_laysLocal 171 = .ok (.iload 5, 2) := by decide +kernel
theorem dX12_laysLocal_173 : decode cX12_laysLocal 173 = .ok (.iload 8, 2) := by decide +kernel
theorem dX12_laysLocal_175 : decode cX12_laysLocal 175 = .ok (.aload_n 0, 1) := by decide +kernel
theorem dX12_laysLocal_176 : decode cX12_laysLocal 176 = .ok (.iload_n 1, 1) := by decide +kernel
theorem dX12_laysLocal_177 : decode cX12_laysLocal 177 = .ok (.iload 5, 2) := by decide +kernel
theorem dX12_laysLocal_179 : decode cX12_laysLocal 179 = .ok (.iload 8, 2) := by decide +kernel
theorem dX12_laysLocal_181 : decode cX12_laysLocal 181 = .ok (.invokevirtual 184, 3) := by decide +kernel
theorem dX12_laysLocal_184 : decode cX12_laysLocal 184 = .ok (.iload 7, 2) := by decide +kernel
theorem dX12_laysLocal_186 : decode cX12_laysLocal 186 = .ok (.iadd, 1) := by decide +kernel
theorem dX12_laysLocal_187 : decode cX12_laysLocal 187 = .ok (.i2l, 1) := by decide +kernel
theorem dX12_laysLocal_188 : decode cX12_laysLocal 188 = .ok (.invokevirtual 188, 3) := by decide +kernel
theorem dX12_laysLocal_191 : decode cX12_laysLocal 191 = .ok (.iinc 6 1, 3) := by decide +kernel
theorem dX12_laysLocal_194 : decode cX12_laysLocal 194 = .ok (.goto (-169), 3) := by decide +kernel
theorem dX12_laysLocal_197 : decode cX12_laysLocal 197 = .ok (.iinc 5 1, 3) := by decide +kernel
theorem dX12_laysLocal_200 : decode cX12_laysLocal 200 = .ok (.goto (-185), 3) := by decide +kernel
theorem dX12_laysLocal_203 : decode cX12_laysLocal 203 = .ok (.return_, 1) := by decide +kernel
theorem dX12_orderOf_0 : decode cX12_orderOf 0 = .ok (.iconst 5, 1) := by decide +kernel
theorem dX12_orderOf_1 : decode cX12_orderOf 1 = .ok (.istore_n 2, 1) := by decide +kernel
theorem dX12_orderOf_2 : decode cX12_orderOf 2 = .ok (.iconst 0, 1) := by decide +kernel
theorem dX12_orderOf_3 : decode cX12_orderOf 3 = .ok (.istore_n 3, 1) := by decide +kernel
theorem dX12_orderOf_4 : decode cX12_orderOf 4 = .ok (.iload_n 3, 1) := by decide +kernel
theorem dX12_orderOf_5 : decode cX12_orderOf 5 = .ok (.iconst 4, 1) := by decide +kernel
theorem dX12_orderOf_6 : decode cX12_orderOf 6 = .ok (.if_icmp .gt 54, 3) := by decide +kernel
theorem dX12_orderOf_9 : decode cX12_orderOf 9 = .ok (.iconst 0, 1) := by decide +kernel
theorem dX12_orderOf_10 : decode cX12_orderOf 10 = .ok (.istore 4, 2) := by decide +kernel
theorem dX12_orderOf_12 : decode cX12_orderOf 12 = .ok (.iload_n 3, 1) := by decide +kernel
theorem dX12_orderOf_13 : decode cX12_orderOf 13 = .ok (.iload 4, 2) := by decide +kernel
theorem dX12_orderOf_15 : decode cX12_orderOf 15 = .ok (.iadd, 1) := by decide +kernel
theorem dX12_orderOf_16 : decode cX12_orderOf 16 = .ok (.iconst 4, 1) := by decide +kernel
theorem dX12_orderOf_17 : decode cX12_orderOf 17 = .ok (.if_icmp .gt 37, 3) := by decide +kernel
theorem dX12_orderOf_20 : decode cX12_orderOf 20 = .ok (.aload_n 0, 1) := by decide +kernel
theorem dX12_orderOf_21 : decode cX12_orderOf 21 = .ok (.iload_n 1, 1) := by decide +kernel
theorem dX12_orderOf_22 : decode cX12_orderOf 22 = .ok (.iload_n 3, 1) := by decide +kernel
theorem dX12_orderOf_23 : decode cX12_orderOf 23 = .ok (.iload 4, 2) := by decide +kernel
theorem dX12_orderOf_25 : decode cX12_orderOf 25 = .ok (.invokevirtual 184, 3) := by decide +kernel
theorem dX12_orderOf_28 : decode cX12_orderOf 28 = .ok (.ifCond .eq 18, 3) := by decide +kernel
theorem dX12_orderOf_31 : decode cX12_orderOf 31 = .ok (.iload_n 3, 1) := by decide +kernel
theorem dX12_orderOf_32 : decode cX12_orderOf 32 = .ok (.iload 4, 2) := by decide +kernel
theorem dX12_orderOf_34 : decode cX12_orderOf 34 = .ok (.iadd, 1) := by decide +kernel
theorem dX12_orderOf_35 : decode cX12_orderOf 35 = .ok (.iload_n 2, 1) := by decide +kernel
theorem dX12_orderOf_36 : decode cX12_orderOf 36 = .ok (.if_icmp .ge 10, 3) := by decide +kernel
theorem dX12_orderOf_39 : decode cX12_orderOf 39 = .ok (.iload_n 3, 1) := by decide +kernel
theorem dX12_orderOf_40 : decode cX12_orderOf 40 = .ok (.iload 4, 2) := by decide +kernel
theorem dX12_orderOf_42 : decode cX12_orderOf 42 = .ok (.iadd, 1) := by decide +kernel
theorem dX12_orderOf_43 : decode cX12_orderOf 43 = .ok (.goto 4, 3) := by decide +kernel
theorem dX12_orderOf_46 : decode cX12_orderOf 46 = .ok (.iload_n 2, 1) := by decide +kernel
theorem dX12_orderOf_47 : decode cX12_orderOf 47 = .ok (.istore_n 2, 1) := by decide +kernel
theorem dX12_orderOf_48 : decode cX12_orderOf 48 = .ok (.iinc 4 1, 3) := by decide +kernel
theorem dX12_orderOf_51 : decode cX12_orderOf 51 = .ok (.goto (-39), 3) := by decide +kernel
theorem dX12_orderOf_54 : decode cX12_orderOf 54 = .ok (.iinc 3 1, 3) := by decide +kernel
theorem dX12_orderOf_57 : decode cX12_orderOf 57 = .ok (.goto (-53), 3) := by decide +kernel
theorem dX12_orderOf_60 : decode cX12_orderOf 60 = .ok (.iload_n 2, 1) := by decide +kernel
theorem dX12_orderOf_61 : decode cX12_orderOf 61 = .ok (.ireturn, 1) := by decide +kernel
theorem dX12_orderAt_0 : decode cX12_orderAt 0 = .ok (.aload_n 0, 1) := by decide +kernel
theorem dX12_orderAt_1 : decode cX12_orderAt 1 = .ok (.sipush 141, 3) := by decide +kernel
theorem dX12_orderAt_4 : decode cX12_orderAt 4 = .ok (.iload_n 1, 1) := by decide +kernel
theorem dX12_orderAt_5 : decode cX12_orderAt 5 = .ok (.iload_n 2, 1) := by decide +kernel
theorem dX12_orderAt_6 : decode cX12_orderAt 6 = .ok (.invokevirtual 309, 3) := by decide +kernel
theorem dX12_orderAt_9 : decode cX12_orderAt 9 = .ok (.aload_n 0, 1) := by decide +kernel
theorem dX12_orderAt_10 : decode cX12_orderAt 10 = .ok (.sipush 141, 3) := by decide +kernel
theorem dX12_orderAt_13 : decode cX12_orderAt 13 = .ok (.invokevirtual 313, 3) := by decide +kernel
theorem dX12_orderAt_16 : decode cX12_orderAt 16 = .ok (.ireturn, 1) := by decide +kernel
theorem dX12_order_0 : decode cX12_order 0 = .ok (.aload_n 0, 1) := by decide +kernel
theorem dX12_order_1 : decode cX12_order 1 = .ok (.iload_n 1, 1) := by decide +kernel
theorem dX12_order_2 : decode cX12_order 2 = .ok (.invokevirtual 286, 3) := by decide +kernel
theorem dX12_order_5 : decode cX12_order 5 = .ok (.ifCond .eq 20, 3) := by decide +kernel
theorem dX12_order_8 : decode cX12_order 8 = .ok (.aload_n 0, 1) := by decide +kernel
theorem dX12_order_9 : decode cX12_order 9 = .ok (.iload_n 2, 1) := by decide +kernel
theorem dX12_order_10 : decode cX12_order 10 = .ok (.invokevirtual 296, 3) := by decide +kernel
theorem dX12_order_13 : decode cX12_order 13 = .ok (.ifCond .eq 12, 3) := by decide +kernel
theorem dX12_order_16 : decode cX12_order 16 = .ok (.aload_n 0, 1) := by decide +kernel
theorem dX12_order_17 : decode cX12_order 17 = .ok (.iload_n 1, 1) := by decide +kernel
theorem dX12_order_18 : decode cX12_order 18 = .ok (.iload_n 2, 1) := by decide +kernel
theorem dX12_order_19 : decode cX12_order 19 = .ok (.invokevirtual 316, 3) := by decide +kernel
theorem dX12_order_22 : decode cX12_order 22 = .ok (.goto 4, 3) := by decide +kernel
theorem dX12_order_25 : decode cX12_order 25 = .ok (.iconst (-1), 1) := by decide +kernel
theorem dX12_order_26 : decode cX12_order 26 = .ok (.ireturn, 1) := by decide +kernel
theorem dX12_local_0 : decode cX12_local 0 = .ok (.aload_n 0, 1) := by decide +kernel
theorem dX12_local_1 : decode cX12_local 1 = .ok (.iload_n 1, 1) := by decide +kernel
theorem dX12_local_2 : decode cX12_local 2 = .ok (.invokevirtual 286, 3) := by decide +kernel
theorem dX12_local_5 : decode cX12_local 5 = .ok (.ifCond .eq 20, 3) := by decide +kernel
theorem dX12_local_8 : decode cX12_local 8 = .ok (.aload_n 0, 1) := by decide +kernel
theorem dX12_local_9 : decode cX12_local 9 = .ok (.iload_n 2, 1) := by decide +kernel
theorem dX12_local_10 : decode cX12_local 10 = .ok (.invokevirtual 296, 3) := by decide +kernel
theorem dX12_local_13 : decode cX12_local 13 = .ok (.ifCond .eq 12, 3) := by decide +kernel
theorem dX12_local_16 : decode cX12_local 16 = .ok (.iload_n 3, 1) := by decide +kernel
theorem dX12_local_17 : decode cX12_local 17 = .ok (.iload 4, 2) := by decide +kernel
theorem dX12_local_19 : decode cX12_local 19 = .ok (.invokestatic 289, 3) := by decide +kernel
theorem dX12_local_22 : decode cX12_local 22 = .ok (.ifCond .ne 5, 3) := by decide +kernel
theorem dX12_local_25 : decode cX12_local 25 = .ok (.iconst (-1), 1) := by decide +kernel
theorem dX12_local_26 : decode cX12_local 26 = .ok (.ireturn, 1) := by decide +kernel
theorem dX12_local_27 : decode cX12_local 27 = .ok (.aload_n 0, 1) := by decide +kernel
theorem dX12_local_28 : decode cX12_local 28 = .ok (.sipush 141, 3) := by decide +kernel
theorem dX12_local_31 : decode cX12_local 31 = .ok (.iload_n 1, 1) := by decide +kernel
theorem dX12_local_32 : decode cX12_local 32 = .ok (.iload_n 2, 1) := by decide +kernel
theorem dX12_local_33 : decode cX12_local 33 = .ok (.invokevirtual 309, 3) := by decide +kernel
theorem dX12_local_36 : decode cX12_local 36 = .ok (.aload_n 0, 1) := by decide +kernel
theorem dX12_local_37 : decode cX12_local 37 = .ok (.sipush 141, 3) := by decide +kernel
theorem dX12_local_40 : decode cX12_local 40 = .ok (.iload_n 3, 1) := by decide +kernel
theorem dX12_local_41 : decode cX12_local 41 = .ok (.iload 4, 2) := by decide +kernel
theorem dX12_local_43 : decode cX12_local 43 = .ok (.invokevirtual 184, 3) := by decide +kernel
theorem dX12_local_46 : decode cX12_local 46 = .ok (.ireturn, 1) := by decide +kernel
theorem dX12_singular_0 : decode cX12_singular 0 = .ok (.aload_n 0, 1) := by decide +kernel
theorem dX12_singular_1 : decode cX12_singular 1 = .ok (.iload_n 1, 1) := by decide +kernel
theorem dX12_singular_2 : decode cX12_singular 2 = .ok (.invokevirtual 286, 3) := by decide +kernel
theorem dX12_singular_5 : decode cX12_singular 5 = .ok (.ifCond .eq 8, 3) := by decide +kernel
theorem dX12_singular_8 : decode cX12_singular 8 = .ok (.iload_n 2, 1) := by decide +kernel
theorem dX12_singular_9 : decode cX12_singular 9 = .ok (.iconst (-1), 1) := by decide +kernel
theorem dX12_singular_10 : decode cX12_singular 10 = .ok (.if_icmp .ge 5, 3) := by decide +kernel
theorem dX12_singular_13 : decode cX12_singular 13 = .ok (.iconst (-1), 1) := by decide +kernel
theorem dX12_singular_14 : decode cX12_singular 14 = .ok (.ireturn, 1) := by decide +kernel
theorem dX12_singular_15 : decode cX12_singular 15 = .ok (.iconst 0, 1) := by decide +kernel
theorem dX12_singular_16 : decode cX12_singular 16 = .ok (.istore_n 3, 1) := by decide +kernel
theorem dX12_singular_17 : decode cX12_singular 17 = .ok (.iconst 0, 1) := by decide +kernel
theorem dX12_singular_18 : decode cX12_singular 18 = .ok (.istore 4, 2) := by decide +kernel
theorem dX12_singular_20 : decode cX12_singular 20 = .ok (.iload 4, 2) := by decide +kernel
theorem dX12_singular_22 : decode cX12_singular 22 = .ok (.aload_n 0, 1) := by decide +kernel
theorem dX12_singular_23 : decode cX12_singular 23 = .ok (.invokevirtual 274, 3) := by decide +kernel
theorem dX12_singular_26 : decode cX12_singular 26 = .ok (.if_icmp .ge 34, 3) := by decide +kernel
theorem dX12_singular_29 : decode cX12_singular 29 = .ok (.aload_n 0, 1) := by decide +kernel
theorem dX12_singular_30 : decode cX12_singular 30 = .ok (.iload_n 1, 1) := by decide +kernel
theorem dX12_singular_31 : decode cX12_singular 31 = .ok (.iload 4, 2) := by decide +kernel
theorem dX12_singular_33 : decode cX12_singular 33 = .ok (.invokevirtual 316, 3) := by decide +kernel
theorem dX12_singular_36 : decode cX12_singular 36 = .ok (.iconst 2, 1) := by decide +kernel
theorem dX12_singular_37 : decode cX12_singular 37 = .ok (.if_icmp .ge 6, 3) := by decide +kernel
theorem dX12_singular_40 : decode cX12_singular 40 = .ok (.goto 14, 3) := by decide +kernel
theorem dX12_singular_43 : decode cX12_singular 43 = .ok (.iload_n 3, 1) := by decide +kernel
theorem dX12_singular_44 : decode cX12_singular 44 = .ok (.iload_n 2, 1) := by decide +kernel
theorem dX12_singular_45 : decode cX12_singular 45 = .ok (.if_icmp .ne 6, 3) := by decide +kernel
theorem dX12_singular_48 : decode cX12_singular 48 = .ok (.iload 4, 2) := by decide +kernel
theorem dX12_singular_50 : decode cX12_singular 50 = .ok (.ireturn, 1) := by decide +kernel
theorem dX12_singular_51 : decode cX12_singular 51 = .ok (.iinc 3 1, 3) := by decide +kernel
theorem dX12_singular_54 : decode cX12_singular 54 = .ok (.iinc 4 1, 3) := by decide +kernel
theorem dX12_singular_57 : decode cX12_singular 57 = .ok (.goto (-37), 3) := by decide +kernel
theorem dX12_singular_60 : decode cX12_singular 60 = .ok (.iload_n 2, 1) := by decide +kernel
theorem dX12_singular_61 : decode cX12_singular 61 = .ok (.iconst (-1), 1) := by decide +kernel
theorem dX12_singular_62 : decode cX12_singular 62 = .ok (.if_icmp .ne 7, 3) := by decide +kernel
theorem dX12_singular_65 : decode cX12_singular 65 = .ok (.iload_n 3, 1) := by decide +kernel
theorem dX12_singular_66 : decode cX12_singular 66 = .ok (.goto 4, 3) := by decide +kernel
theorem dX12_singular_69 : decode cX12_singular 69 = .ok (.iconst (-1), 1) := by decide +kernel
theorem dX12_singular_70 : decode cX12_singular 70 = .ok (.ireturn, 1) := by decide +kernel
theorem dX12_oftenTangent_0 : decode cX12_oftenTangent 0 = .ok (.iload_n 1, 1) := by decide +kernel
theorem dX12_oftenTangent_1 : decode cX12_oftenTangent 1 = .ok (.istore_n 3, 1) := by decide +kernel
theorem dX12_oftenTangent_2 : decode cX12_oftenTangent 2 = .ok (.iconst 0, 1) := by decide +kernel
theorem dX12_oftenTangent_3 : decode cX12_oftenTangent 3 = .ok (.istore 4, 2) := by decide +kernel
theorem dX12_oftenTangent_5 : decode cX12_oftenTangent 5 = .ok (.iload 4, 2) := by decide +kernel
theorem dX12_oftenTangent_7 : decode cX12_oftenTangent 7 = .ok (.iload_n 1, 1) := by decide +kernel
theorem dX12_oftenTangent_8 : decode cX12_oftenTangent 8 = .ok (.if_icmp .gt 29, 3) := by decide +kernel
theorem dX12_oftenTangent_11 : decode cX12_oftenTangent 11 = .ok (.aload_n 0, 1) := by decide +kernel
theorem dX12_oftenTangent_12 : decode cX12_oftenTangent 12 = .ok (.getfield 72, 3) := by decide +kernel
theorem dX12_oftenTangent_15 : decode cX12_oftenTangent 15 = .ok (.iload 4, 2) := by decide +kernel
theorem dX12_oftenTangent_17 : decode cX12_oftenTangent 17 = .ok (.aload_n 0, 1) := by decide +kernel
theorem dX12_oftenTangent_18 : decode cX12_oftenTangent 18 = .ok (.sipush 141, 3) := by decide +kernel
theorem dX12_oftenTangent_21 : decode cX12_oftenTangent 21 = .ok (.iload_n 1, 1) := by decide +kernel
theorem dX12_oftenTangent_22 : decode cX12_oftenTangent 22 = .ok (.iload 4, 2) := by decide +kernel
theorem dX12_oftenTangent_24 : decode cX12_oftenTangent 24 = .ok (.isub, 1) := by decide +kernel
theorem dX12_oftenTangent_25 : decode cX12_oftenTangent 25 = .ok (.iload 4, 2) := by decide +kernel
theorem dX12_oftenTangent_27 : decode cX12_oftenTangent 27 = .ok (.invokevirtual 184, 3) := by decide +kernel
theorem dX12_oftenTangent_30 : decode cX12_oftenTangent 30 = .ok (.iastore, 1) := by decide +kernel
theorem dX12_oftenTangent_31 : decode cX12_oftenTangent 31 = .ok (.iinc 4 1, 3) := by decide +kernel
theorem dX12_oftenTangent_34 : decode cX12_oftenTangent 34 = .ok (.goto (-29), 3) := by decide +kernel
theorem dX12_oftenTangent_37 : decode cX12_oftenTangent 37 = .ok (.iconst 0, 1) := by decide +kernel
theorem dX12_oftenTangent_38 : decode cX12_oftenTangent 38 = .ok (.istore 4, 2) := by decide +kernel
theorem dX12_oftenTangent_40 : decode cX12_oftenTangent 40 = .ok (.iload_n 2, 1) := by decide +kernel
theorem dX12_oftenTangent_41 : decode cX12_oftenTangent 41 = .ok (.aload_n 0, 1) := by decide +kernel
theorem dX12_oftenTangent_42 : decode cX12_oftenTangent 42 = .ok (.getfield 41, 3) := by decide +kernel
theorem dX12_oftenTangent_45 : decode cX12_oftenTangent 45 = .ok (.if_icmp .ne 28, 3) := by decide +kernel
theorem dX12_oftenTangent_48 : decode cX12_oftenTangent 48 = .ok (.iload_n 3, 1) := by decide +kernel
theorem dX12_oftenTangent_49 : decode cX12_oftenTangent 49 = .ok (.ifCond .lt 21, 3) := by decide +kernel
theorem dX12_oftenTangent_52 : decode cX12_oftenTangent 52 = .ok (.aload_n 0, 1) := by decide +kernel
theorem dX12_oftenTangent_53 : decode cX12_oftenTangent 53 = .ok (.getfield 72, 3) := by decide +kernel
theorem dX12_oftenTangent_56 : decode cX12_oftenTangent 56 = .ok (.iload_n 3, 1) := by decide +kernel
theorem dX12_oftenTangent_57 : decode cX12_oftenTangent 57 = .ok (.iaload, 1) := by decide +kernel
theorem dX12_oftenTangent_58 : decode cX12_oftenTangent 58 = .ok (.ifCond .ne 12, 3) := by decide +kernel
theorem dX12_oftenTangent_61 : decode cX12_oftenTangent 61 = .ok (.iinc 3 (-1), 3) := by decide +kernel
theorem dX12_oftenTangent_64 : decode cX12_oftenTangent 64 = .ok (.iinc 4 1, 3) := by decide +kernel
theorem dX12_oftenTangent_67 : decode cX12_oftenTangent 67 = .ok (.goto (-19), 3) := by decide +kernel
theorem dX12_oftenTangent_70 : decode cX12_oftenTangent 70 = .ok (.iload 4, 2) := by decide +kernel
theorem dX12_oftenTangent_72 : decode cX12_oftenTangent 72 = .ok (.ireturn, 1) := by decide +kernel
theorem dX12_oftenTangent_73 : decode cX12_oftenTangent 73 = .ok (.iload_n 3, 1) := by decide +kernel
theorem dX12_oftenTangent_74 : decode cX12_oftenTangent 74 = .ok (.ifCond .le 27, 3) := by decide +kernel
theorem dX12_oftenTangent_77 : decode cX12_oftenTangent 77 = .ok (.aload_n 0, 1) := by decide +kernel
theorem dX12_oftenTangent_78 : decode cX12_oftenTangent 78 = .ok (.iload_n 3, 1) := by decide +kernel
theorem dX12_oftenTangent_79 : decode cX12_oftenTangent 79 = .ok (.iload_n 2, 1) := by decide +kernel
theorem dX12_oftenTangent_80 : decode cX12_oftenTangent 80 = .ok (.invokevirtual 319, 3) := by decide +kernel
theorem dX12_oftenTangent_83 : decode cX12_oftenTangent 83 = .ok (.ifCond .ne 18, 3) := by decide +kernel
theorem dX12_oftenTangent_86 : decode cX12_oftenTangent 86 = .ok (.aload_n 0, 1) := by decide +kernel
theorem dX12_oftenTangent_87 : decode cX12_oftenTangent 87 = .ok (.iload_n 3, 1) := by decide +kernel
theorem dX12_oftenTangent_88 : decode cX12_oftenTangent 88 = .ok (.iload_n 2, 1) := by decide +kernel
theorem dX12_oftenTangent_89 : decode cX12_oftenTangent 89 = .ok (.invokevirtual 322, 3) := by decide +kernel
theorem dX12_oftenTangent_92 : decode cX12_oftenTangent 92 = .ok (.iinc 3 (-1), 3) := by decide +kernel
theorem dX12_oftenTangent_95 : decode cX12_oftenTangent 95 = .ok (.iinc 4 1, 3) := by decide +kernel
theorem dX12_oftenTangent_98 : decode cX12_oftenTangent 98 = .ok (.goto (-25), 3) := by decide +kernel
theorem dX12_oftenTangent_101 : decode cX12_oftenTangent 101 = .ok (.iload 4, 2) := by decide +kernel
theorem dX12_oftenTangent_103 : decode cX12_oftenTangent 103 = .ok (.ireturn, 1) := by decide +kernel
theorem dX12_atT_0 : decode cX12_atT 0 = .ok (.lconst 0, 1) := by decide +kernel
theorem dX12_atT_1 : decode cX12_atT 1 = .ok (.lstore_n 3, 1) := by decide +kernel
theorem dX12_atT_2 : decode cX12_atT 2 = .ok (.iload_n 1, 1) := by decide +kernel
theorem dX12_atT_3 : decode cX12_atT 3 = .ok (.istore 5, 2) := by decide +kernel
theorem dX12_atT_5 : decode cX12_atT 5 = .ok (.iload 5, 2) := by decide +kernel
theorem dX12_atT_7 : decode cX12_atT 7 = .ok (.ifCond .lt 29, 3) := by decide +kernel
theorem dX12_atT_10 : decode cX12_atT 10 = .ok (.lload_n 3, 1) := by decide +kernel
theorem dX12_atT_11 : decode cX12_atT 11 = .ok (.iload_n 2, 1) := by decide +kernel
theorem dX12_atT_12 : decode cX12_atT 12 = .ok (.i2l, 1) := by decide +kernel
theorem dX12_atT_13 : decode cX12_atT 13 = .ok (.lmul, 1) := by decide +kernel
theorem dX12_atT_14 : decode cX12_atT 14 = .ok (.aload_n 0, 1) := by decide +kernel
theorem dX12_atT_15 : decode cX12_atT 15 = .ok (.getfield 72, 3) := by decide +kernel
theorem dX12_atT_18 : decode cX12_atT 18 = .ok (.iload 5, 2) := by decide +kernel
theorem dX12_atT_20 : decode cX12_atT 20 = .ok (.iaload, 1) := by decide +kernel
theorem dX12_atT_21 : decode cX12_atT 21 = .ok (.i2l, 1) := by decide +kernel
theorem dX12_atT_22 : decode cX12_atT 22 = .ok (.ladd, 1) := by decide +kernel
theorem dX12_atT_23 : decode cX12_atT 23 = .ok (.aload_n 0, 1) := by decide +kernel
theorem dX12_atT_24 : decode cX12_atT 24 = .ok (.getfield 41, 3) := by decide +kernel
theorem dX12_atT_27 : decode cX12_atT 27 = .ok (.i2l, 1) := by decide +kernel
theorem dX12_atT_28 : decode cX12_atT 28 = .ok (.lrem, 1) := by decide +kernel
theorem dX12_atT_29 : decode cX12_atT 29 = .ok (.lstore_n 3, 1) := by decide +kernel
theorem dX12_atT_30 : decode cX12_atT 30 = .ok (.iinc 5 (-1), 3) := by decide +kernel
theorem dX12_atT_33 : decode cX12_atT 33 = .ok (.goto (-28), 3) := by decide +kernel
theorem dX12_atT_36 : decode cX12_atT 36 = .ok (.aload_n 0, 1) := by decide +kernel
theorem dX12_atT_37 : decode cX12_atT 37 = .ok (.lload_n 3, 1) := by decide +kernel
theorem dX12_atT_38 : decode cX12_atT 38 = .ok (.invokevirtual 176, 3) := by decide +kernel
theorem dX12_atT_41 : decode cX12_atT 41 = .ok (.ireturn, 1) := by decide +kernel
theorem dX12_divides_0 : decode cX12_divides 0 = .ok (.lconst 0, 1) := by decide +kernel
theorem dX12_divides_1 : decode cX12_divides 1 = .ok (.lstore_n 3, 1) := by decide +kernel
theorem dX12_divides_2 : decode cX12_divides 2 = .ok (.iload_n 1, 1) := by decide +kernel
theorem dX12_divides_3 : decode cX12_divides 3 = .ok (.istore 5, 2) := by decide +kernel
theorem dX12_divides_5 : decode cX12_divides 5 = .ok (.iload 5, 2) := by decide +kernel
theorem dX12_divides_7 : decode cX12_divides 7 = .ok (.iconst 1, 1) := by decide +kernel
theorem dX12_divides_8 : decode cX12_divides 8 = .ok (.if_icmp .lt 46, 3) := by decide +kernel
theorem dX12_divides_11 : decode cX12_divides 11 = .ok (.aload_n 0, 1) := by decide +kernel
theorem dX12_divides_12 : decode cX12_divides 12 = .ok (.getfield 72, 3) := by decide +kernel
theorem dX12_divides_15 : decode cX12_divides 15 = .ok (.iload 5, 2) := by decide +kernel
theorem dX12_divides_17 : decode cX12_divides 17 = .ok (.iaload, 1) := by decide +kernel
theorem dX12_divides_18 : decode cX12_divides 18 = .ok (.i2l, 1) := by decide +kernel
theorem dX12_divides_19 : decode cX12_divides 19 = .ok (.lload_n 3, 1) := by decide +kernel
theorem dX12_divides_20 : decode cX12_divides 20 = .ok (.iload_n 2, 1) := by decide +kernel
theorem dX12_divides_21 : decode cX12_divides 21 = .ok (.i2l, 1) := by decide +kernel
theorem dX12_divides_22 : decode cX12_divides 22 = .ok (.lmul, 1) := by decide +kernel
theorem dX12_divides_23 : decode cX12_divides 23 = .ok (.ladd, 1) := by decide +kernel
theorem dX12_divides_24 : decode cX12_divides 24 = .ok (.aload_n 0, 1) := by decide +kernel
theorem dX12_divides_25 : decode cX12_divides 25 = .ok (.getfield 41, 3) := by decide +kernel
theorem dX12_divides_28 : decode cX12_divides 28 = .ok (.i2l, 1) := by decide +kernel
theorem dX12_divides_29 : decode cX12_divides 29 = .ok (.lrem, 1) := by decide +kernel
theorem dX12_divides_30 : decode cX12_divides 30 = .ok (.lstore 6, 2) := by decide +kernel
theorem dX12_divides_32 : decode cX12_divides 32 = .ok (.aload_n 0, 1) := by decide +kernel
theorem dX12_divides_33 : decode cX12_divides 33 = .ok (.getfield 72, 3) := by decide +kernel
theorem dX12_divides_36 : decode cX12_divides 36 = .ok (.iload 5, 2) := by decide +kernel
theorem dX12_divides_38 : decode cX12_divides 38 = .ok (.aload_n 0, 1) := by decide +kernel
theorem dX12_divides_39 : decode cX12_divides 39 = .ok (.lload 6, 2) := by decide +kernel
theorem dX12_divides_41 : decode cX12_divides 41 = .ok (.invokevirtual 176, 3) := by decide +kernel
theorem dX12_divides_44 : decode cX12_divides 44 = .ok (.iastore, 1) := by decide +kernel
theorem dX12_divides_45 : decode cX12_divides 45 = .ok (.lload 6, 2) := by decide +kernel
theorem dX12_divides_47 : decode cX12_divides 47 = .ok (.lstore_n 3, 1) := by decide +kernel
theorem dX12_divides_48 : decode cX12_divides 48 = .ok (.iinc 5 (-1), 3) := by decide +kernel
theorem dX12_divides_51 : decode cX12_divides 51 = .ok (.goto (-46), 3) := by decide +kernel
theorem dX12_divides_54 : decode cX12_divides 54 = .ok (.iconst 0, 1) := by decide +kernel
theorem dX12_divides_55 : decode cX12_divides 55 = .ok (.istore 5, 2) := by decide +kernel
theorem dX12_divides_57 : decode cX12_divides 57 = .ok (.iload 5, 2) := by decide +kernel
theorem dX12_divides_59 : decode cX12_divides 59 = .ok (.iload_n 1, 1) := by decide +kernel
theorem dX12_divides_60 : decode cX12_divides 60 = .ok (.if_icmp .ge 25, 3) := by decide +kernel
theorem dX12_divides_63 : decode cX12_divides 63 = .ok (.aload_n 0, 1) := by decide +kernel
theorem dX12_divides_64 : decode cX12_divides 64 = .ok (.getfield 72, 3) := by decide +kernel
theorem dX12_divides_67 : decode cX12_divides 67 = .ok (.iload 5, 2) := by decide +kernel
theorem dX12_divides_69 : decode cX12_divides 69 = .ok (.aload_n 0, 1) := by decide +kernel
theorem dX12_divides_70 : decode cX12_divides 70 = .ok (.getfield 72, 3) := by decide +kernel
theorem dX12_divides_73 : decode cX12_divides 73 = .ok (.iload 5, 2) := by decide +kernel
theorem dX12_divides_75 : decode cX12_divides 75 = .ok (.iconst 1, 1) := by decide +kernel
theorem dX12_divides_76 : decode cX12_divides 76 = .ok (.iadd, 1) := by decide +kernel
theorem dX12_divides_77 : decode cX12_divides 77 = .ok (.iaload, 1) := by decide +kernel
theorem dX12_divides_78 : decode cX12_divides 78 = .ok (.iastore, 1) := by decide +kernel
theorem dX12_divides_79 : decode cX12_divides 79 = .ok (.iinc 5 1, 3) := by decide +kernel
theorem dX12_divides_82 : decode cX12_divides 82 = .ok (.goto (-25), 3) := by decide +kernel
theorem dX12_divides_85 : decode cX12_divides 85 = .ok (.aload_n 0, 1) := by decide +kernel
theorem dX12_divides_86 : decode cX12_divides 86 = .ok (.getfield 72, 3) := by decide +kernel
theorem dX12_divides_89 : decode cX12_divides 89 = .ok (.iload_n 1, 1) := by decide +kernel
theorem dX12_divides_90 : decode cX12_divides 90 = .ok (.iconst 0, 1) := by decide +kernel
theorem dX12_divides_91 : decode cX12_divides 91 = .ok (.iastore, 1) := by decide +kernel
theorem dX12_divides_92 : decode cX12_divides 92 = .ok (.return_, 1) := by decide +kernel
theorem dX12_tangent_0 : decode cX12_tangent 0 = .ok (.aload_n 0, 1) := by decide +kernel
theorem dX12_tangent_1 : decode cX12_tangent 1 = .ok (.iload_n 1, 1) := by decide +kernel
theorem dX12_tangent_2 : decode cX12_tangent 2 = .ok (.invokevirtual 286, 3) := by decide +kernel
theorem dX12_tangent_5 : decode cX12_tangent 5 = .ok (.ifCond .eq 35, 3) := by decide +kernel
theorem dX12_tangent_8 : decode cX12_tangent 8 = .ok (.aload_n 0, 1) := by decide +kernel
theorem dX12_tangent_9 : decode cX12_tangent 9 = .ok (.iload_n 2, 1) := by decide +kernel
theorem dX12_tangent_10 : decode cX12_tangent 10 = .ok (.invokevirtual 296, 3) := by decide +kernel
theorem dX12_tangent_13 : decode cX12_tangent 13 = .ok (.ifCond .eq 27, 3) := by decide +kernel
theorem dX12_tangent_16 : decode cX12_tangent 16 = .ok (.iload_n 3, 1) := by decide +kernel
theorem dX12_tangent_17 : decode cX12_tangent 17 = .ok (.iconst (-1), 1) := by decide +kernel
theorem dX12_tangent_18 : decode cX12_tangent 18 = .ok (.if_icmp .lt 22, 3) := by decide +kernel
theorem dX12_tangent_21 : decode cX12_tangent 21 = .ok (.iload 4, 2) := by decide +kernel
theorem dX12_tangent_23 : decode cX12_tangent 23 = .ok (.iconst 0, 1) := by decide +kernel
theorem dX12_tangent_24 : decode cX12_tangent 24 = .ok (.iconst 1, 1) := by decide +kernel
theorem dX12_tangent_25 : decode cX12_tangent 25 = .ok (.invokestatic 271, 3) := by decide +kernel
theorem dX12_tangent_28 : decode cX12_tangent 28 = .ok (.ifCond .eq 12, 3) := by decide +kernel
theorem dX12_tangent_31 : decode cX12_tangent 31 = .ok (.aload_n 0, 1) := by decide +kernel
theorem dX12_tangent_32 : decode cX12_tangent 32 = .ok (.iload_n 1, 1) := by decide +kernel
theorem dX12_tangent_33 : decode cX12_tangent 33 = .ok (.iload_n 2, 1) := by decide +kernel
theorem dX12_tangent_34 : decode cX12_tangent 34 = .ok (.invokevirtual 299, 3) := by decide +kernel
theorem dX12_tangent_37 : decode cX12_tangent 37 = .ok (.ifCond .eq 5, 3) := by decide +kernel
theorem dX12_tangent_40 : decode cX12_tangent 40 = .ok (.iconst (-1), 1) := by decide +kernel
theorem dX12_tangent_41 : decode cX12_tangent 41 = .ok (.ireturn, 1) := by decide +kernel
theorem dX12_tangent_42 : decode cX12_tangent 42 = .ok (.aload_n 0, 1) := by decide +kernel
theorem dX12_tangent_43 : decode cX12_tangent 43 = .ok (.iload_n 1, 1) := by decide +kernel
theorem dX12_tangent_44 : decode cX12_tangent 44 = .ok (.iload_n 2, 1) := by decide +kernel
theorem dX12_tangent_45 : decode cX12_tangent 45 = .ok (.invokevirtual 316, 3) := by decide +kernel
theorem dX12_tangent_48 : decode cX12_tangent 48 = .ok (.istore 5, 2) := by decide +kernel
theorem dX12_tangent_50 : decode cX12_tangent 50 = .ok (.iconst 0, 1) := by decide +kernel
theorem dX12_tangent_51 : decode cX12_tangent 51 = .ok (.istore 6, 2) := by decide +kernel
theorem dX12_tangent_53 : decode cX12_tangent 53 = .ok (.iconst 0, 1) := by decide +kernel
theorem dX12_tangent_54 : decode cX12_tangent 54 = .ok (.istore 7, 2) := by decide +kernel
theorem dX12_tangent_56 : decode cX12_tangent 56 = .ok (.iconst 0, 1) := by decide +kernel
theorem dX12_tangent_57 : decode cX12_tangent 57 = .ok (.istore 8, 2) := by decide +kernel
theorem dX12_tangent_59 : decode cX12_tangent 59 = .ok (.iload 8, 2) := by decide +kernel
theorem dX12_tangent_61 : decode cX12_tangent 61 = .ok (.aload_n 0, 1) := by decide +kernel
theorem dX12_tangent_62 : decode cX12_tangent 62 = .ok (.getfield 41, 3) := by decide +kernel
theorem dX12_tangent_65 : decode cX12_tangent 65 = .ok (.if_icmp .gt 56, 3) := by decide +kernel
theorem dX12_tangent_68 : decode cX12_tangent 68 = .ok (.aload_n 0, 1) := by decide +kernel
theorem dX12_tangent_69 : decode cX12_tangent 69 = .ok (.iload 5, 2) := by decide +kernel
theorem dX12_tangent_71 : decode cX12_tangent 71 = .ok (.iload 8, 2) := by decide +kernel
theorem dX12_tangent_73 : decode cX12_tangent 73 = .ok (.invokevirtual 325, 3) := by decide +kernel
theorem dX12_tangent_76 : decode cX12_tangent 76 = .ok (.istore 9, 2) := by decide +kernel
theorem dX12_tangent_78 : decode cX12_tangent 78 = .ok (.iload 9, 2) := by decide +kernel
theorem dX12_tangent_80 : decode cX12_tangent 80 = .ok (.ifCond .ne 6, 3) := by decide +kernel
theorem dX12_tangent_83 : decode cX12_tangent 83 = .ok (.goto 32, 3) := by decide +kernel
theorem dX12_tangent_86 : decode cX12_tangent 86 = .ok (.iload 6, 2) := by decide +kernel
theorem dX12_tangent_88 : decode cX12_tangent 88 = .ok (.iload_n 3, 1) := by decide +kernel
theorem dX12_tangent_89 : decode cX12_tangent 89 = .ok (.if_icmp .ne 16, 3) := by decide +kernel
theorem dX12_tangent_92 : decode cX12_tangent 92 = .ok (.iload 4, 2) := by decide +kernel
theorem dX12_tangent_94 : decode cX12_tangent 94 = .ok (.ifCond .ne 8, 3) := by decide +kernel
theorem dX12_tangent_97 : decode cX12_tangent 97 = .ok (.iload 8, 2) := by decide +kernel
theorem dX12_tangent_99 : decode cX12_tangent 99 = .ok (.goto 5, 3) := by decide +kernel
theorem dX12_tangent_102 : decode cX12_tangent 102 = .ok (.iload 9, 2) := by decide +kernel
theorem dX12_tangent_104 : decode cX12_tangent 104 = .ok (.ireturn, 1) := by decide +kernel
theorem dX12_tangent_105 : decode cX12_tangent 105 = .ok (.iinc 6 1, 3) := by decide +kernel
theorem dX12_tangent_108 : decode cX12_tangent 108 = .ok (.iload 7, 2) := by decide +kernel
theorem dX12_tangent_110 : decode cX12_tangent 110 = .ok (.iload 9, 2) := by decide +kernel
theorem dX12_tangent_112 : decode cX12_tangent 112 = .ok (.iadd, 1) := by decide +kernel
theorem dX12_tangent_113 : decode cX12_tangent 113 = .ok (.istore 7, 2) := by decide +kernel
theorem dX12_tangent_115 : decode cX12_tangent 115 = .ok (.iinc 8 1, 3) := by decide +kernel
theorem dX12_tangent_118 : decode cX12_tangent 118 = .ok (.goto (-59), 3) := by decide +kernel
theorem dX12_tangent_121 : decode cX12_tangent 121 = .ok (.iload_n 3, 1) := by decide +kernel
theorem dX12_tangent_122 : decode cX12_tangent 122 = .ok (.iconst (-1), 1) := by decide +kernel
theorem dX12_tangent_123 : decode cX12_tangent 123 = .ok (.if_icmp .eq 7, 3) := by decide +kernel
theorem dX12_tangent_126 : decode cX12_tangent 126 = .ok (.iconst (-1), 1) := by decide +kernel
theorem dX12_tangent_127 : decode cX12_tangent 127 = .ok (.goto 15, 3) := by decide +kernel
theorem dX12_tangent_130 : decode cX12_tangent 130 = .ok (.iload 4, 2) := by decide +kernel
theorem dX12_tangent_132 : decode cX12_tangent 132 = .ok (.ifCond .ne 8, 3) := by decide +kernel
theorem dX12_tangent_135 : decode cX12_tangent 135 = .ok (.iload 6, 2) := by decide +kernel
theorem dX12_tangent_137 : decode cX12_tangent 137 = .ok (.goto 5, 3) := by decide +kernel
theorem dX12_tangent_140 : decode cX12_tangent 140 = .ok (.iload 7, 2) := by decide +kernel
theorem dX12_tangent_142 : decode cX12_tangent 142 = .ok (.ireturn, 1) := by decide +kernel
theorem dX12_bendHere_0 : decode cX12_bendHere 0 = .ok (.aload_n 0, 1) := by decide +kernel
theorem dX12_bendHere_1 : decode cX12_bendHere 1 = .ok (.sipush 141, 3) := by decide +kernel
theorem dX12_bendHere_4 : decode cX12_bendHere 4 = .ok (.iconst 1, 1) := by decide +kernel
theorem dX12_bendHere_5 : decode cX12_bendHere 5 = .ok (.iconst 0, 1) := by decide +kernel
theorem dX12_bendHere_6 : decode cX12_bendHere 6 = .ok (.invokevirtual 184, 3) := by decide +kernel
theorem dX12_bendHere_9 : decode cX12_bendHere 9 = .ok (.istore_n 1, 1) := by decide +kernel
theorem dX12_bendHere_10 : decode cX12_bendHere 10 = .ok (.aload_n 0, 1) := by decide +kernel
theorem dX12_bendHere_11 : decode cX12_bendHere 11 = .ok (.sipush 141, 3) := by decide +kernel
theorem dX12_bendHere_14 : decode cX12_bendHere 14 = .ok (.iconst 0, 1) := by decide +kernel
theorem dX12_bendHere_15 : decode cX12_bendHere 15 = .ok (.iconst 1, 1) := by decide +kernel
theorem dX12_bendHere_16 : decode cX12_bendHere 16 = .ok (.invokevirtual 184, 3) := by decide +kernel
theorem dX12_bendHere_19 : decode cX12_bendHere 19 = .ok (.istore_n 2, 1) := by decide +kernel
theorem dX12_bendHere_20 : decode cX12_bendHere 20 = .ok (.iload_n 2, 1) := by decide +kernel
theorem dX12_bendHere_21 : decode cX12_bendHere 21 = .ok (.ifCond .ne 7, 3) := by decide +kernel
theorem dX12_bendHere_24 : decode cX12_bendHere 24 = .ok (.iconst 0, 1) := by decide +kernel
theorem dX12_bendHere_25 : decode cX12_bendHere 25 = .ok (.goto 4, 3) := by decide +kernel
