theorem dX12_moved_200 : decode cX12_moved 200 = .ok (.iload 13, 2) := by decide +kernel
theorem dX12_moved_202 : decode cX12_moved 202 = .ok (.imul, 1) := by decide +kernel
theorem dX12_moved_203 : decode cX12_moved 203 = .ok (.iload 14, 2) := by decide +kernel
theorem dX12_moved_205 : decode cX12_moved 205 = .ok (.iadd, 1) := by decide +kernel
theorem dX12_moved_206 : decode cX12_moved 206 = .ok (.ireturn, 1) := by decide +kernel
theorem dX12_moved_207 : decode cX12_moved 207 = .ok (.iload 13, 2) := by decide +kernel
theorem dX12_moved_209 : decode cX12_moved 209 = .ok (.ifCond .ne 12, 3) := by decide +kernel
theorem dX12_moved_212 : decode cX12_moved 212 = .ok (.aload_n 0, 1) := by decide +kernel
theorem dX12_moved_213 : decode cX12_moved 213 = .ok (.invokevirtual 274, 3) := by decide +kernel
theorem dX12_moved_216 : decode cX12_moved 216 = .ok (.iconst 1, 1) := by decide +kernel
theorem dX12_moved_217 : decode cX12_moved 217 = .ok (.isub, 1) := by decide +kernel
theorem dX12_moved_218 : decode cX12_moved 218 = .ok (.goto 28, 3) := by decide +kernel
theorem dX12_moved_221 : decode cX12_moved 221 = .ok (.aload_n 0, 1) := by decide +kernel
theorem dX12_moved_222 : decode cX12_moved 222 = .ok (.getfield 41, 3) := by decide +kernel
theorem dX12_moved_225 : decode cX12_moved 225 = .ok (.aload_n 0, 1) := by decide +kernel
theorem dX12_moved_226 : decode cX12_moved 226 = .ok (.getfield 41, 3) := by decide +kernel
theorem dX12_moved_229 : decode cX12_moved 229 = .ok (.imul, 1) := by decide +kernel
theorem dX12_moved_230 : decode cX12_moved 230 = .ok (.aload_n 0, 1) := by decide +kernel
theorem dX12_moved_231 : decode cX12_moved 231 = .ok (.iload 14, 2) := by decide +kernel
theorem dX12_moved_233 : decode cX12_moved 233 = .ok (.i2l, 1) := by decide +kernel
theorem dX12_moved_234 : decode cX12_moved 234 = .ok (.aload_n 0, 1) := by decide +kernel
theorem dX12_moved_235 : decode cX12_moved 235 = .ok (.iload 13, 2) := by decide +kernel
theorem dX12_moved_237 : decode cX12_moved 237 = .ok (.invokevirtual 328, 3) := by decide +kernel
theorem dX12_moved_240 : decode cX12_moved 240 = .ok (.i2l, 1) := by decide +kernel
theorem dX12_moved_241 : decode cX12_moved 241 = .ok (.lmul, 1) := by decide +kernel
theorem dX12_moved_242 : decode cX12_moved 242 = .ok (.invokevirtual 176, 3) := by decide +kernel
theorem dX12_moved_245 : decode cX12_moved 245 = .ok (.iadd, 1) := by decide +kernel
theorem dX12_moved_246 : decode cX12_moved 246 = .ok (.ireturn, 1) := by decide +kernel
theorem dX12_isLine_0 : decode cX12_isLine 0 = .ok (.aload_n 0, 1) := by decide +kernel
theorem dX12_isLine_1 : decode cX12_isLine 1 = .ok (.sipush 144, 3) := by decide +kernel
theorem dX12_isLine_4 : decode cX12_isLine 4 = .ok (.invokevirtual 192, 3) := by decide +kernel
theorem dX12_isLine_7 : decode cX12_isLine 7 = .ok (.aload_n 0, 1) := by decide +kernel
theorem dX12_isLine_8 : decode cX12_isLine 8 = .ok (.sipush 144, 3) := by decide +kernel
theorem dX12_isLine_11 : decode cX12_isLine 11 = .ok (.iconst 1, 1) := by decide +kernel
theorem dX12_isLine_12 : decode cX12_isLine 12 = .ok (.iconst 0, 1) := by decide +kernel
theorem dX12_isLine_13 : decode cX12_isLine 13 = .ok (.iload_n 1, 1) := by decide +kernel
theorem dX12_isLine_14 : decode cX12_isLine 14 = .ok (.i2l, 1) := by decide +kernel
theorem dX12_isLine_15 : decode cX12_isLine 15 = .ok (.invokevirtual 188, 3) := by decide +kernel
theorem dX12_isLine_18 : decode cX12_isLine 18 = .ok (.aload_n 0, 1) := by decide +kernel
theorem dX12_isLine_19 : decode cX12_isLine 19 = .ok (.sipush 144, 3) := by decide +kernel
theorem dX12_isLine_22 : decode cX12_isLine 22 = .ok (.iconst 0, 1) := by decide +kernel
theorem dX12_isLine_23 : decode cX12_isLine 23 = .ok (.iconst 1, 1) := by decide +kernel
theorem dX12_isLine_24 : decode cX12_isLine 24 = .ok (.iload_n 2, 1) := by decide +kernel
theorem dX12_isLine_25 : decode cX12_isLine 25 = .ok (.i2l, 1) := by decide +kernel
theorem dX12_isLine_26 : decode cX12_isLine 26 = .ok (.invokevirtual 188, 3) := by decide +kernel
theorem dX12_isLine_29 : decode cX12_isLine 29 = .ok (.aload_n 0, 1) := by decide +kernel
theorem dX12_isLine_30 : decode cX12_isLine 30 = .ok (.sipush 144, 3) := by decide +kernel
theorem dX12_isLine_33 : decode cX12_isLine 33 = .ok (.iconst 0, 1) := by decide +kernel
theorem dX12_isLine_34 : decode cX12_isLine 34 = .ok (.iconst 0, 1) := by decide +kernel
theorem dX12_isLine_35 : decode cX12_isLine 35 = .ok (.iload_n 3, 1) := by decide +kernel
theorem dX12_isLine_36 : decode cX12_isLine 36 = .ok (.i2l, 1) := by decide +kernel
theorem dX12_isLine_37 : decode cX12_isLine 37 = .ok (.invokevirtual 188, 3) := by decide +kernel
theorem dX12_isLine_40 : decode cX12_isLine 40 = .ok (.aload_n 0, 1) := by decide +kernel
theorem dX12_isLine_41 : decode cX12_isLine 41 = .ok (.sipush 144, 3) := by decide +kernel
theorem dX12_isLine_44 : decode cX12_isLine 44 = .ok (.iconst 1, 1) := by decide +kernel
theorem dX12_isLine_45 : decode cX12_isLine 45 = .ok (.iconst 0, 1) := by decide +kernel
theorem dX12_isLine_46 : decode cX12_isLine 46 = .ok (.invokevirtual 184, 3) := by decide +kernel
theorem dX12_isLine_49 : decode cX12_isLine 49 = .ok (.ifCond .eq 15, 3) := by decide +kernel
theorem dX12_isLine_52 : decode cX12_isLine 52 = .ok (.aload_n 0, 1) := by decide +kernel
theorem dX12_isLine_53 : decode cX12_isLine 53 = .ok (.sipush 144, 3) := by decide +kernel
theorem dX12_isLine_56 : decode cX12_isLine 56 = .ok (.iconst 1, 1) := by decide +kernel
theorem dX12_isLine_57 : decode cX12_isLine 57 = .ok (.iconst 0, 1) := by decide +kernel
theorem dX12_isLine_58 : decode cX12_isLine 58 = .ok (.invokevirtual 184, 3) := by decide +kernel
theorem dX12_isLine_61 : decode cX12_isLine 61 = .ok (.goto 12, 3) := by decide +kernel
theorem dX12_isLine_64 : decode cX12_isLine 64 = .ok (.aload_n 0, 1) := by decide +kernel
theorem dX12_isLine_65 : decode cX12_isLine 65 = .ok (.sipush 144, 3) := by decide +kernel
theorem dX12_isLine_68 : decode cX12_isLine 68 = .ok (.iconst 0, 1) := by decide +kernel
theorem dX12_isLine_69 : decode cX12_isLine 69 = .ok (.iconst 1, 1) := by decide +kernel
theorem dX12_isLine_70 : decode cX12_isLine 70 = .ok (.invokevirtual 184, 3) := by decide +kernel
theorem dX12_isLine_73 : decode cX12_isLine 73 = .ok (.istore 4, 2) := by decide +kernel
theorem dX12_isLine_75 : decode cX12_isLine 75 = .ok (.iload 4, 2) := by decide +kernel
theorem dX12_isLine_77 : decode cX12_isLine 77 = .ok (.ifCond .ne 5, 3) := by decide +kernel
theorem dX12_isLine_80 : decode cX12_isLine 80 = .ok (.iconst 0, 1) := by decide +kernel
theorem dX12_isLine_81 : decode cX12_isLine 81 = .ok (.ireturn, 1) := by decide +kernel
theorem dX12_isLine_82 : decode cX12_isLine 82 = .ok (.aload_n 0, 1) := by decide +kernel
theorem dX12_isLine_83 : decode cX12_isLine 83 = .ok (.iload 4, 2) := by decide +kernel
theorem dX12_isLine_85 : decode cX12_isLine 85 = .ok (.invokevirtual 328, 3) := by decide +kernel
theorem dX12_isLine_88 : decode cX12_isLine 88 = .ok (.istore 5, 2) := by decide +kernel
theorem dX12_isLine_90 : decode cX12_isLine 90 = .ok (.aload_n 0, 1) := by decide +kernel
theorem dX12_isLine_91 : decode cX12_isLine 91 = .ok (.sipush 144, 3) := by decide +kernel
theorem dX12_isLine_94 : decode cX12_isLine 94 = .ok (.iconst 1, 1) := by decide +kernel
theorem dX12_isLine_95 : decode cX12_isLine 95 = .ok (.iconst 0, 1) := by decide +kernel
theorem dX12_isLine_96 : decode cX12_isLine 96 = .ok (.iload_n 1, 1) := by decide +kernel
theorem dX12_isLine_97 : decode cX12_isLine 97 = .ok (.i2l, 1) := by decide +kernel
theorem dX12_isLine_98 : decode cX12_isLine 98 = .ok (.iload 5, 2) := by decide +kernel
theorem dX12_isLine_100 : decode cX12_isLine 100 = .ok (.i2l, 1) := by decide +kernel
theorem dX12_isLine_101 : decode cX12_isLine 101 = .ok (.lmul, 1) := by decide +kernel
theorem dX12_isLine_102 : decode cX12_isLine 102 = .ok (.invokevirtual 188, 3) := by decide +kernel
theorem dX12_isLine_105 : decode cX12_isLine 105 = .ok (.aload_n 0, 1) := by decide +kernel
theorem dX12_isLine_106 : decode cX12_isLine 106 = .ok (.sipush 144, 3) := by decide +kernel
theorem dX12_isLine_109 : decode cX12_isLine 109 = .ok (.iconst 0, 1) := by decide +kernel
theorem dX12_isLine_110 : decode cX12_isLine 110 = .ok (.iconst 1, 1) := by decide +kernel
theorem dX12_isLine_111 : decode cX12_isLine 111 = .ok (.iload_n 2, 1) := by decide +kernel
theorem dX12_isLine_112 : decode cX12_isLine 112 = .ok (.i2l, 1) := by decide +kernel
theorem dX12_isLine_113 : decode cX12_isLine 113 = .ok (.iload 5, 2) := by decide +kernel
theorem dX12_isLine_115 : decode cX12_isLine 115 = .ok (.i2l, 1) := by decide +kernel
theorem dX12_isLine_116 : decode cX12_isLine 116 = .ok (.lmul, 1) := by decide +kernel
theorem dX12_isLine_117 : decode cX12_isLine 117 = .ok (.invokevirtual 188, 3) := by decide +kernel
theorem dX12_isLine_120 : decode cX12_isLine 120 = .ok (.aload_n 0, 1) := by decide +kernel
theorem dX12_isLine_121 : decode cX12_isLine 121 = .ok (.sipush 144, 3) := by decide +kernel
theorem dX12_isLine_124 : decode cX12_isLine 124 = .ok (.iconst 0, 1) := by decide +kernel
theorem dX12_isLine_125 : decode cX12_isLine 125 = .ok (.iconst 0, 1) := by decide +kernel
theorem dX12_isLine_126 : decode cX12_isLine 126 = .ok (.iload_n 3, 1) := by decide +kernel
theorem dX12_isLine_127 : decode cX12_isLine 127 = .ok (.i2l, 1) := by decide +kernel
theorem dX12_isLine_128 : decode cX12_isLine 128 = .ok (.iload 5, 2) := by decide +kernel
theorem dX12_isLine_130 : decode cX12_isLine 130 = .ok (.i2l, 1) := by decide +kernel
theorem dX12_isLine_131 : decode cX12_isLine 131 = .ok (.lmul, 1) := by decide +kernel
theorem dX12_isLine_132 : decode cX12_isLine 132 = .ok (.invokevirtual 188, 3) := by decide +kernel
theorem dX12_isLine_135 : decode cX12_isLine 135 = .ok (.iconst 1, 1) := by decide +kernel
theorem dX12_isLine_136 : decode cX12_isLine 136 = .ok (.ireturn, 1) := by decide +kernel
theorem dX12_makesLine_0 : decode cX12_makesLine 0 = .ok (.aload_n 0, 1) := by decide +kernel
theorem dX12_makesLine_1 : decode cX12_makesLine 1 = .ok (.iload_n 1, 1) := by decide +kernel
theorem dX12_makesLine_2 : decode cX12_makesLine 2 = .ok (.invokevirtual 296, 3) := by decide +kernel
theorem dX12_makesLine_5 : decode cX12_makesLine 5 = .ok (.ifCond .eq 16, 3) := by decide +kernel
theorem dX12_makesLine_8 : decode cX12_makesLine 8 = .ok (.aload_n 0, 1) := by decide +kernel
theorem dX12_makesLine_9 : decode cX12_makesLine 9 = .ok (.iload_n 2, 1) := by decide +kernel
theorem dX12_makesLine_10 : decode cX12_makesLine 10 = .ok (.invokevirtual 296, 3) := by decide +kernel
theorem dX12_makesLine_13 : decode cX12_makesLine 13 = .ok (.ifCond .eq 8, 3) := by decide +kernel
theorem dX12_makesLine_16 : decode cX12_makesLine 16 = .ok (.iload_n 1, 1) := by decide +kernel
theorem dX12_makesLine_17 : decode cX12_makesLine 17 = .ok (.iload_n 2, 1) := by decide +kernel
theorem dX12_makesLine_18 : decode cX12_makesLine 18 = .ok (.if_icmp .ne 5, 3) := by decide +kernel
theorem dX12_makesLine_21 : decode cX12_makesLine 21 = .ok (.iconst 0, 1) := by decide +kernel
theorem dX12_makesLine_22 : decode cX12_makesLine 22 = .ok (.ireturn, 1) := by decide +kernel
theorem dX12_makesLine_23 : decode cX12_makesLine 23 = .ok (.aload_n 0, 1) := by decide +kernel
theorem dX12_makesLine_24 : decode cX12_makesLine 24 = .ok (.iload_n 1, 1) := by decide +kernel
theorem dX12_makesLine_25 : decode cX12_makesLine 25 = .ok (.invokevirtual 277, 3) := by decide +kernel
theorem dX12_makesLine_28 : decode cX12_makesLine 28 = .ok (.ifCond .eq 7, 3) := by decide +kernel
theorem dX12_makesLine_31 : decode cX12_makesLine 31 = .ok (.iconst 1, 1) := by decide +kernel
theorem dX12_makesLine_32 : decode cX12_makesLine 32 = .ok (.goto 4, 3) := by decide +kernel
theorem dX12_makesLine_35 : decode cX12_makesLine 35 = .ok (.iconst 0, 1) := by decide +kernel
theorem dX12_makesLine_36 : decode cX12_makesLine 36 = .ok (.istore_n 3, 1) := by decide +kernel
theorem dX12_makesLine_37 : decode cX12_makesLine 37 = .ok (.aload_n 0, 1) := by decide +kernel
theorem dX12_makesLine_38 : decode cX12_makesLine 38 = .ok (.iload_n 2, 1) := by decide +kernel
theorem dX12_makesLine_39 : decode cX12_makesLine 39 = .ok (.invokevirtual 277, 3) := by decide +kernel
theorem dX12_makesLine_42 : decode cX12_makesLine 42 = .ok (.ifCond .eq 7, 3) := by decide +kernel
theorem dX12_makesLine_45 : decode cX12_makesLine 45 = .ok (.iconst 1, 1) := by decide +kernel
theorem dX12_makesLine_46 : decode cX12_makesLine 46 = .ok (.goto 4, 3) := by decide +kernel
theorem dX12_makesLine_49 : decode cX12_makesLine 49 = .ok (.iconst 0, 1) := by decide +kernel
theorem dX12_makesLine_50 : decode cX12_makesLine 50 = .ok (.istore 4, 2) := by decide +kernel
theorem dX12_makesLine_52 : decode cX12_makesLine 52 = .ok (.aload_n 0, 1) := by decide +kernel
theorem dX12_makesLine_53 : decode cX12_makesLine 53 = .ok (.aload_n 0, 1) := by decide +kernel
theorem dX12_makesLine_54 : decode cX12_makesLine 54 = .ok (.iload_n 1, 1) := by decide +kernel
theorem dX12_makesLine_55 : decode cX12_makesLine 55 = .ok (.invokevirtual 283, 3) := by decide +kernel
theorem dX12_makesLine_58 : decode cX12_makesLine 58 = .ok (.i2l, 1) := by decide +kernel
theorem dX12_makesLine_59 : decode cX12_makesLine 59 = .ok (.iload 4, 2) := by decide +kernel
theorem dX12_makesLine_61 : decode cX12_makesLine 61 = .ok (.i2l, 1) := by decide +kernel
theorem dX12_makesLine_62 : decode cX12_makesLine 62 = .ok (.lmul, 1) := by decide +kernel
theorem dX12_makesLine_63 : decode cX12_makesLine 63 = .ok (.iload_n 3, 1) := by decide +kernel
theorem dX12_makesLine_64 : decode cX12_makesLine 64 = .ok (.i2l, 1) := by decide +kernel
theorem dX12_makesLine_65 : decode cX12_makesLine 65 = .ok (.aload_n 0, 1) := by decide +kernel
theorem dX12_makesLine_66 : decode cX12_makesLine 66 = .ok (.iload_n 2, 1) := by decide +kernel
theorem dX12_makesLine_67 : decode cX12_makesLine 67 = .ok (.invokevirtual 283, 3) := by decide +kernel
theorem dX12_makesLine_70 : decode cX12_makesLine 70 = .ok (.i2l, 1) := by decide +kernel
theorem dX12_makesLine_71 : decode cX12_makesLine 71 = .ok (.lmul, 1) := by decide +kernel
theorem dX12_makesLine_72 : decode cX12_makesLine 72 = .ok (.lsub, 1) := by decide +kernel
theorem dX12_makesLine_73 : decode cX12_makesLine 73 = .ok (.invokevirtual 176, 3) := by decide +kernel
theorem dX12_makesLine_76 : decode cX12_makesLine 76 = .ok (.istore 5, 2) := by decide +kernel
theorem dX12_makesLine_78 : decode cX12_makesLine 78 = .ok (.aload_n 0, 1) := by decide +kernel
theorem dX12_makesLine_79 : decode cX12_makesLine 79 = .ok (.iload_n 3, 1) := by decide +kernel
theorem dX12_makesLine_80 : decode cX12_makesLine 80 = .ok (.i2l, 1) := by decide +kernel
theorem dX12_makesLine_81 : decode cX12_makesLine 81 = .ok (.aload_n 0, 1) := by decide +kernel
theorem dX12_makesLine_82 : decode cX12_makesLine 82 = .ok (.iload_n 2, 1) := by decide +kernel
theorem dX12_makesLine_83 : decode cX12_makesLine 83 = .ok (.invokevirtual 280, 3) := by decide +kernel
theorem dX12_makesLine_86 : decode cX12_makesLine 86 = .ok (.i2l, 1) := by decide +kernel
theorem dX12_makesLine_87 : decode cX12_makesLine 87 = .ok (.lmul, 1) := by decide +kernel
theorem dX12_makesLine_88 : decode cX12_makesLine 88 = .ok (.aload_n 0, 1) := by decide +kernel
theorem dX12_makesLine_89 : decode cX12_makesLine 89 = .ok (.iload_n 1, 1) := by decide +kernel
theorem dX12_makesLine_90 : decode cX12_makesLine 90 = .ok (.invokevirtual 280, 3) := by decide +kernel
theorem dX12_makesLine_93 : decode cX12_makesLine 93 = .ok (.i2l, 1) := by decide +kernel
theorem dX12_makesLine_94 : decode cX12_makesLine 94 = .ok (.iload 4, 2) := by decide +kernel
theorem dX12_makesLine_96 : decode cX12_makesLine 96 = .ok (.i2l, 1) := by decide +kernel
theorem dX12_makesLine_97 : decode cX12_makesLine 97 = .ok (.lmul, 1) := by decide +kernel
theorem dX12_makesLine_98 : decode cX12_makesLine 98 = .ok (.lsub, 1) := by decide +kernel
theorem dX12_makesLine_99 : decode cX12_makesLine 99 = .ok (.invokevirtual 176, 3) := by decide +kernel
theorem dX12_makesLine_102 : decode cX12_makesLine 102 = .ok (.istore 6, 2) := by decide +kernel
theorem dX12_makesLine_104 : decode cX12_makesLine 104 = .ok (.aload_n 0, 1) := by decide +kernel
theorem dX12_makesLine_105 : decode cX12_makesLine 105 = .ok (.aload_n 0, 1) := by decide +kernel
theorem dX12_makesLine_106 : decode cX12_makesLine 106 = .ok (.iload_n 1, 1) := by decide +kernel
theorem dX12_makesLine_107 : decode cX12_makesLine 107 = .ok (.invokevirtual 280, 3) := by decide +kernel
theorem dX12_makesLine_110 : decode cX12_makesLine 110 = .ok (.i2l, 1) := by decide +kernel
theorem dX12_makesLine_111 : decode cX12_makesLine 111 = .ok (.aload_n 0, 1) := by decide +kernel
theorem dX12_makesLine_112 : decode cX12_makesLine 112 = .ok (.iload_n 2, 1) := by decide +kernel
theorem dX12_makesLine_113 : decode cX12_makesLine 113 = .ok (.invokevirtual 283, 3) := by decide +kernel
theorem dX12_makesLine_116 : decode cX12_makesLine 116 = .ok (.i2l, 1) := by decide +kernel
theorem dX12_makesLine_117 : decode cX12_makesLine 117 = .ok (.lmul, 1) := by decide +kernel
theorem dX12_makesLine_118 : decode cX12_makesLine 118 = .ok (.aload_n 0, 1) := by decide +kernel
theorem dX12_makesLine_119 : decode cX12_makesLine 119 = .ok (.iload_n 1, 1) := by decide +kernel
theorem dX12_makesLine_120 : decode cX12_makesLine 120 = .ok (.invokevirtual 283, 3) := by decide +kernel
theorem dX12_makesLine_123 : decode cX12_makesLine 123 = .ok (.i2l, 1) := by decide +kernel
theorem dX12_makesLine_124 : decode cX12_makesLine 124 = .ok (.aload_n 0, 1) := by decide +kernel
theorem dX12_makesLine_125 : decode cX12_makesLine 125 = .ok (.iload_n 2, 1) := by decide +kernel
theorem dX12_makesLine_126 : decode cX12_makesLine 126 = .ok (.invokevirtual 280, 3) := by decide +kernel
theorem dX12_makesLine_129 : decode cX12_makesLine 129 = .ok (.i2l, 1) := by decide +kernel
theorem dX12_makesLine_130 : decode cX12_makesLine 130 = .ok (.lmul, 1) := by decide +kernel
theorem dX12_makesLine_131 : decode cX12_makesLine 131 = .ok (.lsub, 1) := by decide +kernel
theorem dX12_makesLine_132 : decode cX12_makesLine 132 = .ok (.invokevirtual 176, 3) := by decide +kernel
theorem dX12_makesLine_135 : decode cX12_makesLine 135 = .ok (.istore 7, 2) := by decide +kernel
theorem dX12_makesLine_137 : decode cX12_makesLine 137 = .ok (.aload_n 0, 1) := by decide +kernel
theorem dX12_makesLine_138 : decode cX12_makesLine 138 = .ok (.iload 5, 2) := by decide +kernel
theorem dX12_makesLine_140 : decode cX12_makesLine 140 = .ok (.iload 6, 2) := by decide +kernel
theorem dX12_makesLine_142 : decode cX12_makesLine 142 = .ok (.iload 7, 2) := by decide +kernel
theorem dX12_makesLine_144 : decode cX12_makesLine 144 = .ok (.invokevirtual 441, 3) := by decide +kernel
theorem dX12_makesLine_147 : decode cX12_makesLine 147 = .ok (.ireturn, 1) := by decide +kernel
theorem dX12_makesTangent_0 : decode cX12_makesTangent 0 = .ok (.aload_n 0, 1) := by decide +kernel
theorem dX12_makesTangent_1 : decode cX12_makesTangent 1 = .ok (.iload_n 1, 1) := by decide +kernel
theorem dX12_makesTangent_2 : decode cX12_makesTangent 2 = .ok (.invokevirtual 286, 3) := by decide +kernel
theorem dX12_makesTangent_5 : decode cX12_makesTangent 5 = .ok (.ifCond .eq 21, 3) := by decide +kernel
theorem dX12_makesTangent_8 : decode cX12_makesTangent 8 = .ok (.aload_n 0, 1) := by decide +kernel
theorem dX12_makesTangent_9 : decode cX12_makesTangent 9 = .ok (.iload_n 2, 1) := by decide +kernel
theorem dX12_makesTangent_10 : decode cX12_makesTangent 10 = .ok (.invokevirtual 296, 3) := by decide +kernel
theorem dX12_makesTangent_13 : decode cX12_makesTangent 13 = .ok (.ifCond .eq 13, 3) := by decide +kernel
theorem dX12_makesTangent_16 : decode cX12_makesTangent 16 = .ok (.aload_n 0, 1) := by decide +kernel
theorem dX12_makesTangent_17 : decode cX12_makesTangent 17 = .ok (.iload_n 1, 1) := by decide +kernel
theorem dX12_makesTangent_18 : decode cX12_makesTangent 18 = .ok (.iload_n 2, 1) := by decide +kernel
theorem dX12_makesTangent_19 : decode cX12_makesTangent 19 = .ok (.invokevirtual 316, 3) := by decide +kernel
theorem dX12_makesTangent_22 : decode cX12_makesTangent 22 = .ok (.iconst 1, 1) := by decide +kernel
theorem dX12_makesTangent_23 : decode cX12_makesTangent 23 = .ok (.if_icmp .eq 5, 3) := by decide +kernel
theorem dX12_makesTangent_26 : decode cX12_makesTangent 26 = .ok (.iconst 0, 1) := by decide +kernel
theorem dX12_makesTangent_27 : decode cX12_makesTangent 27 = .ok (.ireturn, 1) := by decide +kernel
theorem dX12_makesTangent_28 : decode cX12_makesTangent 28 = .ok (.aload_n 0, 1) := by decide +kernel
theorem dX12_makesTangent_29 : decode cX12_makesTangent 29 = .ok (.sipush 141, 3) := by decide +kernel
theorem dX12_makesTangent_32 : decode cX12_makesTangent 32 = .ok (.iconst 1, 1) := by decide +kernel
theorem dX12_makesTangent_33 : decode cX12_makesTangent 33 = .ok (.iconst 0, 1) := by decide +kernel
theorem dX12_makesTangent_34 : decode cX12_makesTangent 34 = .ok (.invokevirtual 184, 3) := by decide +kernel
theorem dX12_makesTangent_37 : decode cX12_makesTangent 37 = .ok (.istore_n 3, 1) := by decide +kernel
theorem dX12_makesTangent_38 : decode cX12_makesTangent 38 = .ok (.aload_n 0, 1) := by decide +kernel
theorem dX12_makesTangent_39 : decode cX12_makesTangent 39 = .ok (.sipush 141, 3) := by decide +kernel
theorem dX12_makesTangent_42 : decode cX12_makesTangent 42 = .ok (.iconst 0, 1) := by decide +kernel
theorem dX12_makesTangent_43 : decode cX12_makesTangent 43 = .ok (.iconst 1, 1) := by decide +kernel
theorem dX12_makesTangent_44 : decode cX12_makesTangent 44 = .ok (.invokevirtual 184, 3) := by decide +kernel
theorem dX12_makesTangent_47 : decode cX12_makesTangent 47 = .ok (.istore 4, 2) := by decide +kernel
theorem dX12_makesTangent_49 : decode cX12_makesTangent 49 = .ok (.aload_n 0, 1) := by decide +kernel
theorem dX12_makesTangent_50 : decode cX12_makesTangent 50 = .ok (.iload_n 2, 1) := by decide +kernel
theorem dX12_makesTangent_51 : decode cX12_makesTangent 51 = .ok (.invokevirtual 277, 3) := by decide +kernel
theorem dX12_makesTangent_54 : decode cX12_makesTangent 54 = .ok (.ifCond .eq 36, 3) := by decide +kernel
theorem dX12_makesTangent_57 : decode cX12_makesTangent 57 = .ok (.aload_n 0, 1) := by decide +kernel
theorem dX12_makesTangent_58 : decode cX12_makesTangent 58 = .ok (.iload_n 3, 1) := by decide +kernel
theorem dX12_makesTangent_59 : decode cX12_makesTangent 59 = .ok (.iload 4, 2) := by decide +kernel
theorem dX12_makesTangent_61 : decode cX12_makesTangent 61 = .ok (.aload_n 0, 1) := by decide +kernel
theorem dX12_makesTangent_62 : decode cX12_makesTangent 62 = .ok (.iload_n 3, 1) := by decide +kernel
theorem dX12_makesTangent_63 : decode cX12_makesTangent 63 = .ok (.i2l, 1) := by decide +kernel
theorem dX12_makesTangent_64 : decode cX12_makesTangent 64 = .ok (.lneg, 1) := by decide +kernel
theorem dX12_makesTangent_65 : decode cX12_makesTangent 65 = .ok (.aload_n 0, 1) := by decide +kernel
theorem dX12_makesTangent_66 : decode cX12_makesTangent 66 = .ok (.iload_n 2, 1) := by decide +kernel
theorem dX12_makesTangent_67 : decode cX12_makesTangent 67 = .ok (.invokevirtual 280, 3) := by decide +kernel
theorem dX12_makesTangent_70 : decode cX12_makesTangent 70 = .ok (.i2l, 1) := by decide +kernel
theorem dX12_makesTangent_71 : decode cX12_makesTangent 71 = .ok (.lmul, 1) := by decide +kernel
theorem dX12_makesTangent_72 : decode cX12_makesTangent 72 = .ok (.iload 4, 2) := by decide +kernel
theorem dX12_makesTangent_74 : decode cX12_makesTangent 74 = .ok (.i2l, 1) := by decide +kernel
theorem dX12_makesTangent_75 : decode cX12_makesTangent 75 = .ok (.aload_n 0, 1) := by decide +kernel
theorem dX12_makesTangent_76 : decode cX12_makesTangent 76 = .ok (.iload_n 2, 1) := by decide +kernel
theorem dX12_makesTangent_77 : decode cX12_makesTangent 77 = .ok (.invokevirtual 283, 3) := by decide +kernel
theorem dX12_makesTangent_80 : decode cX12_makesTangent 80 = .ok (.i2l, 1) := by decide +kernel
theorem dX12_makesTangent_81 : decode cX12_makesTangent 81 = .ok (.lmul, 1) := by decide +kernel
theorem dX12_makesTangent_82 : decode cX12_makesTangent 82 = .ok (.lsub, 1) := by decide +kernel
theorem dX12_makesTangent_83 : decode cX12_makesTangent 83 = .ok (.invokevirtual 176, 3) := by decide +kernel
theorem dX12_makesTangent_86 : decode cX12_makesTangent 86 = .ok (.invokevirtual 441, 3) := by decide +kernel
theorem dX12_makesTangent_89 : decode cX12_makesTangent 89 = .ok (.ireturn, 1) := by decide +kernel
theorem dX12_makesTangent_90 : decode cX12_makesTangent 90 = .ok (.iload_n 2, 1) := by decide +kernel
theorem dX12_makesTangent_91 : decode cX12_makesTangent 91 = .ok (.aload_n 0, 1) := by decide +kernel
theorem dX12_makesTangent_92 : decode cX12_makesTangent 92 = .ok (.invokevirtual 274, 3) := by decide +kernel
theorem dX12_makesTangent_95 : decode cX12_makesTangent 95 = .ok (.iconst 1, 1) := by decide +kernel
theorem dX12_makesTangent_96 : decode cX12_makesTangent 96 = .ok (.isub, 1) := by decide +kernel
theorem dX12_makesTangent_97 : decode cX12_makesTangent 97 = .ok (.if_icmp .ne 14, 3) := by decide +kernel
theorem dX12_makesTangent_100 : decode cX12_makesTangent 100 = .ok (.aload_n 0, 1) := by decide +kernel
theorem dX12_makesTangent_101 : decode cX12_makesTangent 101 = .ok (.iload_n 3, 1) := by decide +kernel
theorem dX12_makesTangent_102 : decode cX12_makesTangent 102 = .ok (.iconst 0, 1) := by decide +kernel
theorem dX12_makesTangent_103 : decode cX12_makesTangent 103 = .ok (.iload 4, 2) := by decide +kernel
theorem dX12_makesTangent_105 : decode cX12_makesTangent 105 = .ok (.invokevirtual 441, 3) := by decide +kernel
theorem dX12_makesTangent_108 : decode cX12_makesTangent 108 = .ok (.goto 24, 3) := by decide +kernel
theorem dX12_makesTangent_111 : decode cX12_makesTangent 111 = .ok (.aload_n 0, 1) := by decide +kernel
theorem dX12_makesTangent_112 : decode cX12_makesTangent 112 = .ok (.aload_n 0, 1) := by decide +kernel
theorem dX12_makesTangent_113 : decode cX12_makesTangent 113 = .ok (.iload_n 3, 1) := by decide +kernel
theorem dX12_makesTangent_114 : decode cX12_makesTangent 114 = .ok (.i2l, 1) := by decide +kernel
theorem dX12_makesTangent_115 : decode cX12_makesTangent 115 = .ok (.lneg, 1) := by decide +kernel
theorem dX12_makesTangent_116 : decode cX12_makesTangent 116 = .ok (.aload_n 0, 1) := by decide +kernel
theorem dX12_makesTangent_117 : decode cX12_makesTangent 117 = .ok (.iload_n 2, 1) := by decide +kernel
theorem dX12_makesTangent_118 : decode cX12_makesTangent 118 = .ok (.invokevirtual 283, 3) := by decide +kernel
theorem dX12_makesTangent_121 : decode cX12_makesTangent 121 = .ok (.i2l, 1) := by decide +kernel
theorem dX12_makesTangent_122 : decode cX12_makesTangent 122 = .ok (.lmul, 1) := by decide +kernel
theorem dX12_makesTangent_123 : decode cX12_makesTangent 123 = .ok (.invokevirtual 176, 3) := by decide +kernel
theorem dX12_makesTangent_126 : decode cX12_makesTangent 126 = .ok (.iload_n 3, 1) := by decide +kernel
theorem dX12_makesTangent_127 : decode cX12_makesTangent 127 = .ok (.iload 4, 2) := by decide +kernel
theorem dX12_makesTangent_129 : decode cX12_makesTangent 129 = .ok (.invokevirtual 441, 3) := by decide +kernel
theorem dX12_makesTangent_132 : decode cX12_makesTangent 132 = .ok (.ireturn, 1) := by decide +kernel
theorem dX12_makesDerivative_0 : decode cX12_makesDerivative 0 = .ok (.aload_n 0, 1) := by decide +kernel
theorem dX12_makesDerivative_1 : decode cX12_makesDerivative 1 = .ok (.iload_n 1, 1) := by decide +kernel
theorem dX12_makesDerivative_2 : decode cX12_makesDerivative 2 = .ok (.invokevirtual 286, 3) := by decide +kernel
theorem dX12_makesDerivative_5 : decode cX12_makesDerivative 5 = .ok (.ifCond .eq 12, 3) := by decide +kernel
theorem dX12_makesDerivative_8 : decode cX12_makesDerivative 8 = .ok (.iload_n 2, 1) := by decide +kernel
theorem dX12_makesDerivative_9 : decode cX12_makesDerivative 9 = .ok (.iconst 0, 1) := by decide +kernel
theorem dX12_makesDerivative_10 : decode cX12_makesDerivative 10 = .ok (.iconst 1, 1) := by decide +kernel
theorem dX12_makesDerivative_11 : decode cX12_makesDerivative 11 = .ok (.invokestatic 271, 3) := by decide +kernel
theorem dX12_makesDerivative_14 : decode cX12_makesDerivative 14 = .ok (.ifCond .ne 5, 3) := by decide +kernel
theorem dX12_makesDerivative_17 : decode cX12_makesDerivative 17 = .ok (.iconst 0, 1) := by decide +kernel
theorem dX12_makesDerivative_18 : decode cX12_makesDerivative 18 = .ok (.ireturn, 1) := by decide +kernel
theorem dX12_makesDerivative_19 : decode cX12_makesDerivative 19 = .ok (.aload_n 0, 1) := by decide +kernel
theorem dX12_makesDerivative_20 : decode cX12_makesDerivative 20 = .ok (.sipush 144, 3) := by decide +kernel
theorem dX12_makesDerivative_23 : decode cX12_makesDerivative 23 = .ok (.invokevirtual 192, 3) := by decide +kernel
theorem dX12_makesDerivative_26 : decode cX12_makesDerivative 26 = .ok (.iconst 0, 1) := by decide +kernel
theorem dX12_makesDerivative_27 : decode cX12_makesDerivative 27 = .ok (.istore_n 3, 1) := by decide +kernel
theorem dX12_makesDerivative_28 : decode cX12_makesDerivative 28 = .ok (.iload_n 3, 1) := by decide +kernel
theorem dX12_makesDerivative_29 : decode cX12_makesDerivative 29 = .ok (.iconst 4, 1) := by decide +kernel
theorem dX12_makesDerivative_30 : decode cX12_makesDerivative 30 = .ok (.if_icmp .gt 87, 3) := by decide +kernel
theorem dX12_makesDerivative_33 : decode cX12_makesDerivative 33 = .ok (.iconst 0, 1) := by decide +kernel
theorem dX12_makesDerivative_34 : decode cX12_makesDerivative 34 = .ok (.istore 4, 2) := by decide +kernel
theorem dX12_makesDerivative_36 : decode cX12_makesDerivative 36 = .ok (.iload_n 3, 1) := by decide +kernel
theorem dX12_makesDerivative_37 : decode cX12_makesDerivative 37 = .ok (.iload 4, 2) := by decide +kernel
theorem dX12_makesDerivative_39 : decode cX12_makesDerivative 39 = .ok (.iadd, 1) := by decide +kernel
theorem dX12_makesDerivative_40 : decode cX12_makesDerivative 40 = .ok (.iconst 4, 1) := by decide +kernel
theorem dX12_makesDerivative_41 : decode cX12_makesDerivative 41 = .ok (.if_icmp .gt 70, 3) := by decide +kernel
theorem dX12_makesDerivative_44 : decode cX12_makesDerivative 44 = .ok (.iload_n 2, 1) := by decide +kernel
theorem dX12_makesDerivative_45 : decode cX12_makesDerivative 45 = .ok (.ifCond .ne 7, 3) := by decide +kernel
theorem dX12_makesDerivative_48 : decode cX12_makesDerivative 48 = .ok (.iload_n 3, 1) := by decide +kernel
theorem dX12_makesDerivative_49 : decode cX12_makesDerivative 49 = .ok (.goto 5, 3) := by decide +kernel
theorem dX12_makesDerivative_52 : decode cX12_makesDerivative 52 = .ok (.iload 4, 2) := by decide +kernel
theorem dX12_makesDerivative_54 : decode cX12_makesDerivative 54 = .ok (.istore 5, 2) := by decide +kernel
theorem dX12_makesDerivative_56 : decode cX12_makesDerivative 56 = .ok (.iload 5, 2) := by decide +kernel
theorem dX12_makesDerivative_58 : decode cX12_makesDerivative 58 = .ok (.ifCond .le 47, 3) := by decide +kernel
theorem dX12_makesDerivative_61 : decode cX12_makesDerivative 61 = .ok (.aload_n 0, 1) := by decide +kernel
theorem dX12_makesDerivative_62 : decode cX12_makesDerivative 62 = .ok (.sipush 144, 3) := by decide +kernel
theorem dX12_makesDerivative_65 : decode cX12_makesDerivative 65 = .ok (.iload_n 2, 1) := by decide +kernel
theorem dX12_makesDerivative_66 : decode cX12_makesDerivative 66 = .ok (.ifCond .ne 9, 3) := by decide +kernel
theorem dX12_makesDerivative_69 : decode cX12_makesDerivative 69 = .ok (.iload_n 3, 1) := by decide +kernel
theorem dX12_makesDerivative_70 : decode cX12_makesDerivative 70 = .ok (.iconst 1, 1) := by decide +kernel
theorem dX12_makesDerivative_71 : decode cX12_makesDerivative 71 = .ok (.isub, 1) := by decide +kernel
theorem dX12_makesDerivative_72 : decode cX12_makesDerivative 72 = .ok (.goto 4, 3) := by decide +kernel
theorem dX12_makesDerivative_75 : decode cX12_makesDerivative 75 = .ok (.iload_n 3, 1) := by decide +kernel
theorem dX12_makesDerivative_76 : decode cX12_makesDerivative 76 = .ok (.iload_n 2, 1) := by decide +kernel
theorem dX12_makesDerivative_77 : decode cX12_makesDerivative 77 = .ok (.ifCond .ne 8, 3) := by decide +kernel
theorem dX12_makesDerivative_80 : decode cX12_makesDerivative 80 = .ok (.iload 4, 2) := by decide +kernel
theorem dX12_makesDerivative_82 : decode cX12_makesDerivative 82 = .ok (.goto 7, 3) := by decide +kernel
theorem dX12_makesDerivative_85 : decode cX12_makesDerivative 85 = .ok (.iload 4, 2) := by decide +kernel
theorem dX12_makesDerivative_87 : decode cX12_makesDerivative 87 = .ok (.iconst 1, 1) := by decide +kernel
theorem dX12_makesDerivative_88 : decode cX12_makesDerivative 88 = .ok (.isub, 1) := by decide +kernel
theorem dX12_makesDerivative_89 : decode cX12_makesDerivative 89 = .ok (.iload 5, 2) := by decide +kernel
theorem dX12_makesDerivative_91 : decode cX12_makesDerivative 91 = .ok (.i2l, 1) := by decide +kernel
theorem dX12_makesDerivative_92 : decode cX12_makesDerivative 92 = .ok (.aload_n 0, 1) := by decide +kernel
theorem dX12_makesDerivative_93 : decode cX12_makesDerivative 93 = .ok (.iload_n 1, 1) := by decide +kernel
theorem dX12_makesDerivative_94 : decode cX12_makesDerivative 94 = .ok (.iload_n 3, 1) := by decide +kernel
theorem dX12_makesDerivative_95 : decode cX12_makesDerivative 95 = .ok (.iload 4, 2) := by decide +kernel
theorem dX12_makesDerivative_97 : decode cX12_makesDerivative 97 = .ok (.invokevirtual 184, 3) := by decide +kernel
theorem dX12_makesDerivative_100 : decode cX12_makesDerivative 100 = .ok (.i2l, 1) := by decide +kernel
theorem dX12_makesDerivative_101 : decode cX12_makesDerivative 101 = .ok (.lmul, 1) := by decide +kernel
theorem dX12_makesDerivative_102 : decode cX12_makesDerivative 102 = .ok (.invokevirtual 188, 3) := by decide +kernel
theorem dX12_makesDerivative_105 : decode cX12_makesDerivative 105 = .ok (.iinc 4 1, 3) := by decide +kernel
theorem dX12_makesDerivative_108 : decode cX12_makesDerivative 108 = .ok (.goto (-72), 3) := by decide +kernel
theorem dX12_makesDerivative_111 : decode cX12_makesDerivative 111 = .ok (.iinc 3 1, 3) := by decide +kernel
theorem dX12_makesDerivative_114 : decode cX12_makesDerivative 114 = .ok (.goto (-86), 3) := by decide +kernel
theorem dX12_makesDerivative_117 : decode cX12_makesDerivative 117 = .ok (.aload_n 0, 1) := by decide +kernel
theorem dX12_makesDerivative_118 : decode cX12_makesDerivative 118 = .ok (.sipush 144, 3) := by decide +kernel
theorem dX12_makesDerivative_121 : decode cX12_makesDerivative 121 = .ok (.invokevirtual 254, 3) := by decide +kernel
theorem dX12_makesDerivative_124 : decode cX12_makesDerivative 124 = .ok (.ifCond .le 7, 3) := by decide +kernel
theorem dX12_makesDerivative_127 : decode cX12_makesDerivative 127 = .ok (.iconst 1, 1) := by decide +kernel
theorem dX12_makesDerivative_128 : decode cX12_makesDerivative 128 = .ok (.goto 4, 3) := by decide +kernel
theorem dX12_makesDerivative_131 : decode cX12_makesDerivative 131 = .ok (.iconst 0, 1) := by decide +kernel
theorem dX12_makesDerivative_132 : decode cX12_makesDerivative 132 = .ok (.ireturn, 1) := by decide +kernel
theorem dX12_makes_0 : decode cX12_makes 0 = .ok (.iload_n 3, 1) := by decide +kernel
theorem dX12_makes_1 : decode cX12_makes 1 = .ok (.tableswitch 181 0 5 #[39, 66, 117, 160, 167, 174], 39) := by decide +kernel
theorem dX12_makes_40 : decode cX12_makes 40 = .ok (.aload_n 0, 1) := by decide +kernel
theorem dX12_makes_41 : decode cX12_makes 41 = .ok (.iload_n 1, 1) := by decide +kernel
theorem dX12_makes_42 : decode cX12_makes 42 = .ok (.iload_n 2, 1) := by decide +kernel
theorem dX12_makes_43 : decode cX12_makes 43 = .ok (.invokevirtual 363, 3) := by decide +kernel
theorem dX12_makes_46 : decode cX12_makes 46 = .ok (.ifCond .eq 19, 3) := by decide +kernel
theorem dX12_makes_49 : decode cX12_makes 49 = .ok (.aload_n 0, 1) := by decide +kernel
theorem dX12_makes_50 : decode cX12_makes 50 = .ok (.sipush 144, 3) := by decide +kernel
theorem dX12_makes_53 : decode cX12_makes 53 = .ok (.iload_n 1, 1) := by decide +kernel
theorem dX12_makes_54 : decode cX12_makes 54 = .ok (.iload_n 2, 1) := by decide +kernel
theorem dX12_makes_55 : decode cX12_makes 55 = .ok (.invokevirtual 220, 3) := by decide +kernel
theorem dX12_makes_58 : decode cX12_makes 58 = .ok (.ifCond .eq 7, 3) := by decide +kernel
theorem dX12_makes_61 : decode cX12_makes 61 = .ok (.iconst 1, 1) := by decide +kernel
theorem dX12_makes_62 : decode cX12_makes 62 = .ok (.goto 4, 3) := by decide +kernel
theorem dX12_makes_65 : decode cX12_makes 65 = .ok (.iconst 0, 1) := by decide +kernel
theorem dX12_makes_66 : decode cX12_makes 66 = .ok (.ireturn, 1) := by decide +kernel
theorem dX12_makes_67 : decode cX12_makes 67 = .ok (.aload_n 0, 1) := by decide +kernel
theorem dX12_makes_68 : decode cX12_makes 68 = .ok (.iload_n 1, 1) := by decide +kernel
theorem dX12_makes_69 : decode cX12_makes 69 = .ok (.iload_n 2, 1) := by decide +kernel
theorem dX12_makes_70 : decode cX12_makes 70 = .ok (.invokevirtual 363, 3) := by decide +kernel
theorem dX12_makes_73 : decode cX12_makes 73 = .ok (.ifCond .ne 5, 3) := by decide +kernel
theorem dX12_makes_76 : decode cX12_makes 76 = .ok (.iconst 0, 1) := by decide +kernel
theorem dX12_makes_77 : decode cX12_makes 77 = .ok (.ireturn, 1) := by decide +kernel
theorem dX12_makes_78 : decode cX12_makes 78 = .ok (.aload_n 0, 1) := by decide +kernel
theorem dX12_makes_79 : decode cX12_makes 79 = .ok (.sipush 144, 3) := by decide +kernel
theorem dX12_makes_82 : decode cX12_makes 82 = .ok (.iload_n 1, 1) := by decide +kernel
theorem dX12_makes_83 : decode cX12_makes 83 = .ok (.invokevirtual 236, 3) := by decide +kernel
theorem dX12_makes_86 : decode cX12_makes 86 = .ok (.aload_n 0, 1) := by decide +kernel
theorem dX12_makes_87 : decode cX12_makes 87 = .ok (.sipush 144, 3) := by decide +kernel
theorem dX12_makes_90 : decode cX12_makes 90 = .ok (.iload_n 2, 1) := by decide +kernel
theorem dX12_makes_91 : decode cX12_makes 91 = .ok (.aload_n 0, 1) := by decide +kernel
theorem dX12_makes_92 : decode cX12_makes 92 = .ok (.iload 4, 2) := by decide +kernel
theorem dX12_makes_94 : decode cX12_makes 94 = .ok (.i2l, 1) := by decide +kernel
theorem dX12_makes_95 : decode cX12_makes 95 = .ok (.invokevirtual 176, 3) := by decide +kernel
theorem dX12_makes_98 : decode cX12_makes 98 = .ok (.i2l, 1) := by decide +kernel
theorem dX12_makes_99 : decode cX12_makes 99 = .ok (.invokevirtual 207, 3) := by decide +kernel
theorem dX12_makes_102 : decode cX12_makes 102 = .ok (.aload_n 0, 1) := by decide +kernel
theorem dX12_makes_103 : decode cX12_makes 103 = .ok (.sipush 144, 3) := by decide +kernel
theorem dX12_makes_106 : decode cX12_makes 106 = .ok (.invokevirtual 254, 3) := by decide +kernel
theorem dX12_makes_109 : decode cX12_makes 109 = .ok (.ifCond .le 7, 3) := by decide +kernel
theorem dX12_makes_112 : decode cX12_makes 112 = .ok (.iconst 1, 1) := by decide +kernel
theorem dX12_makes_113 : decode cX12_makes 113 = .ok (.goto 4, 3) := by decide +kernel
theorem dX12_makes_116 : decode cX12_makes 116 = .ok (.iconst 0, 1) := by decide +kernel
theorem dX12_makes_117 : decode cX12_makes 117 = .ok (.ireturn, 1) := by decide +kernel
theorem dX12_makes_118 : decode cX12_makes 118 = .ok (.aload_n 0, 1) := by decide +kernel
theorem dX12_makes_119 : decode cX12_makes 119 = .ok (.iload_n 1, 1) := by decide +kernel
theorem dX12_makes_120 : decode cX12_makes 120 = .ok (.iload_n 2, 1) := by decide +kernel
theorem dX12_makes_121 : decode cX12_makes 121 = .ok (.invokevirtual 363, 3) := by decide +kernel
theorem dX12_makes_124 : decode cX12_makes 124 = .ok (.ifCond .ne 5, 3) := by decide +kernel
theorem dX12_makes_127 : decode cX12_makes 127 = .ok (.iconst 0, 1) := by decide +kernel
theorem dX12_makes_128 : decode cX12_makes 128 = .ok (.ireturn, 1) := by decide +kernel
theorem dX12_makes_129 : decode cX12_makes 129 = .ok (.aload_n 0, 1) := by decide +kernel
theorem dX12_makes_130 : decode cX12_makes 130 = .ok (.iload_n 1, 1) := by decide +kernel
theorem dX12_makes_131 : decode cX12_makes 131 = .ok (.iload_n 2, 1) := by decide +kernel
theorem dX12_makes_132 : decode cX12_makes 132 = .ok (.invokevirtual 366, 3) := by decide +kernel
theorem dX12_makes_135 : decode cX12_makes 135 = .ok (.aload_n 0, 1) := by decide +kernel
theorem dX12_makes_136 : decode cX12_makes 136 = .ok (.sipush 144, 3) := by decide +kernel
theorem dX12_makes_139 : decode cX12_makes 139 = .ok (.sipush 143, 3) := by decide +kernel
theorem dX12_makes_142 : decode cX12_makes 142 = .ok (.invokevirtual 236, 3) := by decide +kernel
theorem dX12_makes_145 : decode cX12_makes 145 = .ok (.aload_n 0, 1) := by decide +kernel
theorem dX12_makes_146 : decode cX12_makes 146 = .ok (.sipush 144, 3) := by decide +kernel
theorem dX12_makes_149 : decode cX12_makes 149 = .ok (.invokevirtual 254, 3) := by decide +kernel
theorem dX12_makes_152 : decode cX12_makes 152 = .ok (.ifCond .le 7, 3) := by decide +kernel
theorem dX12_makes_155 : decode cX12_makes 155 = .ok (.iconst 1, 1) := by decide +kernel
theorem dX12_makes_156 : decode cX12_makes 156 = .ok (.goto 4, 3) := by decide +kernel
theorem dX12_makes_159 : decode cX12_makes 159 = .ok (.iconst 0, 1) := by decide +kernel
theorem dX12_makes_160 : decode cX12_makes 160 = .ok (.ireturn, 1) := by decide +kernel
theorem dX12_makes_161 : decode cX12_makes 161 = .ok (.aload_n 0, 1) := by decide +kernel
theorem dX12_makes_162 : decode cX12_makes 162 = .ok (.iload_n 1, 1) := by decide +kernel
theorem dX12_makes_163 : decode cX12_makes 163 = .ok (.iload_n 2, 1) := by decide +kernel
theorem dX12_makes_164 : decode cX12_makes 164 = .ok (.invokevirtual 444, 3) := by decide +kernel
theorem dX12_makes_167 : decode cX12_makes 167 = .ok (.ireturn, 1) := by decide +kernel
theorem dX12_makes_168 : decode cX12_makes 168 = .ok (.aload_n 0, 1) := by decide +kernel
theorem dX12_makes_169 : decode cX12_makes 169 = .ok (.iload_n 1, 1) := by decide +kernel
theorem dX12_makes_170 : decode cX12_makes 170 = .ok (.iload_n 2, 1) := by decide +kernel
theorem dX12_makes_171 : decode cX12_makes 171 = .ok (.invokevirtual 447, 3) := by decide +kernel
theorem dX12_makes_174 : decode cX12_makes 174 = .ok (.ireturn, 1) := by decide +kernel
theorem dX12_makes_175 : decode cX12_makes 175 = .ok (.aload_n 0, 1) := by decide +kernel
theorem dX12_makes_176 : decode cX12_makes 176 = .ok (.iload_n 1, 1) := by decide +kernel
theorem dX12_makes_177 : decode cX12_makes 177 = .ok (.iload_n 2, 1) := by decide +kernel
theorem dX12_makes_178 : decode cX12_makes 178 = .ok (.invokevirtual 450, 3) := by decide +kernel
theorem dX12_makes_181 : decode cX12_makes 181 = .ok (.ireturn, 1) := by decide +kernel
theorem dX12_makes_182 : decode cX12_makes 182 = .ok (.iconst 0, 1) := by decide +kernel
theorem dX12_makes_183 : decode cX12_makes 183 = .ok (.ireturn, 1) := by decide +kernel
theorem dX12_make_0 : decode cX12_make 0 = .ok (.aload_n 0, 1) := by decide +kernel
theorem dX12_make_1 : decode cX12_make 1 = .ok (.getfield 51, 3) := by decide +kernel
theorem dX12_make_4 : decode cX12_make 4 = .ok (.bipush 6, 2) := by decide +kernel
theorem dX12_make_6 : decode cX12_make 6 = .ok (.if_icmp .eq 15, 3) := by decide +kernel
theorem dX12_make_9 : decode cX12_make 9 = .ok (.aload_n 0, 1) := by decide +kernel
theorem dX12_make_10 : decode cX12_make 10 = .ok (.iload_n 1, 1) := by decide +kernel
theorem dX12_make_11 : decode cX12_make 11 = .ok (.iload_n 2, 1) := by decide +kernel
theorem dX12_make_12 : decode cX12_make 12 = .ok (.iload_n 3, 1) := by decide +kernel
theorem dX12_make_13 : decode cX12_make 13 = .ok (.iload 4, 2) := by decide +kernel
theorem dX12_make_15 : decode cX12_make 15 = .ok (.invokevirtual 453, 3) := by decide +kernel
theorem dX12_make_18 : decode cX12_make 18 = .ok (.ifCond .ne 9, 3) := by decide +kernel
theorem dX12_make_21 : decode cX12_make 21 = .ok (.aload_n 0, 1) := by decide +kernel
theorem dX12_make_22 : decode cX12_make 22 = .ok (.iconst 3, 1) := by decide +kernel
theorem dX12_make_23 : decode cX12_make 23 = .ok (.invokevirtual 124, 3) := by decide +kernel
theorem dX12_make_26 : decode cX12_make 26 = .ok (.ireturn, 1) := by decide +kernel
theorem dX12_make_27 : decode cX12_make 27 = .ok (.aload_n 0, 1) := by decide +kernel
theorem dX12_make_28 : decode cX12_make 28 = .ok (.invokevirtual 434, 3) := by decide +kernel
theorem dX12_make_31 : decode cX12_make 31 = .ok (.aload_n 0, 1) := by decide +kernel
theorem dX12_make_32 : decode cX12_make 32 = .ok (.aload_n 0, 1) := by decide +kernel
theorem dX12_make_33 : decode cX12_make 33 = .ok (.getfield 51, 3) := by decide +kernel
theorem dX12_make_36 : decode cX12_make 36 = .ok (.sipush 144, 3) := by decide +kernel
theorem dX12_make_39 : decode cX12_make 39 = .ok (.invokevirtual 236, 3) := by decide +kernel
theorem dX12_make_42 : decode cX12_make 42 = .ok (.aload_n 0, 1) := by decide +kernel
theorem dX12_make_43 : decode cX12_make 43 = .ok (.getfield 54, 3) := by decide +kernel
theorem dX12_make_46 : decode cX12_make 46 = .ok (.aload_n 0, 1) := by decide +kernel
theorem dX12_make_47 : decode cX12_make 47 = .ok (.getfield 51, 3) := by decide +kernel
theorem dX12_make_50 : decode cX12_make 50 = .ok (.iconst 0, 1) := by decide +kernel
theorem dX12_make_51 : decode cX12_make 51 = .ok (.iastore, 1) := by decide +kernel
theorem dX12_make_52 : decode cX12_make 52 = .ok (.aload_n 0, 1) := by decide +kernel
theorem dX12_make_53 : decode cX12_make 53 = .ok (.dup, 1) := by decide +kernel
theorem dX12_make_54 : decode cX12_make 54 = .ok (.getfield 51, 3) := by decide +kernel
theorem dX12_make_57 : decode cX12_make 57 = .ok (.iconst 1, 1) := by decide +kernel
theorem dX12_make_58 : decode cX12_make 58 = .ok (.iadd, 1) := by decide +kernel
theorem dX12_make_59 : decode cX12_make 59 = .ok (.putfield 51, 3) := by decide +kernel
theorem dX12_make_62 : decode cX12_make 62 = .ok (.aload_n 0, 1) := by decide +kernel
theorem dX12_make_63 : decode cX12_make 63 = .ok (.getfield 51, 3) := by decide +kernel
theorem dX12_make_66 : decode cX12_make 66 = .ok (.iconst 1, 1) := by decide +kernel
theorem dX12_make_67 : decode cX12_make 67 = .ok (.isub, 1) := by decide +kernel
theorem dX12_make_68 : decode cX12_make 68 = .ok (.ireturn, 1) := by decide +kernel
theorem dX12_drop_0 : decode cX12_drop 0 = .ok (.aload_n 0, 1) := by decide +kernel
theorem dX12_drop_1 : decode cX12_drop 1 = .ok (.iload_n 1, 1) := by decide +kernel
theorem dX12_drop_2 : decode cX12_drop 2 = .ok (.invokevirtual 286, 3) := by decide +kernel
theorem dX12_drop_5 : decode cX12_drop 5 = .ok (.ifCond .ne 9, 3) := by decide +kernel
theorem dX12_drop_8 : decode cX12_drop 8 = .ok (.aload_n 0, 1) := by decide +kernel
theorem dX12_drop_9 : decode cX12_drop 9 = .ok (.iconst 3, 1) := by decide +kernel
theorem dX12_drop_10 : decode cX12_drop 10 = .ok (.invokevirtual 124, 3) := by decide +kernel
theorem dX12_drop_13 : decode cX12_drop 13 = .ok (.ireturn, 1) := by decide +kernel
theorem dX12_drop_14 : decode cX12_drop 14 = .ok (.aload_n 0, 1) := by decide +kernel
theorem dX12_drop_15 : decode cX12_drop 15 = .ok (.invokevirtual 434, 3) := by decide +kernel
theorem dX12_drop_18 : decode cX12_drop 18 = .ok (.aload_n 0, 1) := by decide +kernel
theorem dX12_drop_19 : decode cX12_drop 19 = .ok (.iload_n 1, 1) := by decide +kernel
theorem dX12_drop_20 : decode cX12_drop 20 = .ok (.invokevirtual 254, 3) := by decide +kernel
theorem dX12_drop_23 : decode cX12_drop 23 = .ok (.istore_n 2, 1) := by decide +kernel
theorem dX12_drop_24 : decode cX12_drop 24 = .ok (.iload_n 1, 1) := by decide +kernel
theorem dX12_drop_25 : decode cX12_drop 25 = .ok (.istore_n 3, 1) := by decide +kernel
theorem dX12_drop_26 : decode cX12_drop 26 = .ok (.iload_n 3, 1) := by decide +kernel
theorem dX12_drop_27 : decode cX12_drop 27 = .ok (.aload_n 0, 1) := by decide +kernel
theorem dX12_drop_28 : decode cX12_drop 28 = .ok (.getfield 51, 3) := by decide +kernel
theorem dX12_drop_31 : decode cX12_drop 31 = .ok (.iconst 1, 1) := by decide +kernel
theorem dX12_drop_32 : decode cX12_drop 32 = .ok (.isub, 1) := by decide +kernel
theorem dX12_drop_33 : decode cX12_drop 33 = .ok (.if_icmp .ge 31, 3) := by decide +kernel
theorem dX12_drop_36 : decode cX12_drop 36 = .ok (.aload_n 0, 1) := by decide +kernel
theorem dX12_drop_37 : decode cX12_drop 37 = .ok (.iload_n 3, 1) := by decide +kernel
theorem dX12_drop_38 : decode cX12_drop 38 = .ok (.iload_n 3, 1) := by decide +kernel
theorem dX12_drop_39 : decode cX12_drop 39 = .ok (.iconst 1, 1) := by decide +kernel
theorem dX12_drop_40 : decode cX12_drop 40 = .ok (.iadd, 1) := by decide +kernel
theorem dX12_drop_41 : decode cX12_drop 41 = .ok (.invokevirtual 236, 3) := by decide +kernel
theorem dX12_drop_44 : decode cX12_drop 44 = .ok (.aload_n 0, 1) := by decide +kernel
theorem dX12_drop_45 : decode cX12_drop 45 = .ok (.getfield 54, 3) := by decide +kernel
theorem dX12_drop_48 : decode cX12_drop 48 = .ok (.iload_n 3, 1) := by decide +kernel
theorem dX12_drop_49 : decode cX12_drop 49 = .ok (.aload_n 0, 1) := by decide +kernel
theorem dX12_drop_50 : decode cX12_drop 50 = .ok (.getfield 54, 3) := by decide +kernel
theorem dX12_drop_53 : decode cX12_drop 53 = .ok (.iload_n 3, 1) := by decide +kernel
theorem dX12_drop_54 : decode cX12_drop 54 = .ok (.iconst 1, 1) := by decide +kernel
theorem dX12_drop_55 : decode cX12_drop 55 = .ok (.iadd, 1) := by decide +kernel
theorem dX12_drop_56 : decode cX12_drop 56 = .ok (.iaload, 1) := by decide +kernel
theorem dX12_drop_57 : decode cX12_drop 57 = .ok (.iastore, 1) := by decide +kernel
theorem dX12_drop_58 : decode cX12_drop 58 = .ok (.iinc 3 1, 3) := by decide +kernel
theorem dX12_drop_61 : decode cX12_drop 61 = .ok (.goto (-35), 3) := by decide +kernel
theorem dX12_drop_64 : decode cX12_drop 64 = .ok (.aload_n 0, 1) := by decide +kernel
theorem dX12_drop_65 : decode cX12_drop 65 = .ok (.dup, 1) := by decide +kernel
theorem dX12_drop_66 : decode cX12_drop 66 = .ok (.getfield 51, 3) := by decide +kernel
theorem dX12_drop_69 : decode cX12_drop 69 = .ok (.iconst 1, 1) := by decide +kernel
theorem dX12_drop_70 : decode cX12_drop 70 = .ok (.isub, 1) := by decide +kernel
theorem dX12_drop_71 : decode cX12_drop 71 = .ok (.putfield 51, 3) := by decide +kernel
theorem dX12_drop_74 : decode cX12_drop 74 = .ok (.iload_n 2, 1) := by decide +kernel
theorem dX12_drop_75 : decode cX12_drop 75 = .ok (.ireturn, 1) := by decide +kernel
theorem dX12_status_0 : decode cX12_status 0 = .ok (.iload_n 1, 1) := by decide +kernel
theorem dX12_status_1 : decode cX12_status 1 = .ok (.iconst 0, 1) := by decide +kernel
theorem dX12_status_2 : decode cX12_status 2 = .ok (.iconst 4, 1) := by decide +kernel
theorem dX12_status_3 : decode cX12_status 3 = .ok (.invokestatic 271, 3) := by decide +kernel
theorem dX12_status_6 : decode cX12_status 6 = .ok (.ifCond .eq 12, 3) := by decide +kernel
theorem dX12_status_9 : decode cX12_status 9 = .ok (.aload_n 0, 1) := by decide +kernel
theorem dX12_status_10 : decode cX12_status 10 = .ok (.getfield 17, 3) := by decide +kernel
theorem dX12_status_13 : decode cX12_status 13 = .ok (.iload_n 1, 1) := by decide +kernel
theorem dX12_status_14 : decode cX12_status 14 = .ok (.iaload, 1) := by decide +kernel
theorem dX12_status_15 : decode cX12_status 15 = .ok (.goto 4, 3) := by decide +kernel
theorem dX12_status_18 : decode cX12_status 18 = .ok (.iconst (-1), 1) := by decide +kernel
theorem dX12_status_19 : decode cX12_status 19 = .ok (.ireturn, 1) := by decide +kernel
theorem dJ9_floorMod_7cf53_0 : decode cJ9_floorMod_7cf53 0 = .ok (.iload_n 0, 1) := by decide +kernel
theorem dJ9_floorMod_7cf53_1 : decode cJ9_floorMod_7cf53 1 = .ok (.iload_n 1, 1) := by decide +kernel
theorem dJ9_floorMod_7cf53_2 : decode cJ9_floorMod_7cf53 2 = .ok (.irem, 1) := by decide +kernel
theorem dJ9_floorMod_7cf53_3 : decode cJ9_floorMod_7cf53 3 = .ok (.istore_n 2, 1) := by decide +kernel
theorem dJ9_floorMod_7cf53_4 : decode cJ9_floorMod_7cf53 4 = .ok (.iload_n 0, 1) := by decide +kernel
theorem dJ9_floorMod_7cf53_5 : decode cJ9_floorMod_7cf53 5 = .ok (.iload_n 1, 1) := by decide +kernel
theorem dJ9_floorMod_7cf53_6 : decode cJ9_floorMod_7cf53 6 = .ok (.ixor, 1) := by decide +kernel
theorem dJ9_floorMod_7cf53_7 : decode cJ9_floorMod_7cf53 7 = .ok (.ifCond .ge 11, 3) := by decide +kernel
theorem dJ9_floorMod_7cf53_10 : decode cJ9_floorMod_7cf53 10 = .ok (.iload_n 2, 1) := by decide +kernel
theorem dJ9_floorMod_7cf53_11 : decode cJ9_floorMod_7cf53 11 = .ok (.ifCond .eq 7, 3) := by decide +kernel
theorem dJ9_floorMod_7cf53_14 : decode cJ9_floorMod_7cf53 14 = .ok (.iload_n 2, 1) := by decide +kernel
theorem dJ9_floorMod_7cf53_15 : decode cJ9_floorMod_7cf53 15 = .ok (.iload_n 1, 1) := by decide +kernel
theorem dJ9_floorMod_7cf53_16 : decode cJ9_floorMod_7cf53 16 = .ok (.iadd, 1) := by decide +kernel
theorem dJ9_floorMod_7cf53_17 : decode cJ9_floorMod_7cf53 17 = .ok (.ireturn, 1) := by decide +kernel
theorem dJ9_floorMod_7cf53_18 : decode cJ9_floorMod_7cf53 18 = .ok (.iload_n 2, 1) := by decide +kernel
theorem dJ9_floorMod_7cf53_19 : decode cJ9_floorMod_7cf53 19 = .ok (.ireturn, 1) := by decide +kernel
