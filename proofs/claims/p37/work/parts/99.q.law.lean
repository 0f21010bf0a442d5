theorem dL_law_0 : decode cL_law 0 = .ok (.getstatic 118, 3) := by decide +kernel
theorem dL_law_3 : decode cL_law 3 = .ok (.aload_n 0, 1) := by decide +kernel
theorem dL_law_4 : decode cL_law 4 = .ok (.iconst 0, 1) := by decide +kernel
theorem dL_law_5 : decode cL_law 5 = .ok (.iconst 4, 1) := by decide +kernel
theorem dL_law_6 : decode cL_law 6 = .ok (.invokestatic 36, 3) := by decide +kernel
theorem dL_law_9 : decode cL_law 9 = .ok (.iaload, 1) := by decide +kernel
theorem dL_law_10 : decode cL_law 10 = .ok (.istore_n 1, 1) := by decide +kernel
theorem dL_law_11 : decode cL_law 11 = .ok (.new 25, 3) := by decide +kernel
theorem dL_law_14 : decode cL_law 14 = .ok (.dup, 1) := by decide +kernel
theorem dL_law_15 : decode cL_law 15 = .ok (.invokespecial 122, 3) := by decide +kernel
theorem dL_law_18 : decode cL_law 18 = .ok (.astore_n 2, 1) := by decide +kernel
theorem dL_law_19 : decode cL_law 19 = .ok (.aload_n 0, 1) := by decide +kernel
theorem dL_law_20 : decode cL_law 20 = .ok (.iconst 3, 1) := by decide +kernel
theorem dL_law_21 : decode cL_law 21 = .ok (.iconst 1, 1) := by decide +kernel
theorem dL_law_22 : decode cL_law 22 = .ok (.aload_n 0, 1) := by decide +kernel
theorem dL_law_23 : decode cL_law 23 = .ok (.iconst 1, 1) := by decide +kernel
theorem dL_law_24 : decode cL_law 24 = .ok (.iconst 4, 1) := by decide +kernel
theorem dL_law_25 : decode cL_law 25 = .ok (.invokestatic 36, 3) := by decide +kernel
theorem dL_law_28 : decode cL_law 28 = .ok (.iadd, 1) := by decide +kernel
theorem dL_law_29 : decode cL_law 29 = .ok (.iload_n 1, 1) := by decide +kernel
theorem dL_law_30 : decode cL_law 30 = .ok (.invokestatic 123, 3) := by decide +kernel
theorem dL_law_33 : decode cL_law 33 = .ok (.astore_n 3, 1) := by decide +kernel
theorem dL_law_34 : decode cL_law 34 = .ok (.aload_n 0, 1) := by decide +kernel
theorem dL_law_35 : decode cL_law 35 = .ok (.bipush 20, 2) := by decide +kernel
theorem dL_law_37 : decode cL_law 37 = .ok (.iconst 1, 1) := by decide +kernel
theorem dL_law_38 : decode cL_law 38 = .ok (.aload_n 0, 1) := by decide +kernel
theorem dL_law_39 : decode cL_law 39 = .ok (.iconst 2, 1) := by decide +kernel
theorem dL_law_40 : decode cL_law 40 = .ok (.iconst 3, 1) := by decide +kernel
theorem dL_law_41 : decode cL_law 41 = .ok (.invokestatic 36, 3) := by decide +kernel
theorem dL_law_44 : decode cL_law 44 = .ok (.iadd, 1) := by decide +kernel
theorem dL_law_45 : decode cL_law 45 = .ok (.iload_n 1, 1) := by decide +kernel
theorem dL_law_46 : decode cL_law 46 = .ok (.invokestatic 123, 3) := by decide +kernel
theorem dL_law_49 : decode cL_law 49 = .ok (.astore 4, 2) := by decide +kernel
theorem dL_law_51 : decode cL_law 51 = .ok (.new 40, 3) := by decide +kernel
theorem dL_law_54 : decode cL_law 54 = .ok (.dup, 1) := by decide +kernel
theorem dL_law_55 : decode cL_law 55 = .ok (.invokespecial 127, 3) := by decide +kernel
theorem dL_law_58 : decode cL_law 58 = .ok (.ldc 128, 2) := by decide +kernel
theorem dL_law_60 : decode cL_law 60 = .ok (.invokevirtual 49, 3) := by decide +kernel
theorem dL_law_63 : decode cL_law 63 = .ok (.iload_n 1, 1) := by decide +kernel
theorem dL_law_64 : decode cL_law 64 = .ok (.invokevirtual 53, 3) := by decide +kernel
theorem dL_law_67 : decode cL_law 67 = .ok (.ldc 130, 2) := by decide +kernel
theorem dL_law_69 : decode cL_law 69 = .ok (.invokevirtual 49, 3) := by decide +kernel
theorem dL_law_72 : decode cL_law 72 = .ok (.aload_n 3, 1) := by decide +kernel
theorem dL_law_73 : decode cL_law 73 = .ok (.invokestatic 132, 3) := by decide +kernel
theorem dL_law_76 : decode cL_law 76 = .ok (.invokevirtual 49, 3) := by decide +kernel
theorem dL_law_79 : decode cL_law 79 = .ok (.ldc 136, 2) := by decide +kernel
theorem dL_law_81 : decode cL_law 81 = .ok (.invokevirtual 49, 3) := by decide +kernel
theorem dL_law_84 : decode cL_law 84 = .ok (.aload 4, 2) := by decide +kernel
theorem dL_law_86 : decode cL_law 86 = .ok (.invokestatic 132, 3) := by decide +kernel
theorem dL_law_89 : decode cL_law 89 = .ok (.invokevirtual 49, 3) := by decide +kernel
theorem dL_law_92 : decode cL_law 92 = .ok (.ldc 138, 2) := by decide +kernel
theorem dL_law_94 : decode cL_law 94 = .ok (.invokevirtual 49, 3) := by decide +kernel
theorem dL_law_97 : decode cL_law 97 = .ok (.invokevirtual 60, 3) := by decide +kernel
theorem dL_law_100 : decode cL_law 100 = .ok (.astore 5, 2) := by decide +kernel
theorem dL_law_102 : decode cL_law 102 = .ok (.aload 5, 2) := by decide +kernel
theorem dL_law_104 : decode cL_law 104 = .ok (.invokevirtual 8, 3) := by decide +kernel
theorem dL_law_107 : decode cL_law 107 = .ok (.sipush 980, 3) := by decide +kernel
theorem dL_law_110 : decode cL_law 110 = .ok (.if_icmp .le 5, 3) := by decide +kernel
theorem dL_law_113 : decode cL_law 113 = .ok (.iconst 1, 1) := by decide +kernel
theorem dL_law_114 : decode cL_law 114 = .ok (.ireturn, 1) := by decide +kernel
theorem dL_law_115 : decode cL_law 115 = .ok (.aload_n 2, 1) := by decide +kernel
theorem dL_law_116 : decode cL_law 116 = .ok (.aload 5, 2) := by decide +kernel
theorem dL_law_118 : decode cL_law 118 = .ok (.invokestatic 140, 3) := by decide +kernel
theorem dL_law_121 : decode cL_law 121 = .ok (.ifCond .eq 44, 3) := by decide +kernel
theorem dL_law_124 : decode cL_law 124 = .ok (.aload_n 2, 1) := by decide +kernel
theorem dL_law_125 : decode cL_law 125 = .ok (.invokevirtual 143, 3) := by decide +kernel
theorem dL_law_128 : decode cL_law 128 = .ok (.iconst 2, 1) := by decide +kernel
theorem dL_law_129 : decode cL_law 129 = .ok (.if_icmp .ne 36, 3) := by decide +kernel
theorem dL_law_132 : decode cL_law 132 = .ok (.aload_n 2, 1) := by decide +kernel
theorem dL_law_133 : decode cL_law 133 = .ok (.iconst 0, 1) := by decide +kernel
theorem dL_law_134 : decode cL_law 134 = .ok (.invokevirtual 146, 3) := by decide +kernel
theorem dL_law_137 : decode cL_law 137 = .ok (.iload_n 1, 1) := by decide +kernel
theorem dL_law_138 : decode cL_law 138 = .ok (.if_icmp .ne 27, 3) := by decide +kernel
theorem dL_law_141 : decode cL_law 141 = .ok (.aload_n 2, 1) := by decide +kernel
theorem dL_law_142 : decode cL_law 142 = .ok (.iconst 1, 1) := by decide +kernel
theorem dL_law_143 : decode cL_law 143 = .ok (.invokevirtual 146, 3) := by decide +kernel
theorem dL_law_146 : decode cL_law 146 = .ok (.iconst 2, 1) := by decide +kernel
theorem dL_law_147 : decode cL_law 147 = .ok (.if_icmp .ne 18, 3) := by decide +kernel
theorem dL_law_150 : decode cL_law 150 = .ok (.aload_n 2, 1) := by decide +kernel
theorem dL_law_151 : decode cL_law 151 = .ok (.iconst 2, 1) := by decide +kernel
theorem dL_law_152 : decode cL_law 152 = .ok (.invokevirtual 146, 3) := by decide +kernel
theorem dL_law_155 : decode cL_law 155 = .ok (.iload_n 1, 1) := by decide +kernel
theorem dL_law_156 : decode cL_law 156 = .ok (.iload_n 1, 1) := by decide +kernel
theorem dL_law_157 : decode cL_law 157 = .ok (.imul, 1) := by decide +kernel
theorem dL_law_158 : decode cL_law 158 = .ok (.iload_n 1, 1) := by decide +kernel
theorem dL_law_159 : decode cL_law 159 = .ok (.iadd, 1) := by decide +kernel
theorem dL_law_160 : decode cL_law 160 = .ok (.iconst 1, 1) := by decide +kernel
theorem dL_law_161 : decode cL_law 161 = .ok (.iadd, 1) := by decide +kernel
theorem dL_law_162 : decode cL_law 162 = .ok (.if_icmp .eq 5, 3) := by decide +kernel
theorem dL_law_165 : decode cL_law 165 = .ok (.iconst 0, 1) := by decide +kernel
theorem dL_law_166 : decode cL_law 166 = .ok (.ireturn, 1) := by decide +kernel
theorem dL_law_167 : decode cL_law 167 = .ok (.aload_n 2, 1) := by decide +kernel
theorem dL_law_168 : decode cL_law 168 = .ok (.iload_n 1, 1) := by decide +kernel
theorem dL_law_169 : decode cL_law 169 = .ok (.iconst 0, 1) := by decide +kernel
theorem dL_law_170 : decode cL_law 170 = .ok (.iconst 1, 1) := by decide +kernel
theorem dL_law_171 : decode cL_law 171 = .ok (.invokestatic 149, 3) := by decide +kernel
theorem dL_law_174 : decode cL_law 174 = .ok (.ifCond .eq 72, 3) := by decide +kernel
theorem dL_law_177 : decode cL_law 177 = .ok (.aload_n 2, 1) := by decide +kernel
theorem dL_law_178 : decode cL_law 178 = .ok (.iconst 0, 1) := by decide +kernel
theorem dL_law_179 : decode cL_law 179 = .ok (.iconst 0, 1) := by decide +kernel
theorem dL_law_180 : decode cL_law 180 = .ok (.iconst 0, 1) := by decide +kernel
theorem dL_law_181 : decode cL_law 181 = .ok (.invokevirtual 90, 3) := by decide +kernel
theorem dL_law_184 : decode cL_law 184 = .ok (.aload_n 2, 1) := by decide +kernel
theorem dL_law_185 : decode cL_law 185 = .ok (.iconst 0, 1) := by decide +kernel
theorem dL_law_186 : decode cL_law 186 = .ok (.iconst 0, 1) := by decide +kernel
theorem dL_law_187 : decode cL_law 187 = .ok (.invokevirtual 93, 3) := by decide +kernel
theorem dL_law_190 : decode cL_law 190 = .ok (.ifCond .ne 8, 3) := by decide +kernel
theorem dL_law_193 : decode cL_law 193 = .ok (.bipush (-2), 2) := by decide +kernel
theorem dL_law_195 : decode cL_law 195 = .ok (.goto 4, 3) := by decide +kernel
theorem dL_law_198 : decode cL_law 198 = .ok (.iconst 0, 1) := by decide +kernel
theorem dL_law_199 : decode cL_law 199 = .ok (.if_icmp .ne 47, 3) := by decide +kernel
theorem dL_law_202 : decode cL_law 202 = .ok (.aload_n 2, 1) := by decide +kernel
theorem dL_law_203 : decode cL_law 203 = .ok (.iconst 0, 1) := by decide +kernel
theorem dL_law_204 : decode cL_law 204 = .ok (.iconst 2, 1) := by decide +kernel
theorem dL_law_205 : decode cL_law 205 = .ok (.iconst 0, 1) := by decide +kernel
theorem dL_law_206 : decode cL_law 206 = .ok (.invokevirtual 90, 3) := by decide +kernel
theorem dL_law_209 : decode cL_law 209 = .ok (.iconst (-1), 1) := by decide +kernel
theorem dL_law_210 : decode cL_law 210 = .ok (.if_icmp .ne 36, 3) := by decide +kernel
theorem dL_law_213 : decode cL_law 213 = .ok (.aload_n 2, 1) := by decide +kernel
theorem dL_law_214 : decode cL_law 214 = .ok (.iconst 0, 1) := by decide +kernel
theorem dL_law_215 : decode cL_law 215 = .ok (.iconst 1, 1) := by decide +kernel
theorem dL_law_216 : decode cL_law 216 = .ok (.iload_n 1, 1) := by decide +kernel
theorem dL_law_217 : decode cL_law 217 = .ok (.iload_n 1, 1) := by decide +kernel
theorem dL_law_218 : decode cL_law 218 = .ok (.imul, 1) := by decide +kernel
theorem dL_law_219 : decode cL_law 219 = .ok (.iload_n 1, 1) := by decide +kernel
theorem dL_law_220 : decode cL_law 220 = .ok (.iadd, 1) := by decide +kernel
theorem dL_law_221 : decode cL_law 221 = .ok (.iconst 1, 1) := by decide +kernel
theorem dL_law_222 : decode cL_law 222 = .ok (.iadd, 1) := by decide +kernel
theorem dL_law_223 : decode cL_law 223 = .ok (.invokevirtual 99, 3) := by decide +kernel
theorem dL_law_226 : decode cL_law 226 = .ok (.iconst (-1), 1) := by decide +kernel
theorem dL_law_227 : decode cL_law 227 = .ok (.if_icmp .ne 19, 3) := by decide +kernel
theorem dL_law_230 : decode cL_law 230 = .ok (.aload_n 2, 1) := by decide +kernel
theorem dL_law_231 : decode cL_law 231 = .ok (.iconst 0, 1) := by decide +kernel
theorem dL_law_232 : decode cL_law 232 = .ok (.iconst 1, 1) := by decide +kernel
theorem dL_law_233 : decode cL_law 233 = .ok (.bipush 25, 2) := by decide +kernel
theorem dL_law_235 : decode cL_law 235 = .ok (.invokevirtual 115, 3) := by decide +kernel
theorem dL_law_238 : decode cL_law 238 = .ok (.iconst (-1), 1) := by decide +kernel
theorem dL_law_239 : decode cL_law 239 = .ok (.if_icmp .ne 7, 3) := by decide +kernel
theorem dL_law_242 : decode cL_law 242 = .ok (.iconst 1, 1) := by decide +kernel
theorem dL_law_243 : decode cL_law 243 = .ok (.goto 4, 3) := by decide +kernel
theorem dL_law_246 : decode cL_law 246 = .ok (.iconst 0, 1) := by decide +kernel
theorem dL_law_247 : decode cL_law 247 = .ok (.ireturn, 1) := by decide +kernel
