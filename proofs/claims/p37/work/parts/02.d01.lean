theorem dX4_kindOf_29 : decode cX4_kindOf 29 = .ok (.ireturn, 1) := by decide +kernel
theorem dX4_run_0 : decode cX4_run 0 = .ok (.aload_n 0, 1) := by decide +kernel
theorem dX4_run_1 : decode cX4_run 1 = .ok (.iload_n 3, 1) := by decide +kernel
theorem dX4_run_2 : decode cX4_run 2 = .ok (.putfield 28, 3) := by decide +kernel
theorem dX4_run_5 : decode cX4_run 5 = .ok (.aload_n 0, 1) := by decide +kernel
theorem dX4_run_6 : decode cX4_run 6 = .ok (.getfield 22, 3) := by decide +kernel
theorem dX4_run_9 : decode cX4_run 9 = .ok (.aload_n 1, 1) := by decide +kernel
theorem dX4_run_10 : decode cX4_run 10 = .ok (.invokestatic 31, 3) := by decide +kernel
theorem dX4_run_13 : decode cX4_run 13 = .ok (.aload_n 0, 1) := by decide +kernel
theorem dX4_run_14 : decode cX4_run 14 = .ok (.getfield 25, 3) := by decide +kernel
theorem dX4_run_17 : decode cX4_run 17 = .ok (.aload_n 2, 1) := by decide +kernel
theorem dX4_run_18 : decode cX4_run 18 = .ok (.invokestatic 31, 3) := by decide +kernel
theorem dX4_run_21 : decode cX4_run 21 = .ok (.iconst 0, 1) := by decide +kernel
theorem dX4_run_22 : decode cX4_run 22 = .ok (.istore 4, 2) := by decide +kernel
theorem dX4_run_24 : decode cX4_run 24 = .ok (.iload 4, 2) := by decide +kernel
theorem dX4_run_26 : decode cX4_run 26 = .ok (.iconst 4, 1) := by decide +kernel
theorem dX4_run_27 : decode cX4_run 27 = .ok (.if_icmp .ge 17, 3) := by decide +kernel
theorem dX4_run_30 : decode cX4_run 30 = .ok (.aload_n 0, 1) := by decide +kernel
theorem dX4_run_31 : decode cX4_run 31 = .ok (.getfield 11, 3) := by decide +kernel
theorem dX4_run_34 : decode cX4_run 34 = .ok (.iload 4, 2) := by decide +kernel
theorem dX4_run_36 : decode cX4_run 36 = .ok (.iconst 0, 1) := by decide +kernel
theorem dX4_run_37 : decode cX4_run 37 = .ok (.iastore, 1) := by decide +kernel
theorem dX4_run_38 : decode cX4_run 38 = .ok (.iinc 4 1, 3) := by decide +kernel
theorem dX4_run_41 : decode cX4_run 41 = .ok (.goto (-17), 3) := by decide +kernel
theorem dX4_run_44 : decode cX4_run 44 = .ok (.iconst 0, 1) := by decide +kernel
theorem dX4_run_45 : decode cX4_run 45 = .ok (.istore 4, 2) := by decide +kernel
theorem dX4_run_47 : decode cX4_run 47 = .ok (.aload_n 0, 1) := by decide +kernel
theorem dX4_run_48 : decode cX4_run 48 = .ok (.iconst 0, 1) := by decide +kernel
theorem dX4_run_49 : decode cX4_run 49 = .ok (.putfield 18, 3) := by decide +kernel
theorem dX4_run_52 : decode cX4_run 52 = .ok (.aload_n 0, 1) := by decide +kernel
theorem dX4_run_53 : decode cX4_run 53 = .ok (.getfield 18, 3) := by decide +kernel
theorem dX4_run_56 : decode cX4_run 56 = .ok (.sipush 2048, 3) := by decide +kernel
theorem dX4_run_59 : decode cX4_run 59 = .ok (.if_icmp .ge 124, 3) := by decide +kernel
theorem dX4_run_62 : decode cX4_run 62 = .ok (.aload_n 0, 1) := by decide +kernel
theorem dX4_run_63 : decode cX4_run 63 = .ok (.invokevirtual 35, 3) := by decide +kernel
theorem dX4_run_66 : decode cX4_run 66 = .ok (.istore 5, 2) := by decide +kernel
theorem dX4_run_68 : decode cX4_run 68 = .ok (.aload_n 0, 1) := by decide +kernel
theorem dX4_run_69 : decode cX4_run 69 = .ok (.getfield 15, 3) := by decide +kernel
theorem dX4_run_72 : decode cX4_run 72 = .ok (.aload_n 0, 1) := by decide +kernel
theorem dX4_run_73 : decode cX4_run 73 = .ok (.getfield 18, 3) := by decide +kernel
theorem dX4_run_76 : decode cX4_run 76 = .ok (.iload 5, 2) := by decide +kernel
theorem dX4_run_78 : decode cX4_run 78 = .ok (.iastore, 1) := by decide +kernel
theorem dX4_run_79 : decode cX4_run 79 = .ok (.aload_n 0, 1) := by decide +kernel
theorem dX4_run_80 : decode cX4_run 80 = .ok (.getfield 11, 3) := by decide +kernel
theorem dX4_run_83 : decode cX4_run 83 = .ok (.iload 5, 2) := by decide +kernel
theorem dX4_run_85 : decode cX4_run 85 = .ok (.dup2, 1) := by decide +kernel
theorem dX4_run_86 : decode cX4_run 86 = .ok (.iaload, 1) := by decide +kernel
theorem dX4_run_87 : decode cX4_run 87 = .ok (.iconst 1, 1) := by decide +kernel
theorem dX4_run_88 : decode cX4_run 88 = .ok (.iadd, 1) := by decide +kernel
theorem dX4_run_89 : decode cX4_run 89 = .ok (.iastore, 1) := by decide +kernel
theorem dX4_run_90 : decode cX4_run 90 = .ok (.iload 5, 2) := by decide +kernel
theorem dX4_run_92 : decode cX4_run 92 = .ok (.tableswitch 65 1 3 #[28, 51, 58], 28) := by decide +kernel
theorem dX4_run_120 : decode cX4_run 120 = .ok (.iload 4, 2) := by decide +kernel
theorem dX4_run_122 : decode cX4_run 122 = .ok (.aload_n 0, 1) := by decide +kernel
theorem dX4_run_123 : decode cX4_run 123 = .ok (.getfield 25, 3) := by decide +kernel
theorem dX4_run_126 : decode cX4_run 126 = .ok (.invokestatic 39, 3) := by decide +kernel
theorem dX4_run_129 : decode cX4_run 129 = .ok (.iconst 0, 1) := by decide +kernel
theorem dX4_run_130 : decode cX4_run 130 = .ok (.invokestatic 43, 3) := by decide +kernel
theorem dX4_run_133 : decode cX4_run 133 = .ok (.iadd, 1) := by decide +kernel
theorem dX4_run_134 : decode cX4_run 134 = .ok (.istore 4, 2) := by decide +kernel
theorem dX4_run_136 : decode cX4_run 136 = .ok (.aload_n 0, 1) := by decide +kernel
theorem dX4_run_137 : decode cX4_run 137 = .ok (.invokevirtual 49, 3) := by decide +kernel
theorem dX4_run_140 : decode cX4_run 140 = .ok (.goto 30, 3) := by decide +kernel
theorem dX4_run_143 : decode cX4_run 143 = .ok (.aload_n 0, 1) := by decide +kernel
theorem dX4_run_144 : decode cX4_run 144 = .ok (.invokevirtual 52, 3) := by decide +kernel
theorem dX4_run_147 : decode cX4_run 147 = .ok (.goto 23, 3) := by decide +kernel
theorem dX4_run_150 : decode cX4_run 150 = .ok (.aload_n 0, 1) := by decide +kernel
theorem dX4_run_151 : decode cX4_run 151 = .ok (.invokevirtual 55, 3) := by decide +kernel
theorem dX4_run_154 : decode cX4_run 154 = .ok (.goto 16, 3) := by decide +kernel
theorem dX4_run_157 : decode cX4_run 157 = .ok (.aload_n 0, 1) := by decide +kernel
theorem dX4_run_158 : decode cX4_run 158 = .ok (.dup, 1) := by decide +kernel
theorem dX4_run_159 : decode cX4_run 159 = .ok (.getfield 18, 3) := by decide +kernel
theorem dX4_run_162 : decode cX4_run 162 = .ok (.iconst 1, 1) := by decide +kernel
theorem dX4_run_163 : decode cX4_run 163 = .ok (.iadd, 1) := by decide +kernel
theorem dX4_run_164 : decode cX4_run 164 = .ok (.putfield 18, 3) := by decide +kernel
theorem dX4_run_167 : decode cX4_run 167 = .ok (.iload 4, 2) := by decide +kernel
theorem dX4_run_169 : decode cX4_run 169 = .ok (.ireturn, 1) := by decide +kernel
theorem dX4_run_170 : decode cX4_run 170 = .ok (.aload_n 0, 1) := by decide +kernel
theorem dX4_run_171 : decode cX4_run 171 = .ok (.dup, 1) := by decide +kernel
theorem dX4_run_172 : decode cX4_run 172 = .ok (.getfield 18, 3) := by decide +kernel
theorem dX4_run_175 : decode cX4_run 175 = .ok (.iconst 1, 1) := by decide +kernel
theorem dX4_run_176 : decode cX4_run 176 = .ok (.iadd, 1) := by decide +kernel
theorem dX4_run_177 : decode cX4_run 177 = .ok (.putfield 18, 3) := by decide +kernel
theorem dX4_run_180 : decode cX4_run 180 = .ok (.goto (-128), 3) := by decide +kernel
theorem dX4_run_183 : decode cX4_run 183 = .ok (.iload 4, 2) := by decide +kernel
theorem dX4_run_185 : decode cX4_run 185 = .ok (.ireturn, 1) := by decide +kernel
theorem dX4_load_0 : decode cX4_load 0 = .ok (.iconst 0, 1) := by decide +kernel
theorem dX4_load_1 : decode cX4_load 1 = .ok (.istore_n 2, 1) := by decide +kernel
theorem dX4_load_2 : decode cX4_load 2 = .ok (.iload_n 2, 1) := by decide +kernel
theorem dX4_load_3 : decode cX4_load 3 = .ok (.aload_n 0, 1) := by decide +kernel
theorem dX4_load_4 : decode cX4_load 4 = .ok (.arraylength, 1) := by decide +kernel
theorem dX4_load_5 : decode cX4_load 5 = .ok (.if_icmp .ge 13, 3) := by decide +kernel
theorem dX4_load_8 : decode cX4_load 8 = .ok (.aload_n 0, 1) := by decide +kernel
theorem dX4_load_9 : decode cX4_load 9 = .ok (.iload_n 2, 1) := by decide +kernel
theorem dX4_load_10 : decode cX4_load 10 = .ok (.iconst 0, 1) := by decide +kernel
theorem dX4_load_11 : decode cX4_load 11 = .ok (.iastore, 1) := by decide +kernel
theorem dX4_load_12 : decode cX4_load 12 = .ok (.iinc 2 1, 3) := by decide +kernel
theorem dX4_load_15 : decode cX4_load 15 = .ok (.goto (-13), 3) := by decide +kernel
theorem dX4_load_18 : decode cX4_load 18 = .ok (.iconst 0, 1) := by decide +kernel
theorem dX4_load_19 : decode cX4_load 19 = .ok (.istore_n 2, 1) := by decide +kernel
theorem dX4_load_20 : decode cX4_load 20 = .ok (.iload_n 2, 1) := by decide +kernel
theorem dX4_load_21 : decode cX4_load 21 = .ok (.iconst 4, 1) := by decide +kernel
theorem dX4_load_22 : decode cX4_load 22 = .ok (.if_icmp .gt 38, 3) := by decide +kernel
theorem dX4_load_25 : decode cX4_load 25 = .ok (.iconst 0, 1) := by decide +kernel
theorem dX4_load_26 : decode cX4_load 26 = .ok (.istore_n 3, 1) := by decide +kernel
theorem dX4_load_27 : decode cX4_load 27 = .ok (.iload_n 3, 1) := by decide +kernel
theorem dX4_load_28 : decode cX4_load 28 = .ok (.iconst 4, 1) := by decide +kernel
theorem dX4_load_29 : decode cX4_load 29 = .ok (.iload_n 2, 1) := by decide +kernel
theorem dX4_load_30 : decode cX4_load 30 = .ok (.isub, 1) := by decide +kernel
theorem dX4_load_31 : decode cX4_load 31 = .ok (.if_icmp .gt 23, 3) := by decide +kernel
theorem dX4_load_34 : decode cX4_load 34 = .ok (.aload_n 0, 1) := by decide +kernel
theorem dX4_load_35 : decode cX4_load 35 = .ok (.iload_n 2, 1) := by decide +kernel
theorem dX4_load_36 : decode cX4_load 36 = .ok (.bipush 17, 2) := by decide +kernel
theorem dX4_load_38 : decode cX4_load 38 = .ok (.imul, 1) := by decide +kernel
theorem dX4_load_39 : decode cX4_load 39 = .ok (.iload_n 3, 1) := by decide +kernel
theorem dX4_load_40 : decode cX4_load 40 = .ok (.iadd, 1) := by decide +kernel
theorem dX4_load_41 : decode cX4_load 41 = .ok (.aload_n 1, 1) := by decide +kernel
theorem dX4_load_42 : decode cX4_load 42 = .ok (.iload_n 2, 1) := by decide +kernel
theorem dX4_load_43 : decode cX4_load 43 = .ok (.iload_n 3, 1) := by decide +kernel
theorem dX4_load_44 : decode cX4_load 44 = .ok (.invokevirtual 58, 3) := by decide +kernel
theorem dX4_load_47 : decode cX4_load 47 = .ok (.iastore, 1) := by decide +kernel
theorem dX4_load_48 : decode cX4_load 48 = .ok (.iinc 3 1, 3) := by decide +kernel
theorem dX4_load_51 : decode cX4_load 51 = .ok (.goto (-24), 3) := by decide +kernel
theorem dX4_load_54 : decode cX4_load 54 = .ok (.iinc 2 1, 3) := by decide +kernel
theorem dX4_load_57 : decode cX4_load 57 = .ok (.goto (-37), 3) := by decide +kernel
theorem dX4_load_60 : decode cX4_load 60 = .ok (.return_, 1) := by decide +kernel
theorem dX4_whichFits_0 : decode cX4_whichFits 0 = .ok (.aload_n 0, 1) := by decide +kernel
theorem dX4_whichFits_1 : decode cX4_whichFits 1 = .ok (.getfield 22, 3) := by decide +kernel
theorem dX4_whichFits_4 : decode cX4_whichFits 4 = .ok (.iconst 0, 1) := by decide +kernel
theorem dX4_whichFits_5 : decode cX4_whichFits 5 = .ok (.iaload, 1) := by decide +kernel
theorem dX4_whichFits_6 : decode cX4_whichFits 6 = .ok (.ifCond .ne 12, 3) := by decide +kernel
theorem dX4_whichFits_9 : decode cX4_whichFits 9 = .ok (.aload_n 0, 1) := by decide +kernel
theorem dX4_whichFits_10 : decode cX4_whichFits 10 = .ok (.getfield 25, 3) := by decide +kernel
theorem dX4_whichFits_13 : decode cX4_whichFits 13 = .ok (.iconst 0, 1) := by decide +kernel
theorem dX4_whichFits_14 : decode cX4_whichFits 14 = .ok (.iaload, 1) := by decide +kernel
theorem dX4_whichFits_15 : decode cX4_whichFits 15 = .ok (.ifCond .eq 5, 3) := by decide +kernel
theorem dX4_whichFits_18 : decode cX4_whichFits 18 = .ok (.iconst 0, 1) := by decide +kernel
theorem dX4_whichFits_19 : decode cX4_whichFits 19 = .ok (.ireturn, 1) := by decide +kernel
theorem dX4_whichFits_20 : decode cX4_whichFits 20 = .ok (.aload_n 0, 1) := by decide +kernel
theorem dX4_whichFits_21 : decode cX4_whichFits 21 = .ok (.getfield 22, 3) := by decide +kernel
theorem dX4_whichFits_24 : decode cX4_whichFits 24 = .ok (.invokestatic 63, 3) := by decide +kernel
theorem dX4_whichFits_27 : decode cX4_whichFits 27 = .ok (.istore_n 1, 1) := by decide +kernel
theorem dX4_whichFits_28 : decode cX4_whichFits 28 = .ok (.aload_n 0, 1) := by decide +kernel
theorem dX4_whichFits_29 : decode cX4_whichFits 29 = .ok (.getfield 25, 3) := by decide +kernel
theorem dX4_whichFits_32 : decode cX4_whichFits 32 = .ok (.invokestatic 63, 3) := by decide +kernel
theorem dX4_whichFits_35 : decode cX4_whichFits 35 = .ok (.istore_n 2, 1) := by decide +kernel
theorem dX4_whichFits_36 : decode cX4_whichFits 36 = .ok (.iload_n 1, 1) := by decide +kernel
theorem dX4_whichFits_37 : decode cX4_whichFits 37 = .ok (.ifCond .ge 5, 3) := by decide +kernel
theorem dX4_whichFits_40 : decode cX4_whichFits 40 = .ok (.iconst 1, 1) := by decide +kernel
theorem dX4_whichFits_41 : decode cX4_whichFits 41 = .ok (.ireturn, 1) := by decide +kernel
theorem dX4_whichFits_42 : decode cX4_whichFits 42 = .ok (.iload_n 2, 1) := by decide +kernel
theorem dX4_whichFits_43 : decode cX4_whichFits 43 = .ok (.ifCond .lt 8, 3) := by decide +kernel
theorem dX4_whichFits_46 : decode cX4_whichFits 46 = .ok (.iload_n 1, 1) := by decide +kernel
theorem dX4_whichFits_47 : decode cX4_whichFits 47 = .ok (.iload_n 2, 1) := by decide +kernel
theorem dX4_whichFits_48 : decode cX4_whichFits 48 = .ok (.if_icmp .le 7, 3) := by decide +kernel
theorem dX4_whichFits_51 : decode cX4_whichFits 51 = .ok (.iconst 2, 1) := by decide +kernel
theorem dX4_whichFits_52 : decode cX4_whichFits 52 = .ok (.goto 4, 3) := by decide +kernel
theorem dX4_whichFits_55 : decode cX4_whichFits 55 = .ok (.iconst 3, 1) := by decide +kernel
theorem dX4_whichFits_56 : decode cX4_whichFits 56 = .ok (.ireturn, 1) := by decide +kernel
theorem dX4_greatestPure_0 : decode cX4_greatestPure 0 = .ok (.bipush 16, 2) := by decide +kernel
theorem dX4_greatestPure_2 : decode cX4_greatestPure 2 = .ok (.istore_n 1, 1) := by decide +kernel
theorem dX4_greatestPure_3 : decode cX4_greatestPure 3 = .ok (.iload_n 1, 1) := by decide +kernel
theorem dX4_greatestPure_4 : decode cX4_greatestPure 4 = .ok (.ifCond .lt 20, 3) := by decide +kernel
theorem dX4_greatestPure_7 : decode cX4_greatestPure 7 = .ok (.aload_n 0, 1) := by decide +kernel
theorem dX4_greatestPure_8 : decode cX4_greatestPure 8 = .ok (.iload_n 1, 1) := by decide +kernel
theorem dX4_greatestPure_9 : decode cX4_greatestPure 9 = .ok (.bipush 17, 2) := by decide +kernel
theorem dX4_greatestPure_11 : decode cX4_greatestPure 11 = .ok (.imul, 1) := by decide +kernel
theorem dX4_greatestPure_12 : decode cX4_greatestPure 12 = .ok (.iaload, 1) := by decide +kernel
theorem dX4_greatestPure_13 : decode cX4_greatestPure 13 = .ok (.ifCond .eq 5, 3) := by decide +kernel
theorem dX4_greatestPure_16 : decode cX4_greatestPure 16 = .ok (.iload_n 1, 1) := by decide +kernel
theorem dX4_greatestPure_17 : decode cX4_greatestPure 17 = .ok (.ireturn, 1) := by decide +kernel
theorem dX4_greatestPure_18 : decode cX4_greatestPure 18 = .ok (.iinc 1 (-1), 3) := by decide +kernel
theorem dX4_greatestPure_21 : decode cX4_greatestPure 21 = .ok (.goto (-18), 3) := by decide +kernel
theorem dX4_greatestPure_24 : decode cX4_greatestPure 24 = .ok (.iconst (-1), 1) := by decide +kernel
theorem dX4_greatestPure_25 : decode cX4_greatestPure 25 = .ok (.ireturn, 1) := by decide +kernel
theorem dX4_leastPure_0 : decode cX4_leastPure 0 = .ok (.iconst 0, 1) := by decide +kernel
theorem dX4_leastPure_1 : decode cX4_leastPure 1 = .ok (.istore_n 1, 1) := by decide +kernel
theorem dX4_leastPure_2 : decode cX4_leastPure 2 = .ok (.iload_n 1, 1) := by decide +kernel
theorem dX4_leastPure_3 : decode cX4_leastPure 3 = .ok (.bipush 16, 2) := by decide +kernel
theorem dX4_leastPure_5 : decode cX4_leastPure 5 = .ok (.if_icmp .gt 20, 3) := by decide +kernel
theorem dX4_leastPure_8 : decode cX4_leastPure 8 = .ok (.aload_n 0, 1) := by decide +kernel
theorem dX4_leastPure_9 : decode cX4_leastPure 9 = .ok (.iload_n 1, 1) := by decide +kernel
theorem dX4_leastPure_10 : decode cX4_leastPure 10 = .ok (.bipush 17, 2) := by decide +kernel
theorem dX4_leastPure_12 : decode cX4_leastPure 12 = .ok (.imul, 1) := by decide +kernel
theorem dX4_leastPure_13 : decode cX4_leastPure 13 = .ok (.iaload, 1) := by decide +kernel
theorem dX4_leastPure_14 : decode cX4_leastPure 14 = .ok (.ifCond .eq 5, 3) := by decide +kernel
theorem dX4_leastPure_17 : decode cX4_leastPure 17 = .ok (.iload_n 1, 1) := by decide +kernel
theorem dX4_leastPure_18 : decode cX4_leastPure 18 = .ok (.ireturn, 1) := by decide +kernel
theorem dX4_leastPure_19 : decode cX4_leastPure 19 = .ok (.iinc 1 1, 3) := by decide +kernel
theorem dX4_leastPure_22 : decode cX4_leastPure 22 = .ok (.goto (-20), 3) := by decide +kernel
theorem dX4_leastPure_25 : decode cX4_leastPure 25 = .ok (.iconst (-1), 1) := by decide +kernel
theorem dX4_leastPure_26 : decode cX4_leastPure 26 = .ok (.ireturn, 1) := by decide +kernel
theorem dX4_split_0 : decode cX4_split 0 = .ok (.iconst 0, 1) := by decide +kernel
theorem dX4_split_1 : decode cX4_split 1 = .ok (.istore_n 1, 1) := by decide +kernel
theorem dX4_split_2 : decode cX4_split 2 = .ok (.iload_n 1, 1) := by decide +kernel
theorem dX4_split_3 : decode cX4_split 3 = .ok (.bipush 16, 2) := by decide +kernel
theorem dX4_split_5 : decode cX4_split 5 = .ok (.if_icmp .gt 60, 3) := by decide +kernel
theorem dX4_split_8 : decode cX4_split 8 = .ok (.iconst 0, 1) := by decide +kernel
theorem dX4_split_9 : decode cX4_split 9 = .ok (.istore_n 2, 1) := by decide +kernel
theorem dX4_split_10 : decode cX4_split 10 = .ok (.iload_n 2, 1) := by decide +kernel
theorem dX4_split_11 : decode cX4_split 11 = .ok (.bipush 16, 2) := by decide +kernel
theorem dX4_split_13 : decode cX4_split 13 = .ok (.if_icmp .ge 33, 3) := by decide +kernel
theorem dX4_split_16 : decode cX4_split 16 = .ok (.aload_n 0, 1) := by decide +kernel
theorem dX4_split_17 : decode cX4_split 17 = .ok (.getfield 22, 3) := by decide +kernel
theorem dX4_split_20 : decode cX4_split 20 = .ok (.iload_n 1, 1) := by decide +kernel
theorem dX4_split_21 : decode cX4_split 21 = .ok (.bipush 17, 2) := by decide +kernel
theorem dX4_split_23 : decode cX4_split 23 = .ok (.imul, 1) := by decide +kernel
theorem dX4_split_24 : decode cX4_split 24 = .ok (.iload_n 2, 1) := by decide +kernel
theorem dX4_split_25 : decode cX4_split 25 = .ok (.iadd, 1) := by decide +kernel
theorem dX4_split_26 : decode cX4_split 26 = .ok (.aload_n 0, 1) := by decide +kernel
theorem dX4_split_27 : decode cX4_split 27 = .ok (.getfield 22, 3) := by decide +kernel
theorem dX4_split_30 : decode cX4_split 30 = .ok (.iload_n 1, 1) := by decide +kernel
theorem dX4_split_31 : decode cX4_split 31 = .ok (.bipush 17, 2) := by decide +kernel
theorem dX4_split_33 : decode cX4_split 33 = .ok (.imul, 1) := by decide +kernel
theorem dX4_split_34 : decode cX4_split 34 = .ok (.iload_n 2, 1) := by decide +kernel
theorem dX4_split_35 : decode cX4_split 35 = .ok (.iadd, 1) := by decide +kernel
theorem dX4_split_36 : decode cX4_split 36 = .ok (.iconst 1, 1) := by decide +kernel
theorem dX4_split_37 : decode cX4_split 37 = .ok (.iadd, 1) := by decide +kernel
theorem dX4_split_38 : decode cX4_split 38 = .ok (.iaload, 1) := by decide +kernel
theorem dX4_split_39 : decode cX4_split 39 = .ok (.iastore, 1) := by decide +kernel
theorem dX4_split_40 : decode cX4_split 40 = .ok (.iinc 2 1, 3) := by decide +kernel
theorem dX4_split_43 : decode cX4_split 43 = .ok (.goto (-33), 3) := by decide +kernel
theorem dX4_split_46 : decode cX4_split 46 = .ok (.aload_n 0, 1) := by decide +kernel
theorem dX4_split_47 : decode cX4_split 47 = .ok (.getfield 22, 3) := by decide +kernel
theorem dX4_split_50 : decode cX4_split 50 = .ok (.iload_n 1, 1) := by decide +kernel
theorem dX4_split_51 : decode cX4_split 51 = .ok (.bipush 17, 2) := by decide +kernel
theorem dX4_split_53 : decode cX4_split 53 = .ok (.imul, 1) := by decide +kernel
theorem dX4_split_54 : decode cX4_split 54 = .ok (.bipush 16, 2) := by decide +kernel
theorem dX4_split_56 : decode cX4_split 56 = .ok (.iadd, 1) := by decide +kernel
theorem dX4_split_57 : decode cX4_split 57 = .ok (.iconst 0, 1) := by decide +kernel
theorem dX4_split_58 : decode cX4_split 58 = .ok (.iastore, 1) := by decide +kernel
theorem dX4_split_59 : decode cX4_split 59 = .ok (.iinc 1 1, 3) := by decide +kernel
theorem dX4_split_62 : decode cX4_split 62 = .ok (.goto (-60), 3) := by decide +kernel
theorem dX4_split_65 : decode cX4_split 65 = .ok (.return_, 1) := by decide +kernel
theorem dX4_swap_0 : decode cX4_swap 0 = .ok (.aload_n 0, 1) := by decide +kernel
theorem dX4_swap_1 : decode cX4_swap 1 = .ok (.getfield 22, 3) := by decide +kernel
theorem dX4_swap_4 : decode cX4_swap 4 = .ok (.astore_n 1, 1) := by decide +kernel
theorem dX4_swap_5 : decode cX4_swap 5 = .ok (.aload_n 0, 1) := by decide +kernel
theorem dX4_swap_6 : decode cX4_swap 6 = .ok (.aload_n 0, 1) := by decide +kernel
theorem dX4_swap_7 : decode cX4_swap 7 = .ok (.getfield 25, 3) := by decide +kernel
theorem dX4_swap_10 : decode cX4_swap 10 = .ok (.putfield 22, 3) := by decide +kernel
theorem dX4_swap_13 : decode cX4_swap 13 = .ok (.aload_n 0, 1) := by decide +kernel
theorem dX4_swap_14 : decode cX4_swap 14 = .ok (.aload_n 1, 1) := by decide +kernel
theorem dX4_swap_15 : decode cX4_swap 15 = .ok (.putfield 25, 3) := by decide +kernel
theorem dX4_swap_18 : decode cX4_swap 18 = .ok (.return_, 1) := by decide +kernel
theorem dX4_cut_0 : decode cX4_cut 0 = .ok (.aload_n 0, 1) := by decide +kernel
theorem dX4_cut_1 : decode cX4_cut 1 = .ok (.getfield 22, 3) := by decide +kernel
theorem dX4_cut_4 : decode cX4_cut 4 = .ok (.invokestatic 63, 3) := by decide +kernel
theorem dX4_cut_7 : decode cX4_cut 7 = .ok (.istore_n 1, 1) := by decide +kernel
theorem dX4_cut_8 : decode cX4_cut 8 = .ok (.aload_n 0, 1) := by decide +kernel
theorem dX4_cut_9 : decode cX4_cut 9 = .ok (.getfield 25, 3) := by decide +kernel
theorem dX4_cut_12 : decode cX4_cut 12 = .ok (.invokestatic 63, 3) := by decide +kernel
theorem dX4_cut_15 : decode cX4_cut 15 = .ok (.istore_n 2, 1) := by decide +kernel
theorem dX4_cut_16 : decode cX4_cut 16 = .ok (.aload_n 0, 1) := by decide +kernel
theorem dX4_cut_17 : decode cX4_cut 17 = .ok (.getfield 28, 3) := by decide +kernel
theorem dX4_cut_20 : decode cX4_cut 20 = .ok (.iconst 2, 1) := by decide +kernel
theorem dX4_cut_21 : decode cX4_cut 21 = .ok (.if_icmp .lt 12, 3) := by decide +kernel
theorem dX4_cut_24 : decode cX4_cut 24 = .ok (.iload_n 1, 1) := by decide +kernel
theorem dX4_cut_25 : decode cX4_cut 25 = .ok (.ifCond .lt 8, 3) := by decide +kernel
theorem dX4_cut_28 : decode cX4_cut 28 = .ok (.iload_n 2, 1) := by decide +kernel
theorem dX4_cut_29 : decode cX4_cut 29 = .ok (.iload_n 1, 1) := by decide +kernel
theorem dX4_cut_30 : decode cX4_cut 30 = .ok (.if_icmp .ge 4, 3) := by decide +kernel
theorem dX4_cut_33 : decode cX4_cut 33 = .ok (.return_, 1) := by decide +kernel
theorem dX4_cut_34 : decode cX4_cut 34 = .ok (.iload_n 2, 1) := by decide +kernel
theorem dX4_cut_35 : decode cX4_cut 35 = .ok (.iload_n 1, 1) := by decide +kernel
theorem dX4_cut_36 : decode cX4_cut 36 = .ok (.isub, 1) := by decide +kernel
theorem dX4_cut_37 : decode cX4_cut 37 = .ok (.istore_n 3, 1) := by decide +kernel
theorem dX4_cut_38 : decode cX4_cut 38 = .ok (.aload_n 0, 1) := by decide +kernel
theorem dX4_cut_39 : decode cX4_cut 39 = .ok (.getfield 25, 3) := by decide +kernel
theorem dX4_cut_42 : decode cX4_cut 42 = .ok (.iload_n 2, 1) := by decide +kernel
theorem dX4_cut_43 : decode cX4_cut 43 = .ok (.bipush 17, 2) := by decide +kernel
theorem dX4_cut_45 : decode cX4_cut 45 = .ok (.imul, 1) := by decide +kernel
theorem dX4_cut_46 : decode cX4_cut 46 = .ok (.iaload, 1) := by decide +kernel
theorem dX4_cut_47 : decode cX4_cut 47 = .ok (.aload_n 0, 1) := by decide +kernel
theorem dX4_cut_48 : decode cX4_cut 48 = .ok (.getfield 22, 3) := by decide +kernel
theorem dX4_cut_51 : decode cX4_cut 51 = .ok (.iload_n 1, 1) := by decide +kernel
theorem dX4_cut_52 : decode cX4_cut 52 = .ok (.bipush 17, 2) := by decide +kernel
theorem dX4_cut_54 : decode cX4_cut 54 = .ok (.imul, 1) := by decide +kernel
theorem dX4_cut_55 : decode cX4_cut 55 = .ok (.iaload, 1) := by decide +kernel
theorem dX4_cut_56 : decode cX4_cut 56 = .ok (.aload_n 0, 1) := by decide +kernel
theorem dX4_cut_57 : decode cX4_cut 57 = .ok (.getfield 28, 3) := by decide +kernel
theorem dX4_cut_60 : decode cX4_cut 60 = .ok (.invokestatic 66, 3) := by decide +kernel
theorem dX4_cut_63 : decode cX4_cut 63 = .ok (.imul, 1) := by decide +kernel
theorem dX4_cut_64 : decode cX4_cut 64 = .ok (.aload_n 0, 1) := by decide +kernel
theorem dX4_cut_65 : decode cX4_cut 65 = .ok (.getfield 28, 3) := by decide +kernel
theorem dX4_cut_68 : decode cX4_cut 68 = .ok (.invokestatic 69, 3) := by decide +kernel
theorem dX4_cut_71 : decode cX4_cut 71 = .ok (.istore 4, 2) := by decide +kernel
theorem dX4_cut_73 : decode cX4_cut 73 = .ok (.aload_n 0, 1) := by decide +kernel
theorem dX4_cut_74 : decode cX4_cut 74 = .ok (.getfield 28, 3) := by decide +kernel
theorem dX4_cut_77 : decode cX4_cut 77 = .ok (.iload 4, 2) := by decide +kernel
theorem dX4_cut_79 : decode cX4_cut 79 = .ok (.isub, 1) := by decide +kernel
theorem dX4_cut_80 : decode cX4_cut 80 = .ok (.istore 5, 2) := by decide +kernel
theorem dX4_cut_82 : decode cX4_cut 82 = .ok (.iload_n 3, 1) := by decide +kernel
theorem dX4_cut_83 : decode cX4_cut 83 = .ok (.istore 6, 2) := by decide +kernel
theorem dX4_cut_85 : decode cX4_cut 85 = .ok (.iload 6, 2) := by decide +kernel
theorem dX4_cut_87 : decode cX4_cut 87 = .ok (.bipush 16, 2) := by decide +kernel
theorem dX4_cut_89 : decode cX4_cut 89 = .ok (.if_icmp .gt 87, 3) := by decide +kernel
theorem dX4_cut_92 : decode cX4_cut 92 = .ok (.iconst 0, 1) := by decide +kernel
theorem dX4_cut_93 : decode cX4_cut 93 = .ok (.istore 7, 2) := by decide +kernel
theorem dX4_cut_95 : decode cX4_cut 95 = .ok (.iload 7, 2) := by decide +kernel
theorem dX4_cut_97 : decode cX4_cut 97 = .ok (.bipush 16, 2) := by decide +kernel
theorem dX4_cut_99 : decode cX4_cut 99 = .ok (.iload 6, 2) := by decide +kernel
theorem dX4_cut_101 : decode cX4_cut 101 = .ok (.isub, 1) := by decide +kernel
theorem dX4_cut_102 : decode cX4_cut 102 = .ok (.if_icmp .gt 68, 3) := by decide +kernel
theorem dX4_cut_105 : decode cX4_cut 105 = .ok (.aload_n 0, 1) := by decide +kernel
theorem dX4_cut_106 : decode cX4_cut 106 = .ok (.getfield 22, 3) := by decide +kernel
theorem dX4_cut_109 : decode cX4_cut 109 = .ok (.iload 6, 2) := by decide +kernel
theorem dX4_cut_111 : decode cX4_cut 111 = .ok (.iload_n 3, 1) := by decide +kernel
theorem dX4_cut_112 : decode cX4_cut 112 = .ok (.isub, 1) := by decide +kernel
theorem dX4_cut_113 : decode cX4_cut 113 = .ok (.bipush 17, 2) := by decide +kernel
theorem dX4_cut_115 : decode cX4_cut 115 = .ok (.imul, 1) := by decide +kernel
theorem dX4_cut_116 : decode cX4_cut 116 = .ok (.iload 7, 2) := by decide +kernel
theorem dX4_cut_118 : decode cX4_cut 118 = .ok (.iadd, 1) := by decide +kernel
theorem dX4_cut_119 : decode cX4_cut 119 = .ok (.iaload, 1) := by decide +kernel
theorem dX4_cut_120 : decode cX4_cut 120 = .ok (.istore 8, 2) := by decide +kernel
theorem dX4_cut_122 : decode cX4_cut 122 = .ok (.iload 8, 2) := by decide +kernel
theorem dX4_cut_124 : decode cX4_cut 124 = .ok (.ifCond .eq 40, 3) := by decide +kernel
theorem dX4_cut_127 : decode cX4_cut 127 = .ok (.aload_n 0, 1) := by decide +kernel
theorem dX4_cut_128 : decode cX4_cut 128 = .ok (.getfield 25, 3) := by decide +kernel
theorem dX4_cut_131 : decode cX4_cut 131 = .ok (.iload 6, 2) := by decide +kernel
theorem dX4_cut_133 : decode cX4_cut 133 = .ok (.bipush 17, 2) := by decide +kernel
theorem dX4_cut_135 : decode cX4_cut 135 = .ok (.imul, 1) := by decide +kernel
theorem dX4_cut_136 : decode cX4_cut 136 = .ok (.iload 7, 2) := by decide +kernel
theorem dX4_cut_138 : decode cX4_cut 138 = .ok (.iadd, 1) := by decide +kernel
theorem dX4_cut_139 : decode cX4_cut 139 = .ok (.aload_n 0, 1) := by decide +kernel
theorem dX4_cut_140 : decode cX4_cut 140 = .ok (.getfield 25, 3) := by decide +kernel
theorem dX4_cut_143 : decode cX4_cut 143 = .ok (.iload 6, 2) := by decide +kernel
theorem dX4_cut_145 : decode cX4_cut 145 = .ok (.bipush 17, 2) := by decide +kernel
theorem dX4_cut_147 : decode cX4_cut 147 = .ok (.imul, 1) := by decide +kernel
theorem dX4_cut_148 : decode cX4_cut 148 = .ok (.iload 7, 2) := by decide +kernel
theorem dX4_cut_150 : decode cX4_cut 150 = .ok (.iadd, 1) := by decide +kernel
theorem dX4_cut_151 : decode cX4_cut 151 = .ok (.iaload, 1) := by decide +kernel
theorem dX4_cut_152 : decode cX4_cut 152 = .ok (.iload 5, 2) := by decide +kernel
theorem dX4_cut_154 : decode cX4_cut 154 = .ok (.iload 8, 2) := by decide +kernel
theorem dX4_cut_156 : decode cX4_cut 156 = .ok (.imul, 1) := by decide +kernel
theorem dX4_cut_157 : decode cX4_cut 157 = .ok (.iadd, 1) := by decide +kernel
theorem dX4_cut_158 : decode cX4_cut 158 = .ok (.aload_n 0, 1) := by decide +kernel
theorem dX4_cut_159 : decode cX4_cut 159 = .ok (.getfield 28, 3) := by decide +kernel
theorem dX4_cut_162 : decode cX4_cut 162 = .ok (.irem, 1) := by decide +kernel
theorem dX4_cut_163 : decode cX4_cut 163 = .ok (.iastore, 1) := by decide +kernel
theorem dX4_cut_164 : decode cX4_cut 164 = .ok (.iinc 7 1, 3) := by decide +kernel
theorem dX4_cut_167 : decode cX4_cut 167 = .ok (.goto (-72), 3) := by decide +kernel
theorem dX4_cut_170 : decode cX4_cut 170 = .ok (.iinc 6 1, 3) := by decide +kernel
theorem dX4_cut_173 : decode cX4_cut 173 = .ok (.goto (-88), 3) := by decide +kernel
theorem dX4_cut_176 : decode cX4_cut 176 = .ok (.return_, 1) := by decide +kernel
theorem dX5_init_0 : decode cX5_init 0 = .ok (.aload_n 0, 1) := by decide +kernel
theorem dX5_init_1 : decode cX5_init 1 = .ok (.invokespecial 5, 3) := by decide +kernel
theorem dX5_init_4 : decode cX5_init 4 = .ok (.aload_n 0, 1) := by decide +kernel
theorem dX5_init_5 : decode cX5_init 5 = .ok (.sipush 625, 3) := by decide +kernel
theorem dX5_init_8 : decode cX5_init 8 = .ok (.newarray .int, 2) := by decide +kernel
theorem dX5_init_10 : decode cX5_init 10 = .ok (.putfield 11, 3) := by decide +kernel
theorem dX5_init_13 : decode cX5_init 13 = .ok (.aload_n 0, 1) := by decide +kernel
theorem dX5_init_14 : decode cX5_init 14 = .ok (.sipush 625, 3) := by decide +kernel
theorem dX5_init_17 : decode cX5_init 17 = .ok (.newarray .int, 2) := by decide +kernel
theorem dX5_init_19 : decode cX5_init 19 = .ok (.putfield 15, 3) := by decide +kernel
theorem dX5_init_22 : decode cX5_init 22 = .ok (.aload_n 0, 1) := by decide +kernel
theorem dX5_init_23 : decode cX5_init 23 = .ok (.bipush 94, 2) := by decide +kernel
theorem dX5_init_25 : decode cX5_init 25 = .ok (.newarray .int, 2) := by decide +kernel
theorem dX5_init_27 : decode cX5_init 27 = .ok (.putfield 20, 3) := by decide +kernel
theorem dX5_init_30 : decode cX5_init 30 = .ok (.aload_n 0, 1) := by decide +kernel
theorem dX5_init_31 : decode cX5_init 31 = .ok (.new 23, 3) := by decide +kernel
theorem dX5_init_34 : decode cX5_init 34 = .ok (.dup, 1) := by decide +kernel
theorem dX5_init_35 : decode cX5_init 35 = .ok (.invokespecial 25, 3) := by decide +kernel
theorem dX5_init_38 : decode cX5_init 38 = .ok (.putfield 26, 3) := by decide +kernel
theorem dX5_init_41 : decode cX5_init 41 = .ok (.aload_n 0, 1) := by decide +kernel
theorem dX5_init_42 : decode cX5_init 42 = .ok (.bipush 7, 2) := by decide +kernel
theorem dX5_init_44 : decode cX5_init 44 = .ok (.putfield 30, 3) := by decide +kernel
theorem dX5_init_47 : decode cX5_init 47 = .ok (.aload_n 0, 1) := by decide +kernel
theorem dX5_init_48 : decode cX5_init 48 = .ok (.bipush 24, 2) := by decide +kernel
theorem dX5_init_50 : decode cX5_init 50 = .ok (.putfield 34, 3) := by decide +kernel
theorem dX5_init_53 : decode cX5_init 53 = .ok (.aload_n 0, 1) := by decide +kernel
theorem dX5_init_54 : decode cX5_init 54 = .ok (.iconst 0, 1) := by decide +kernel
theorem dX5_init_55 : decode cX5_init 55 = .ok (.putfield 37, 3) := by decide +kernel
theorem dX5_init_58 : decode cX5_init 58 = .ok (.aload_n 0, 1) := by decide +kernel
theorem dX5_init_59 : decode cX5_init 59 = .ok (.iconst 0, 1) := by decide +kernel
theorem dX5_init_60 : decode cX5_init 60 = .ok (.putfield 41, 3) := by decide +kernel
theorem dX5_init_63 : decode cX5_init 63 = .ok (.aload_n 0, 1) := by decide +kernel
theorem dX5_init_64 : decode cX5_init 64 = .ok (.iconst 0, 1) := by decide +kernel
theorem dX5_init_65 : decode cX5_init 65 = .ok (.putfield 44, 3) := by decide +kernel
theorem dX5_init_68 : decode cX5_init 68 = .ok (.aload_n 0, 1) := by decide +kernel
theorem dX5_init_69 : decode cX5_init 69 = .ok (.iconst 0, 1) := by decide +kernel
theorem dX5_init_70 : decode cX5_init 70 = .ok (.putfield 47, 3) := by decide +kernel
theorem dX5_init_73 : decode cX5_init 73 = .ok (.aload_n 0, 1) := by decide +kernel
theorem dX5_init_74 : decode cX5_init 74 = .ok (.aload_n 1, 1) := by decide +kernel
theorem dX5_init_75 : decode cX5_init 75 = .ok (.putfield 50, 3) := by decide +kernel
theorem dX5_init_78 : decode cX5_init 78 = .ok (.return_, 1) := by decide +kernel
theorem dX5_sizeOf_0 : decode cX5_sizeOf 0 = .ok (.aload_n 0, 1) := by decide +kernel
theorem dX5_sizeOf_1 : decode cX5_sizeOf 1 = .ok (.aload_n 1, 1) := by decide +kernel
theorem dX5_sizeOf_2 : decode cX5_sizeOf 2 = .ok (.bipush 16, 2) := by decide +kernel
theorem dX5_sizeOf_4 : decode cX5_sizeOf 4 = .ok (.iconst 1, 1) := by decide +kernel
theorem dX5_sizeOf_5 : decode cX5_sizeOf 5 = .ok (.iload_n 3, 1) := by decide +kernel
theorem dX5_sizeOf_6 : decode cX5_sizeOf 6 = .ok (.invokevirtual 54, 3) := by decide +kernel
theorem dX5_sizeOf_9 : decode cX5_sizeOf 9 = .ok (.aload_n 0, 1) := by decide +kernel
theorem dX5_sizeOf_10 : decode cX5_sizeOf 10 = .ok (.getfield 47, 3) := by decide +kernel
theorem dX5_sizeOf_13 : decode cX5_sizeOf 13 = .ok (.aload_n 0, 1) := by decide +kernel
theorem dX5_sizeOf_14 : decode cX5_sizeOf 14 = .ok (.aload_n 2, 1) := by decide +kernel
theorem dX5_sizeOf_15 : decode cX5_sizeOf 15 = .ok (.bipush 16, 2) := by decide +kernel
theorem dX5_sizeOf_17 : decode cX5_sizeOf 17 = .ok (.invokevirtual 58, 3) := by decide +kernel
theorem dX5_sizeOf_20 : decode cX5_sizeOf 20 = .ok (.isub, 1) := by decide +kernel
theorem dX5_sizeOf_21 : decode cX5_sizeOf 21 = .ok (.ireturn, 1) := by decide +kernel
theorem dX5_nearOf_0 : decode cX5_nearOf 0 = .ok (.aload_n 0, 1) := by decide +kernel
theorem dX5_nearOf_1 : decode cX5_nearOf 1 = .ok (.aload_n 1, 1) := by decide +kernel
theorem dX5_nearOf_2 : decode cX5_nearOf 2 = .ok (.bipush 24, 2) := by decide +kernel
theorem dX5_nearOf_4 : decode cX5_nearOf 4 = .ok (.iconst 0, 1) := by decide +kernel
theorem dX5_nearOf_5 : decode cX5_nearOf 5 = .ok (.iload_n 3, 1) := by decide +kernel
theorem dX5_nearOf_6 : decode cX5_nearOf 6 = .ok (.invokevirtual 54, 3) := by decide +kernel
theorem dX5_nearOf_9 : decode cX5_nearOf 9 = .ok (.aload_n 0, 1) := by decide +kernel
theorem dX5_nearOf_10 : decode cX5_nearOf 10 = .ok (.aload_n 2, 1) := by decide +kernel
theorem dX5_nearOf_11 : decode cX5_nearOf 11 = .ok (.bipush 24, 2) := by decide +kernel
theorem dX5_nearOf_13 : decode cX5_nearOf 13 = .ok (.aload_n 2, 1) := by decide +kernel
theorem dX5_nearOf_14 : decode cX5_nearOf 14 = .ok (.invokevirtual 62, 3) := by decide +kernel
theorem dX5_nearOf_17 : decode cX5_nearOf 17 = .ok (.isub, 1) := by decide +kernel
theorem dX5_nearOf_18 : decode cX5_nearOf 18 = .ok (.invokevirtual 58, 3) := by decide +kernel
theorem dX5_nearOf_21 : decode cX5_nearOf 21 = .ok (.pop, 1) := by decide +kernel
theorem dX5_nearOf_22 : decode cX5_nearOf 22 = .ok (.iconst 0, 1) := by decide +kernel
theorem dX5_nearOf_23 : decode cX5_nearOf 23 = .ok (.istore 4, 2) := by decide +kernel
theorem dX5_nearOf_25 : decode cX5_nearOf 25 = .ok (.iconst 0, 1) := by decide +kernel
theorem dX5_nearOf_26 : decode cX5_nearOf 26 = .ok (.istore 5, 2) := by decide +kernel
theorem dX5_nearOf_28 : decode cX5_nearOf 28 = .ok (.iload 5, 2) := by decide +kernel
theorem dX5_nearOf_30 : decode cX5_nearOf 30 = .ok (.bipush 8, 2) := by decide +kernel
theorem dX5_nearOf_32 : decode cX5_nearOf 32 = .ok (.if_icmp .gt 84, 3) := by decide +kernel
theorem dX5_nearOf_35 : decode cX5_nearOf 35 = .ok (.iconst 0, 1) := by decide +kernel
theorem dX5_nearOf_36 : decode cX5_nearOf 36 = .ok (.istore 6, 2) := by decide +kernel
theorem dX5_nearOf_38 : decode cX5_nearOf 38 = .ok (.iload 6, 2) := by decide +kernel
theorem dX5_nearOf_40 : decode cX5_nearOf 40 = .ok (.bipush 8, 2) := by decide +kernel
theorem dX5_nearOf_42 : decode cX5_nearOf 42 = .ok (.iload 5, 2) := by decide +kernel
theorem dX5_nearOf_44 : decode cX5_nearOf 44 = .ok (.isub, 1) := by decide +kernel
theorem dX5_nearOf_45 : decode cX5_nearOf 45 = .ok (.if_icmp .gt 65, 3) := by decide +kernel
theorem dX5_nearOf_48 : decode cX5_nearOf 48 = .ok (.aload_n 0, 1) := by decide +kernel
theorem dX5_nearOf_49 : decode cX5_nearOf 49 = .ok (.getfield 15, 3) := by decide +kernel
theorem dX5_nearOf_52 : decode cX5_nearOf 52 = .ok (.iload 5, 2) := by decide +kernel
theorem dX5_nearOf_54 : decode cX5_nearOf 54 = .ok (.bipush 25, 2) := by decide +kernel
theorem dX5_nearOf_56 : decode cX5_nearOf 56 = .ok (.imul, 1) := by decide +kernel
theorem dX5_nearOf_57 : decode cX5_nearOf 57 = .ok (.iload 6, 2) := by decide +kernel
theorem dX5_nearOf_59 : decode cX5_nearOf 59 = .ok (.iadd, 1) := by decide +kernel
theorem dX5_nearOf_60 : decode cX5_nearOf 60 = .ok (.iaload, 1) := by decide +kernel
theorem dX5_nearOf_61 : decode cX5_nearOf 61 = .ok (.istore 7, 2) := by decide +kernel
theorem dX5_nearOf_63 : decode cX5_nearOf 63 = .ok (.iload 7, 2) := by decide +kernel
theorem dX5_nearOf_65 : decode cX5_nearOf 65 = .ok (.ifCond .lt 39, 3) := by decide +kernel
theorem dX5_nearOf_68 : decode cX5_nearOf 68 = .ok (.aload_n 0, 1) := by decide +kernel
theorem dX5_nearOf_69 : decode cX5_nearOf 69 = .ok (.invokevirtual 65, 3) := by decide +kernel
theorem dX5_nearOf_72 : decode cX5_nearOf 72 = .ok (.aload_n 0, 1) := by decide +kernel
theorem dX5_nearOf_73 : decode cX5_nearOf 73 = .ok (.getfield 20, 3) := by decide +kernel
theorem dX5_nearOf_76 : decode cX5_nearOf 76 = .ok (.iload 7, 2) := by decide +kernel
theorem dX5_nearOf_78 : decode cX5_nearOf 78 = .ok (.iconst 1, 1) := by decide +kernel
theorem dX5_nearOf_79 : decode cX5_nearOf 79 = .ok (.iastore, 1) := by decide +kernel
theorem dX5_nearOf_80 : decode cX5_nearOf 80 = .ok (.iload 4, 2) := by decide +kernel
theorem dX5_nearOf_82 : decode cX5_nearOf 82 = .ok (.aload_n 0, 1) := by decide +kernel
theorem dX5_nearOf_83 : decode cX5_nearOf 83 = .ok (.getfield 50, 3) := by decide +kernel
theorem dX5_nearOf_86 : decode cX5_nearOf 86 = .ok (.aload_n 0, 1) := by decide +kernel
theorem dX5_nearOf_87 : decode cX5_nearOf 87 = .ok (.getfield 20, 3) := by decide +kernel
theorem dX5_nearOf_90 : decode cX5_nearOf 90 = .ok (.invokevirtual 68, 3) := by decide +kernel
theorem dX5_nearOf_93 : decode cX5_nearOf 93 = .ok (.ifCond .eq 7, 3) := by decide +kernel
theorem dX5_nearOf_96 : decode cX5_nearOf 96 = .ok (.iconst 1, 1) := by decide +kernel
theorem dX5_nearOf_97 : decode cX5_nearOf 97 = .ok (.goto 4, 3) := by decide +kernel
theorem dX5_nearOf_100 : decode cX5_nearOf 100 = .ok (.iconst 0, 1) := by decide +kernel
theorem dX5_nearOf_101 : decode cX5_nearOf 101 = .ok (.iadd, 1) := by decide +kernel
theorem dX5_nearOf_102 : decode cX5_nearOf 102 = .ok (.istore 4, 2) := by decide +kernel
theorem dX5_nearOf_104 : decode cX5_nearOf 104 = .ok (.iinc 6 1, 3) := by decide +kernel
theorem dX5_nearOf_107 : decode cX5_nearOf 107 = .ok (.goto (-69), 3) := by decide +kernel
theorem dX5_nearOf_110 : decode cX5_nearOf 110 = .ok (.iinc 5 1, 3) := by decide +kernel
theorem dX5_nearOf_113 : decode cX5_nearOf 113 = .ok (.goto (-85), 3) := by decide +kernel
theorem dX5_nearOf_116 : decode cX5_nearOf 116 = .ok (.iload 4, 2) := by decide +kernel
theorem dX5_nearOf_118 : decode cX5_nearOf 118 = .ok (.ireturn, 1) := by decide +kernel
theorem dX5_begin_0 : decode cX5_begin 0 = .ok (.aload_n 0, 1) := by decide +kernel
theorem dX5_begin_1 : decode cX5_begin 1 = .ok (.aload_n 1, 1) := by decide +kernel
theorem dX5_begin_2 : decode cX5_begin 2 = .ok (.putfield 26, 3) := by decide +kernel
theorem dX5_begin_5 : decode cX5_begin 5 = .ok (.aload_n 0, 1) := by decide +kernel
theorem dX5_begin_6 : decode cX5_begin 6 = .ok (.iload_n 2, 1) := by decide +kernel
theorem dX5_begin_7 : decode cX5_begin 7 = .ok (.putfield 34, 3) := by decide +kernel
theorem dX5_begin_10 : decode cX5_begin 10 = .ok (.aload_n 0, 1) := by decide +kernel
theorem dX5_begin_11 : decode cX5_begin 11 = .ok (.iload_n 3, 1) := by decide +kernel
theorem dX5_begin_12 : decode cX5_begin 12 = .ok (.putfield 37, 3) := by decide +kernel
theorem dX5_begin_15 : decode cX5_begin 15 = .ok (.aload_n 0, 1) := by decide +kernel
theorem dX5_begin_16 : decode cX5_begin 16 = .ok (.iload 4, 2) := by decide +kernel
theorem dX5_begin_18 : decode cX5_begin 18 = .ok (.putfield 30, 3) := by decide +kernel
theorem dX5_begin_21 : decode cX5_begin 21 = .ok (.aload_n 0, 1) := by decide +kernel
theorem dX5_begin_22 : decode cX5_begin 22 = .ok (.invokevirtual 72, 3) := by decide +kernel
theorem dX5_begin_25 : decode cX5_begin 25 = .ok (.aload_n 0, 1) := by decide +kernel
theorem dX5_begin_26 : decode cX5_begin 26 = .ok (.iconst 0, 1) := by decide +kernel
theorem dX5_begin_27 : decode cX5_begin 27 = .ok (.putfield 47, 3) := by decide +kernel
theorem dX5_begin_30 : decode cX5_begin 30 = .ok (.iconst 0, 1) := by decide +kernel
theorem dX5_begin_31 : decode cX5_begin 31 = .ok (.istore 5, 2) := by decide +kernel
theorem dX5_begin_33 : decode cX5_begin 33 = .ok (.iload 5, 2) := by decide +kernel
theorem dX5_begin_35 : decode cX5_begin 35 = .ok (.bipush 24, 2) := by decide +kernel
theorem dX5_begin_37 : decode cX5_begin 37 = .ok (.if_icmp .gt 119, 3) := by decide +kernel
theorem dX5_begin_40 : decode cX5_begin 40 = .ok (.iconst 0, 1) := by decide +kernel
theorem dX5_begin_41 : decode cX5_begin 41 = .ok (.istore 6, 2) := by decide +kernel
theorem dX5_begin_43 : decode cX5_begin 43 = .ok (.iload 6, 2) := by decide +kernel
theorem dX5_begin_45 : decode cX5_begin 45 = .ok (.bipush 24, 2) := by decide +kernel
theorem dX5_begin_47 : decode cX5_begin 47 = .ok (.iload 5, 2) := by decide +kernel
theorem dX5_begin_49 : decode cX5_begin 49 = .ok (.isub, 1) := by decide +kernel
theorem dX5_begin_50 : decode cX5_begin 50 = .ok (.if_icmp .gt 100, 3) := by decide +kernel
theorem dX5_begin_53 : decode cX5_begin 53 = .ok (.iload 5, 2) := by decide +kernel
theorem dX5_begin_55 : decode cX5_begin 55 = .ok (.iload 6, 2) := by decide +kernel
theorem dX5_begin_57 : decode cX5_begin 57 = .ok (.iadd, 1) := by decide +kernel
theorem dX5_begin_58 : decode cX5_begin 58 = .ok (.aload_n 0, 1) := by decide +kernel
theorem dX5_begin_59 : decode cX5_begin 59 = .ok (.getfield 34, 3) := by decide +kernel
theorem dX5_begin_62 : decode cX5_begin 62 = .ok (.if_icmp .gt 34, 3) := by decide +kernel
theorem dX5_begin_65 : decode cX5_begin 65 = .ok (.iload 5, 2) := by decide +kernel
theorem dX5_begin_67 : decode cX5_begin 67 = .ok (.aload_n 0, 1) := by decide +kernel
theorem dX5_begin_68 : decode cX5_begin 68 = .ok (.getfield 41, 3) := by decide +kernel
theorem dX5_begin_71 : decode cX5_begin 71 = .ok (.if_icmp .lt 12, 3) := by decide +kernel
theorem dX5_begin_74 : decode cX5_begin 74 = .ok (.iload 6, 2) := by decide +kernel
theorem dX5_begin_76 : decode cX5_begin 76 = .ok (.aload_n 0, 1) := by decide +kernel
theorem dX5_begin_77 : decode cX5_begin 77 = .ok (.getfield 44, 3) := by decide +kernel
theorem dX5_begin_80 : decode cX5_begin 80 = .ok (.if_icmp .ge 16, 3) := by decide +kernel
theorem dX5_begin_83 : decode cX5_begin 83 = .ok (.aload_n 0, 1) := by decide +kernel
theorem dX5_begin_84 : decode cX5_begin 84 = .ok (.getfield 47, 3) := by decide +kernel
theorem dX5_begin_87 : decode cX5_begin 87 = .ok (.bipush 94, 2) := by decide +kernel
theorem dX5_begin_89 : decode cX5_begin 89 = .ok (.if_icmp .ge 7, 3) := by decide +kernel
theorem dX5_begin_92 : decode cX5_begin 92 = .ok (.iconst 1, 1) := by decide +kernel
theorem dX5_begin_93 : decode cX5_begin 93 = .ok (.goto 4, 3) := by decide +kernel
theorem dX5_begin_96 : decode cX5_begin 96 = .ok (.iconst 0, 1) := by decide +kernel
theorem dX5_begin_97 : decode cX5_begin 97 = .ok (.istore 7, 2) := by decide +kernel
theorem dX5_begin_99 : decode cX5_begin 99 = .ok (.aload_n 0, 1) := by decide +kernel
theorem dX5_begin_100 : decode cX5_begin 100 = .ok (.getfield 15, 3) := by decide +kernel
theorem dX5_begin_103 : decode cX5_begin 103 = .ok (.iload 5, 2) := by decide +kernel
theorem dX5_begin_105 : decode cX5_begin 105 = .ok (.bipush 25, 2) := by decide +kernel
theorem dX5_begin_107 : decode cX5_begin 107 = .ok (.imul, 1) := by decide +kernel
theorem dX5_begin_108 : decode cX5_begin 108 = .ok (.iload 6, 2) := by decide +kernel
theorem dX5_begin_110 : decode cX5_begin 110 = .ok (.iadd, 1) := by decide +kernel
theorem dX5_begin_111 : decode cX5_begin 111 = .ok (.iload 7, 2) := by decide +kernel
theorem dX5_begin_113 : decode cX5_begin 113 = .ok (.ifCond .eq 10, 3) := by decide +kernel
theorem dX5_begin_116 : decode cX5_begin 116 = .ok (.aload_n 0, 1) := by decide +kernel
theorem dX5_begin_117 : decode cX5_begin 117 = .ok (.getfield 47, 3) := by decide +kernel
theorem dX5_begin_120 : decode cX5_begin 120 = .ok (.goto 4, 3) := by decide +kernel
theorem dX5_begin_123 : decode cX5_begin 123 = .ok (.iconst (-1), 1) := by decide +kernel
theorem dX5_begin_124 : decode cX5_begin 124 = .ok (.iastore, 1) := by decide +kernel
theorem dX5_begin_125 : decode cX5_begin 125 = .ok (.aload_n 0, 1) := by decide +kernel
theorem dX5_begin_126 : decode cX5_begin 126 = .ok (.dup, 1) := by decide +kernel
theorem dX5_begin_127 : decode cX5_begin 127 = .ok (.getfield 47, 3) := by decide +kernel
theorem dX5_begin_130 : decode cX5_begin 130 = .ok (.iload 7, 2) := by decide +kernel
theorem dX5_begin_132 : decode cX5_begin 132 = .ok (.ifCond .eq 7, 3) := by decide +kernel
theorem dX5_begin_135 : decode cX5_begin 135 = .ok (.iconst 1, 1) := by decide +kernel
theorem dX5_begin_136 : decode cX5_begin 136 = .ok (.goto 4, 3) := by decide +kernel
theorem dX5_begin_139 : decode cX5_begin 139 = .ok (.iconst 0, 1) := by decide +kernel
theorem dX5_begin_140 : decode cX5_begin 140 = .ok (.iadd, 1) := by decide +kernel
theorem dX5_begin_141 : decode cX5_begin 141 = .ok (.putfield 47, 3) := by decide +kernel
theorem dX5_begin_144 : decode cX5_begin 144 = .ok (.iinc 6 1, 3) := by decide +kernel
theorem dX5_begin_147 : decode cX5_begin 147 = .ok (.goto (-104), 3) := by decide +kernel
theorem dX5_begin_150 : decode cX5_begin 150 = .ok (.iinc 5 1, 3) := by decide +kernel
theorem dX5_begin_153 : decode cX5_begin 153 = .ok (.goto (-120), 3) := by decide +kernel
theorem dX5_begin_156 : decode cX5_begin 156 = .ok (.aload_n 0, 1) := by decide +kernel
theorem dX5_begin_157 : decode cX5_begin 157 = .ok (.getfield 50, 3) := by decide +kernel
theorem dX5_begin_160 : decode cX5_begin 160 = .ok (.aload_n 0, 1) := by decide +kernel
theorem dX5_begin_161 : decode cX5_begin 161 = .ok (.getfield 47, 3) := by decide +kernel
theorem dX5_begin_164 : decode cX5_begin 164 = .ok (.aload_n 0, 1) := by decide +kernel
theorem dX5_begin_165 : decode cX5_begin 165 = .ok (.getfield 47, 3) := by decide +kernel
theorem dX5_begin_168 : decode cX5_begin 168 = .ok (.aload_n 0, 1) := by decide +kernel
theorem dX5_begin_169 : decode cX5_begin 169 = .ok (.getfield 30, 3) := by decide +kernel
theorem dX5_begin_172 : decode cX5_begin 172 = .ok (.invokevirtual 75, 3) := by decide +kernel
theorem dX5_begin_175 : decode cX5_begin 175 = .ok (.return_, 1) := by decide +kernel
theorem dX5_findLead_0 : decode cX5_findLead 0 = .ok (.aload_n 0, 1) := by decide +kernel
theorem dX5_findLead_1 : decode cX5_findLead 1 = .ok (.iconst 0, 1) := by decide +kernel
theorem dX5_findLead_2 : decode cX5_findLead 2 = .ok (.putfield 41, 3) := by decide +kernel
theorem dX5_findLead_5 : decode cX5_findLead 5 = .ok (.aload_n 0, 1) := by decide +kernel
theorem dX5_findLead_6 : decode cX5_findLead 6 = .ok (.iconst 0, 1) := by decide +kernel
theorem dX5_findLead_7 : decode cX5_findLead 7 = .ok (.putfield 44, 3) := by decide +kernel
theorem dX5_findLead_10 : decode cX5_findLead 10 = .ok (.iconst 0, 1) := by decide +kernel
theorem dX5_findLead_11 : decode cX5_findLead 11 = .ok (.istore_n 1, 1) := by decide +kernel
theorem dX5_findLead_12 : decode cX5_findLead 12 = .ok (.iload_n 1, 1) := by decide +kernel
theorem dX5_findLead_13 : decode cX5_findLead 13 = .ok (.iconst 4, 1) := by decide +kernel
theorem dX5_findLead_14 : decode cX5_findLead 14 = .ok (.if_icmp .gt 50, 3) := by decide +kernel
theorem dX5_findLead_17 : decode cX5_findLead 17 = .ok (.aload_n 0, 1) := by decide +kernel
theorem dX5_findLead_18 : decode cX5_findLead 18 = .ok (.getfield 37, 3) := by decide +kernel
theorem dX5_findLead_21 : decode cX5_findLead 21 = .ok (.ifCond .eq 7, 3) := by decide +kernel
theorem dX5_findLead_24 : decode cX5_findLead 24 = .ok (.iload_n 1, 1) := by decide +kernel
theorem dX5_findLead_25 : decode cX5_findLead 25 = .ok (.goto 6, 3) := by decide +kernel
theorem dX5_findLead_28 : decode cX5_findLead 28 = .ok (.iconst 4, 1) := by decide +kernel
theorem dX5_findLead_29 : decode cX5_findLead 29 = .ok (.iload_n 1, 1) := by decide +kernel
theorem dX5_findLead_30 : decode cX5_findLead 30 = .ok (.isub, 1) := by decide +kernel
theorem dX5_findLead_31 : decode cX5_findLead 31 = .ok (.istore_n 2, 1) := by decide +kernel
theorem dX5_findLead_32 : decode cX5_findLead 32 = .ok (.aload_n 0, 1) := by decide +kernel
theorem dX5_findLead_33 : decode cX5_findLead 33 = .ok (.getfield 26, 3) := by decide +kernel
theorem dX5_findLead_36 : decode cX5_findLead 36 = .ok (.iload_n 2, 1) := by decide +kernel
theorem dX5_findLead_37 : decode cX5_findLead 37 = .ok (.invokevirtual 78, 3) := by decide +kernel
theorem dX5_findLead_40 : decode cX5_findLead 40 = .ok (.istore_n 3, 1) := by decide +kernel
theorem dX5_findLead_41 : decode cX5_findLead 41 = .ok (.iload_n 3, 1) := by decide +kernel
theorem dX5_findLead_42 : decode cX5_findLead 42 = .ok (.ifCond .lt 16, 3) := by decide +kernel
theorem dX5_findLead_45 : decode cX5_findLead 45 = .ok (.aload_n 0, 1) := by decide +kernel
theorem dX5_findLead_46 : decode cX5_findLead 46 = .ok (.iload_n 3, 1) := by decide +kernel
theorem dX5_findLead_47 : decode cX5_findLead 47 = .ok (.putfield 41, 3) := by decide +kernel
theorem dX5_findLead_50 : decode cX5_findLead 50 = .ok (.aload_n 0, 1) := by decide +kernel
theorem dX5_findLead_51 : decode cX5_findLead 51 = .ok (.iload_n 2, 1) := by decide +kernel
theorem dX5_findLead_52 : decode cX5_findLead 52 = .ok (.iload_n 3, 1) := by decide +kernel
theorem dX5_findLead_53 : decode cX5_findLead 53 = .ok (.isub, 1) := by decide +kernel
theorem dX5_findLead_54 : decode cX5_findLead 54 = .ok (.putfield 44, 3) := by decide +kernel
theorem dX5_findLead_57 : decode cX5_findLead 57 = .ok (.return_, 1) := by decide +kernel
theorem dX5_findLead_58 : decode cX5_findLead 58 = .ok (.iinc 1 1, 3) := by decide +kernel
theorem dX5_findLead_61 : decode cX5_findLead 61 = .ok (.goto (-49), 3) := by decide +kernel
theorem dX5_findLead_64 : decode cX5_findLead 64 = .ok (.return_, 1) := by decide +kernel
theorem dX5_addMultiples_0 : decode cX5_addMultiples 0 = .ok (.iconst 0, 1) := by decide +kernel
theorem dX5_addMultiples_1 : decode cX5_addMultiples 1 = .ok (.istore_n 3, 1) := by decide +kernel
theorem dX5_addMultiples_2 : decode cX5_addMultiples 2 = .ok (.iconst 0, 1) := by decide +kernel
theorem dX5_addMultiples_3 : decode cX5_addMultiples 3 = .ok (.istore 4, 2) := by decide +kernel
theorem dX5_addMultiples_5 : decode cX5_addMultiples 5 = .ok (.iload 4, 2) := by decide +kernel
theorem dX5_addMultiples_7 : decode cX5_addMultiples 7 = .ok (.iload_n 2, 1) := by decide +kernel
theorem dX5_addMultiples_8 : decode cX5_addMultiples 8 = .ok (.if_icmp .gt 88, 3) := by decide +kernel
theorem dX5_addMultiples_11 : decode cX5_addMultiples 11 = .ok (.iconst 0, 1) := by decide +kernel
theorem dX5_addMultiples_12 : decode cX5_addMultiples 12 = .ok (.istore 5, 2) := by decide +kernel
theorem dX5_addMultiples_14 : decode cX5_addMultiples 14 = .ok (.iload 5, 2) := by decide +kernel
theorem dX5_addMultiples_16 : decode cX5_addMultiples 16 = .ok (.iload_n 2, 1) := by decide +kernel
theorem dX5_addMultiples_17 : decode cX5_addMultiples 17 = .ok (.iload 4, 2) := by decide +kernel
theorem dX5_addMultiples_19 : decode cX5_addMultiples 19 = .ok (.isub, 1) := by decide +kernel
theorem dX5_addMultiples_20 : decode cX5_addMultiples 20 = .ok (.if_icmp .gt 70, 3) := by decide +kernel
theorem dX5_addMultiples_23 : decode cX5_addMultiples 23 = .ok (.iload 4, 2) := by decide +kernel
theorem dX5_addMultiples_25 : decode cX5_addMultiples 25 = .ok (.bipush 24, 2) := by decide +kernel
theorem dX5_addMultiples_27 : decode cX5_addMultiples 27 = .ok (.if_icmp .gt 63, 3) := by decide +kernel
theorem dX5_addMultiples_30 : decode cX5_addMultiples 30 = .ok (.iload 5, 2) := by decide +kernel
theorem dX5_addMultiples_32 : decode cX5_addMultiples 32 = .ok (.bipush 24, 2) := by decide +kernel
theorem dX5_addMultiples_34 : decode cX5_addMultiples 34 = .ok (.iload 4, 2) := by decide +kernel
theorem dX5_addMultiples_36 : decode cX5_addMultiples 36 = .ok (.isub, 1) := by decide +kernel
theorem dX5_addMultiples_37 : decode cX5_addMultiples 37 = .ok (.if_icmp .gt 53, 3) := by decide +kernel
theorem dX5_addMultiples_40 : decode cX5_addMultiples 40 = .ok (.aload_n 0, 1) := by decide +kernel
theorem dX5_addMultiples_41 : decode cX5_addMultiples 41 = .ok (.getfield 15, 3) := by decide +kernel
theorem dX5_addMultiples_44 : decode cX5_addMultiples 44 = .ok (.iload 4, 2) := by decide +kernel
theorem dX5_addMultiples_46 : decode cX5_addMultiples 46 = .ok (.bipush 25, 2) := by decide +kernel
theorem dX5_addMultiples_48 : decode cX5_addMultiples 48 = .ok (.imul, 1) := by decide +kernel
theorem dX5_addMultiples_49 : decode cX5_addMultiples 49 = .ok (.iload 5, 2) := by decide +kernel
theorem dX5_addMultiples_51 : decode cX5_addMultiples 51 = .ok (.iadd, 1) := by decide +kernel
theorem dX5_addMultiples_52 : decode cX5_addMultiples 52 = .ok (.iaload, 1) := by decide +kernel
theorem dX5_addMultiples_53 : decode cX5_addMultiples 53 = .ok (.ifCond .lt 31, 3) := by decide +kernel
theorem dX5_addMultiples_56 : decode cX5_addMultiples 56 = .ok (.aload_n 0, 1) := by decide +kernel
theorem dX5_addMultiples_57 : decode cX5_addMultiples 57 = .ok (.aload_n 1, 1) := by decide +kernel
theorem dX5_addMultiples_58 : decode cX5_addMultiples 58 = .ok (.iload 4, 2) := by decide +kernel
theorem dX5_addMultiples_60 : decode cX5_addMultiples 60 = .ok (.iload 5, 2) := by decide +kernel
theorem dX5_addMultiples_62 : decode cX5_addMultiples 62 = .ok (.invokevirtual 82, 3) := by decide +kernel
theorem dX5_addMultiples_65 : decode cX5_addMultiples 65 = .ok (.aload_n 0, 1) := by decide +kernel
theorem dX5_addMultiples_66 : decode cX5_addMultiples 66 = .ok (.invokevirtual 86, 3) := by decide +kernel
theorem dX5_addMultiples_69 : decode cX5_addMultiples 69 = .ok (.iload_n 3, 1) := by decide +kernel
theorem dX5_addMultiples_70 : decode cX5_addMultiples 70 = .ok (.aload_n 0, 1) := by decide +kernel
theorem dX5_addMultiples_71 : decode cX5_addMultiples 71 = .ok (.invokevirtual 89, 3) := by decide +kernel
theorem dX5_addMultiples_74 : decode cX5_addMultiples 74 = .ok (.ifCond .eq 7, 3) := by decide +kernel
theorem dX5_addMultiples_77 : decode cX5_addMultiples 77 = .ok (.iconst 1, 1) := by decide +kernel
theorem dX5_addMultiples_78 : decode cX5_addMultiples 78 = .ok (.goto 4, 3) := by decide +kernel
theorem dX5_addMultiples_81 : decode cX5_addMultiples 81 = .ok (.iconst 0, 1) := by decide +kernel
theorem dX5_addMultiples_82 : decode cX5_addMultiples 82 = .ok (.iadd, 1) := by decide +kernel
theorem dX5_addMultiples_83 : decode cX5_addMultiples 83 = .ok (.istore_n 3, 1) := by decide +kernel
theorem dX5_addMultiples_84 : decode cX5_addMultiples 84 = .ok (.iinc 5 1, 3) := by decide +kernel
theorem dX5_addMultiples_87 : decode cX5_addMultiples 87 = .ok (.goto (-73), 3) := by decide +kernel
theorem dX5_addMultiples_90 : decode cX5_addMultiples 90 = .ok (.iinc 4 1, 3) := by decide +kernel
theorem dX5_addMultiples_93 : decode cX5_addMultiples 93 = .ok (.goto (-88), 3) := by decide +kernel
theorem dX5_addMultiples_96 : decode cX5_addMultiples 96 = .ok (.iload_n 3, 1) := by decide +kernel
theorem dX5_addMultiples_97 : decode cX5_addMultiples 97 = .ok (.ireturn, 1) := by decide +kernel
theorem dX5_setRow_0 : decode cX5_setRow 0 = .ok (.iconst 0, 1) := by decide +kernel
theorem dX5_setRow_1 : decode cX5_setRow 1 = .ok (.istore 4, 2) := by decide +kernel
theorem dX5_setRow_3 : decode cX5_setRow 3 = .ok (.iload 4, 2) := by decide +kernel
theorem dX5_setRow_5 : decode cX5_setRow 5 = .ok (.aload_n 0, 1) := by decide +kernel
theorem dX5_setRow_6 : decode cX5_setRow 6 = .ok (.getfield 11, 3) := by decide +kernel
theorem dX5_setRow_9 : decode cX5_setRow 9 = .ok (.arraylength, 1) := by decide +kernel
theorem dX5_setRow_10 : decode cX5_setRow 10 = .ok (.if_icmp .ge 17, 3) := by decide +kernel
theorem dX5_setRow_13 : decode cX5_setRow 13 = .ok (.aload_n 0, 1) := by decide +kernel
theorem dX5_setRow_14 : decode cX5_setRow 14 = .ok (.getfield 11, 3) := by decide +kernel
theorem dX5_setRow_17 : decode cX5_setRow 17 = .ok (.iload 4, 2) := by decide +kernel
theorem dX5_setRow_19 : decode cX5_setRow 19 = .ok (.iconst 0, 1) := by decide +kernel
theorem dX5_setRow_20 : decode cX5_setRow 20 = .ok (.iastore, 1) := by decide +kernel
theorem dX5_setRow_21 : decode cX5_setRow 21 = .ok (.iinc 4 1, 3) := by decide +kernel
theorem dX5_setRow_24 : decode cX5_setRow 24 = .ok (.goto (-21), 3) := by decide +kernel
theorem dX5_setRow_27 : decode cX5_setRow 27 = .ok (.aload_n 0, 1) := by decide +kernel
theorem dX5_setRow_28 : decode cX5_setRow 28 = .ok (.aload_n 1, 1) := by decide +kernel
theorem dX5_setRow_29 : decode cX5_setRow 29 = .ok (.iload_n 2, 1) := by decide +kernel
theorem dX5_setRow_30 : decode cX5_setRow 30 = .ok (.iload_n 3, 1) := by decide +kernel
theorem dX5_setRow_31 : decode cX5_setRow 31 = .ok (.iconst 1, 1) := by decide +kernel
theorem dX5_setRow_32 : decode cX5_setRow 32 = .ok (.invokevirtual 93, 3) := by decide +kernel
theorem dX5_setRow_35 : decode cX5_setRow 35 = .ok (.return_, 1) := by decide +kernel
theorem dX5_addToRow_0 : decode cX5_addToRow 0 = .ok (.aload_n 0, 1) := by decide +kernel
theorem dX5_addToRow_1 : decode cX5_addToRow 1 = .ok (.getfield 30, 3) := by decide +kernel
theorem dX5_addToRow_4 : decode cX5_addToRow 4 = .ok (.iconst 2, 1) := by decide +kernel
theorem dX5_addToRow_5 : decode cX5_addToRow 5 = .ok (.if_icmp .lt 11, 3) := by decide +kernel
theorem dX5_addToRow_8 : decode cX5_addToRow 8 = .ok (.iload_n 2, 1) := by decide +kernel
theorem dX5_addToRow_9 : decode cX5_addToRow 9 = .ok (.ifCond .lt 7, 3) := by decide +kernel
theorem dX5_addToRow_12 : decode cX5_addToRow 12 = .ok (.iload_n 3, 1) := by decide +kernel
theorem dX5_addToRow_13 : decode cX5_addToRow 13 = .ok (.ifCond .ge 4, 3) := by decide +kernel
theorem dX5_addToRow_16 : decode cX5_addToRow 16 = .ok (.return_, 1) := by decide +kernel
theorem dX5_addToRow_17 : decode cX5_addToRow 17 = .ok (.iconst 0, 1) := by decide +kernel
theorem dX5_addToRow_18 : decode cX5_addToRow 18 = .ok (.istore 5, 2) := by decide +kernel
theorem dX5_addToRow_20 : decode cX5_addToRow 20 = .ok (.iload 5, 2) := by decide +kernel
theorem dX5_addToRow_22 : decode cX5_addToRow 22 = .ok (.iconst 4, 1) := by decide +kernel
theorem dX5_addToRow_23 : decode cX5_addToRow 23 = .ok (.if_icmp .gt 112, 3) := by decide +kernel
theorem dX5_addToRow_26 : decode cX5_addToRow 26 = .ok (.iload 5, 2) := by decide +kernel
theorem dX5_addToRow_28 : decode cX5_addToRow 28 = .ok (.iload_n 2, 1) := by decide +kernel
theorem dX5_addToRow_29 : decode cX5_addToRow 29 = .ok (.iadd, 1) := by decide +kernel
theorem dX5_addToRow_30 : decode cX5_addToRow 30 = .ok (.aload_n 0, 1) := by decide +kernel
theorem dX5_addToRow_31 : decode cX5_addToRow 31 = .ok (.getfield 34, 3) := by decide +kernel
theorem dX5_addToRow_34 : decode cX5_addToRow 34 = .ok (.if_icmp .gt 101, 3) := by decide +kernel
theorem dX5_addToRow_37 : decode cX5_addToRow 37 = .ok (.iconst 0, 1) := by decide +kernel
theorem dX5_addToRow_38 : decode cX5_addToRow 38 = .ok (.istore 6, 2) := by decide +kernel
theorem dX5_addToRow_40 : decode cX5_addToRow 40 = .ok (.iload 6, 2) := by decide +kernel
theorem dX5_addToRow_42 : decode cX5_addToRow 42 = .ok (.iconst 4, 1) := by decide +kernel
theorem dX5_addToRow_43 : decode cX5_addToRow 43 = .ok (.iload 5, 2) := by decide +kernel
theorem dX5_addToRow_45 : decode cX5_addToRow 45 = .ok (.isub, 1) := by decide +kernel
theorem dX5_addToRow_46 : decode cX5_addToRow 46 = .ok (.if_icmp .gt 83, 3) := by decide +kernel
theorem dX5_addToRow_49 : decode cX5_addToRow 49 = .ok (.iload 5, 2) := by decide +kernel
theorem dX5_addToRow_51 : decode cX5_addToRow 51 = .ok (.iload_n 2, 1) := by decide +kernel
theorem dX5_addToRow_52 : decode cX5_addToRow 52 = .ok (.iadd, 1) := by decide +kernel
theorem dX5_addToRow_53 : decode cX5_addToRow 53 = .ok (.iload 6, 2) := by decide +kernel
theorem dX5_addToRow_55 : decode cX5_addToRow 55 = .ok (.iadd, 1) := by decide +kernel
theorem dX5_addToRow_56 : decode cX5_addToRow 56 = .ok (.iload_n 3, 1) := by decide +kernel
theorem dX5_addToRow_57 : decode cX5_addToRow 57 = .ok (.iadd, 1) := by decide +kernel
theorem dX5_addToRow_58 : decode cX5_addToRow 58 = .ok (.aload_n 0, 1) := by decide +kernel
theorem dX5_addToRow_59 : decode cX5_addToRow 59 = .ok (.getfield 34, 3) := by decide +kernel
theorem dX5_addToRow_62 : decode cX5_addToRow 62 = .ok (.if_icmp .gt 67, 3) := by decide +kernel
theorem dX5_addToRow_65 : decode cX5_addToRow 65 = .ok (.aload_n 1, 1) := by decide +kernel
theorem dX5_addToRow_66 : decode cX5_addToRow 66 = .ok (.getfield 97, 3) := by decide +kernel
theorem dX5_addToRow_69 : decode cX5_addToRow 69 = .ok (.iload 5, 2) := by decide +kernel
theorem dX5_addToRow_71 : decode cX5_addToRow 71 = .ok (.iconst 5, 1) := by decide +kernel
theorem dX5_addToRow_72 : decode cX5_addToRow 72 = .ok (.imul, 1) := by decide +kernel
theorem dX5_addToRow_73 : decode cX5_addToRow 73 = .ok (.iload 6, 2) := by decide +kernel
theorem dX5_addToRow_75 : decode cX5_addToRow 75 = .ok (.iadd, 1) := by decide +kernel
theorem dX5_addToRow_76 : decode cX5_addToRow 76 = .ok (.iaload, 1) := by decide +kernel
theorem dX5_addToRow_77 : decode cX5_addToRow 77 = .ok (.istore 7, 2) := by decide +kernel
theorem dX5_addToRow_79 : decode cX5_addToRow 79 = .ok (.iload 7, 2) := by decide +kernel
theorem dX5_addToRow_81 : decode cX5_addToRow 81 = .ok (.ifCond .eq 42, 3) := by decide +kernel
theorem dX5_addToRow_84 : decode cX5_addToRow 84 = .ok (.iload 5, 2) := by decide +kernel
theorem dX5_addToRow_86 : decode cX5_addToRow 86 = .ok (.iload_n 2, 1) := by decide +kernel
theorem dX5_addToRow_87 : decode cX5_addToRow 87 = .ok (.iadd, 1) := by decide +kernel
theorem dX5_addToRow_88 : decode cX5_addToRow 88 = .ok (.bipush 25, 2) := by decide +kernel
theorem dX5_addToRow_90 : decode cX5_addToRow 90 = .ok (.imul, 1) := by decide +kernel
theorem dX5_addToRow_91 : decode cX5_addToRow 91 = .ok (.iload 6, 2) := by decide +kernel
theorem dX5_addToRow_93 : decode cX5_addToRow 93 = .ok (.iadd, 1) := by decide +kernel
theorem dX5_addToRow_94 : decode cX5_addToRow 94 = .ok (.iload_n 3, 1) := by decide +kernel
theorem dX5_addToRow_95 : decode cX5_addToRow 95 = .ok (.iadd, 1) := by decide +kernel
theorem dX5_addToRow_96 : decode cX5_addToRow 96 = .ok (.istore 8, 2) := by decide +kernel
theorem dX5_addToRow_98 : decode cX5_addToRow 98 = .ok (.aload_n 0, 1) := by decide +kernel
theorem dX5_addToRow_99 : decode cX5_addToRow 99 = .ok (.getfield 11, 3) := by decide +kernel
theorem dX5_addToRow_102 : decode cX5_addToRow 102 = .ok (.iload 8, 2) := by decide +kernel
theorem dX5_addToRow_104 : decode cX5_addToRow 104 = .ok (.aload_n 0, 1) := by decide +kernel
theorem dX5_addToRow_105 : decode cX5_addToRow 105 = .ok (.getfield 11, 3) := by decide +kernel
theorem dX5_addToRow_108 : decode cX5_addToRow 108 = .ok (.iload 8, 2) := by decide +kernel
theorem dX5_addToRow_110 : decode cX5_addToRow 110 = .ok (.iaload, 1) := by decide +kernel
theorem dX5_addToRow_111 : decode cX5_addToRow 111 = .ok (.iload 4, 2) := by decide +kernel
theorem dX5_addToRow_113 : decode cX5_addToRow 113 = .ok (.iload 7, 2) := by decide +kernel
theorem dX5_addToRow_115 : decode cX5_addToRow 115 = .ok (.imul, 1) := by decide +kernel
theorem dX5_addToRow_116 : decode cX5_addToRow 116 = .ok (.iadd, 1) := by decide +kernel
theorem dX5_addToRow_117 : decode cX5_addToRow 117 = .ok (.aload_n 0, 1) := by decide +kernel
theorem dX5_addToRow_118 : decode cX5_addToRow 118 = .ok (.getfield 30, 3) := by decide +kernel
theorem dX5_addToRow_121 : decode cX5_addToRow 121 = .ok (.irem, 1) := by decide +kernel
theorem dX5_addToRow_122 : decode cX5_addToRow 122 = .ok (.iastore, 1) := by decide +kernel
theorem dX5_addToRow_123 : decode cX5_addToRow 123 = .ok (.iinc 6 1, 3) := by decide +kernel
theorem dX5_addToRow_126 : decode cX5_addToRow 126 = .ok (.goto (-86), 3) := by decide +kernel
theorem dX5_addToRow_129 : decode cX5_addToRow 129 = .ok (.iinc 5 1, 3) := by decide +kernel
theorem dX5_addToRow_132 : decode cX5_addToRow 132 = .ok (.goto (-112), 3) := by decide +kernel
theorem dX5_addToRow_135 : decode cX5_addToRow 135 = .ok (.return_, 1) := by decide +kernel
theorem dX5_reduceRow_0 : decode cX5_reduceRow 0 = .ok (.aload_n 0, 1) := by decide +kernel
theorem dX5_reduceRow_1 : decode cX5_reduceRow 1 = .ok (.getfield 26, 3) := by decide +kernel
theorem dX5_reduceRow_4 : decode cX5_reduceRow 4 = .ok (.aload_n 0, 1) := by decide +kernel
theorem dX5_reduceRow_5 : decode cX5_reduceRow 5 = .ok (.getfield 41, 3) := by decide +kernel
theorem dX5_reduceRow_8 : decode cX5_reduceRow 8 = .ok (.aload_n 0, 1) := by decide +kernel
theorem dX5_reduceRow_9 : decode cX5_reduceRow 9 = .ok (.getfield 44, 3) := by decide +kernel
theorem dX5_reduceRow_12 : decode cX5_reduceRow 12 = .ok (.invokevirtual 100, 3) := by decide +kernel
theorem dX5_reduceRow_15 : decode cX5_reduceRow 15 = .ok (.aload_n 0, 1) := by decide +kernel
theorem dX5_reduceRow_16 : decode cX5_reduceRow 16 = .ok (.getfield 30, 3) := by decide +kernel
theorem dX5_reduceRow_19 : decode cX5_reduceRow 19 = .ok (.invokestatic 104, 3) := by decide +kernel
theorem dX5_reduceRow_22 : decode cX5_reduceRow 22 = .ok (.istore_n 1, 1) := by decide +kernel
theorem dX5_reduceRow_23 : decode cX5_reduceRow 23 = .ok (.iconst 0, 1) := by decide +kernel
theorem dX5_reduceRow_24 : decode cX5_reduceRow 24 = .ok (.istore_n 2, 1) := by decide +kernel
theorem dX5_reduceRow_25 : decode cX5_reduceRow 25 = .ok (.iload_n 2, 1) := by decide +kernel
theorem dX5_reduceRow_26 : decode cX5_reduceRow 26 = .ok (.aload_n 0, 1) := by decide +kernel
theorem dX5_reduceRow_27 : decode cX5_reduceRow 27 = .ok (.getfield 34, 3) := by decide +kernel
theorem dX5_reduceRow_30 : decode cX5_reduceRow 30 = .ok (.if_icmp .gt 112, 3) := by decide +kernel
theorem dX5_reduceRow_33 : decode cX5_reduceRow 33 = .ok (.aload_n 0, 1) := by decide +kernel
theorem dX5_reduceRow_34 : decode cX5_reduceRow 34 = .ok (.getfield 37, 3) := by decide +kernel
theorem dX5_reduceRow_37 : decode cX5_reduceRow 37 = .ok (.ifCond .eq 7, 3) := by decide +kernel
theorem dX5_reduceRow_40 : decode cX5_reduceRow 40 = .ok (.iload_n 2, 1) := by decide +kernel
theorem dX5_reduceRow_41 : decode cX5_reduceRow 41 = .ok (.goto 9, 3) := by decide +kernel
theorem dX5_reduceRow_44 : decode cX5_reduceRow 44 = .ok (.aload_n 0, 1) := by decide +kernel
theorem dX5_reduceRow_45 : decode cX5_reduceRow 45 = .ok (.getfield 34, 3) := by decide +kernel
theorem dX5_reduceRow_48 : decode cX5_reduceRow 48 = .ok (.iload_n 2, 1) := by decide +kernel
theorem dX5_reduceRow_49 : decode cX5_reduceRow 49 = .ok (.isub, 1) := by decide +kernel
theorem dX5_reduceRow_50 : decode cX5_reduceRow 50 = .ok (.istore_n 3, 1) := by decide +kernel
theorem dX5_reduceRow_51 : decode cX5_reduceRow 51 = .ok (.iload_n 3, 1) := by decide +kernel
theorem dX5_reduceRow_52 : decode cX5_reduceRow 52 = .ok (.aload_n 0, 1) := by decide +kernel
theorem dX5_reduceRow_53 : decode cX5_reduceRow 53 = .ok (.getfield 44, 3) := by decide +kernel
theorem dX5_reduceRow_56 : decode cX5_reduceRow 56 = .ok (.isub, 1) := by decide +kernel
theorem dX5_reduceRow_57 : decode cX5_reduceRow 57 = .ok (.istore 4, 2) := by decide +kernel
theorem dX5_reduceRow_59 : decode cX5_reduceRow 59 = .ok (.iload 4, 2) := by decide +kernel
theorem dX5_reduceRow_61 : decode cX5_reduceRow 61 = .ok (.aload_n 0, 1) := by decide +kernel
theorem dX5_reduceRow_62 : decode cX5_reduceRow 62 = .ok (.getfield 41, 3) := by decide +kernel
theorem dX5_reduceRow_65 : decode cX5_reduceRow 65 = .ok (.if_icmp .lt 71, 3) := by decide +kernel
theorem dX5_reduceRow_68 : decode cX5_reduceRow 68 = .ok (.aload_n 0, 1) := by decide +kernel
theorem dX5_reduceRow_69 : decode cX5_reduceRow 69 = .ok (.getfield 11, 3) := by decide +kernel
theorem dX5_reduceRow_72 : decode cX5_reduceRow 72 = .ok (.iload 4, 2) := by decide +kernel
theorem dX5_reduceRow_74 : decode cX5_reduceRow 74 = .ok (.bipush 25, 2) := by decide +kernel
theorem dX5_reduceRow_76 : decode cX5_reduceRow 76 = .ok (.imul, 1) := by decide +kernel
theorem dX5_reduceRow_77 : decode cX5_reduceRow 77 = .ok (.iload_n 3, 1) := by decide +kernel
theorem dX5_reduceRow_78 : decode cX5_reduceRow 78 = .ok (.iadd, 1) := by decide +kernel
theorem dX5_reduceRow_79 : decode cX5_reduceRow 79 = .ok (.iload 4, 2) := by decide +kernel
theorem dX5_reduceRow_81 : decode cX5_reduceRow 81 = .ok (.isub, 1) := by decide +kernel
theorem dX5_reduceRow_82 : decode cX5_reduceRow 82 = .ok (.iaload, 1) := by decide +kernel
theorem dX5_reduceRow_83 : decode cX5_reduceRow 83 = .ok (.istore 5, 2) := by decide +kernel
theorem dX5_reduceRow_85 : decode cX5_reduceRow 85 = .ok (.iload 5, 2) := by decide +kernel
theorem dX5_reduceRow_87 : decode cX5_reduceRow 87 = .ok (.ifCond .eq 43, 3) := by decide +kernel
theorem dX5_reduceRow_90 : decode cX5_reduceRow 90 = .ok (.iload 5, 2) := by decide +kernel
theorem dX5_reduceRow_92 : decode cX5_reduceRow 92 = .ok (.ineg, 1) := by decide +kernel
theorem dX5_reduceRow_93 : decode cX5_reduceRow 93 = .ok (.iload_n 1, 1) := by decide +kernel
theorem dX5_reduceRow_94 : decode cX5_reduceRow 94 = .ok (.imul, 1) := by decide +kernel
theorem dX5_reduceRow_95 : decode cX5_reduceRow 95 = .ok (.aload_n 0, 1) := by decide +kernel
theorem dX5_reduceRow_96 : decode cX5_reduceRow 96 = .ok (.getfield 30, 3) := by decide +kernel
theorem dX5_reduceRow_99 : decode cX5_reduceRow 99 = .ok (.invokestatic 107, 3) := by decide +kernel
theorem dX5_reduceRow_102 : decode cX5_reduceRow 102 = .ok (.istore 6, 2) := by decide +kernel
theorem dX5_reduceRow_104 : decode cX5_reduceRow 104 = .ok (.aload_n 0, 1) := by decide +kernel
theorem dX5_reduceRow_105 : decode cX5_reduceRow 105 = .ok (.aload_n 0, 1) := by decide +kernel
theorem dX5_reduceRow_106 : decode cX5_reduceRow 106 = .ok (.getfield 26, 3) := by decide +kernel
theorem dX5_reduceRow_109 : decode cX5_reduceRow 109 = .ok (.iload 4, 2) := by decide +kernel
theorem dX5_reduceRow_111 : decode cX5_reduceRow 111 = .ok (.aload_n 0, 1) := by decide +kernel
theorem dX5_reduceRow_112 : decode cX5_reduceRow 112 = .ok (.getfield 41, 3) := by decide +kernel
theorem dX5_reduceRow_115 : decode cX5_reduceRow 115 = .ok (.isub, 1) := by decide +kernel
theorem dX5_reduceRow_116 : decode cX5_reduceRow 116 = .ok (.iload_n 3, 1) := by decide +kernel
theorem dX5_reduceRow_117 : decode cX5_reduceRow 117 = .ok (.iload 4, 2) := by decide +kernel
theorem dX5_reduceRow_119 : decode cX5_reduceRow 119 = .ok (.isub, 1) := by decide +kernel
theorem dX5_reduceRow_120 : decode cX5_reduceRow 120 = .ok (.aload_n 0, 1) := by decide +kernel
theorem dX5_reduceRow_121 : decode cX5_reduceRow 121 = .ok (.getfield 44, 3) := by decide +kernel
theorem dX5_reduceRow_124 : decode cX5_reduceRow 124 = .ok (.isub, 1) := by decide +kernel
theorem dX5_reduceRow_125 : decode cX5_reduceRow 125 = .ok (.iload 6, 2) := by decide +kernel
theorem dX5_reduceRow_127 : decode cX5_reduceRow 127 = .ok (.invokevirtual 93, 3) := by decide +kernel
theorem dX5_reduceRow_130 : decode cX5_reduceRow 130 = .ok (.iinc 4 (-1), 3) := by decide +kernel
theorem dX5_reduceRow_133 : decode cX5_reduceRow 133 = .ok (.goto (-74), 3) := by decide +kernel
theorem dX5_reduceRow_136 : decode cX5_reduceRow 136 = .ok (.iinc 2 1, 3) := by decide +kernel
theorem dX5_reduceRow_139 : decode cX5_reduceRow 139 = .ok (.goto (-114), 3) := by decide +kernel
theorem dX5_reduceRow_142 : decode cX5_reduceRow 142 = .ok (.return_, 1) := by decide +kernel
theorem dX5_addRow_0 : decode cX5_addRow 0 = .ok (.aload_n 0, 1) := by decide +kernel
theorem dX5_addRow_1 : decode cX5_addRow 1 = .ok (.invokevirtual 65, 3) := by decide +kernel
theorem dX5_addRow_4 : decode cX5_addRow 4 = .ok (.iconst 0, 1) := by decide +kernel
theorem dX5_addRow_5 : decode cX5_addRow 5 = .ok (.istore_n 1, 1) := by decide +kernel
theorem dX5_addRow_6 : decode cX5_addRow 6 = .ok (.iload_n 1, 1) := by decide +kernel
theorem dX5_addRow_7 : decode cX5_addRow 7 = .ok (.aload_n 0, 1) := by decide +kernel
theorem dX5_addRow_8 : decode cX5_addRow 8 = .ok (.getfield 34, 3) := by decide +kernel
theorem dX5_addRow_11 : decode cX5_addRow 11 = .ok (.if_icmp .gt 60, 3) := by decide +kernel
theorem dX5_addRow_14 : decode cX5_addRow 14 = .ok (.iconst 0, 1) := by decide +kernel
theorem dX5_addRow_15 : decode cX5_addRow 15 = .ok (.istore_n 2, 1) := by decide +kernel
theorem dX5_addRow_16 : decode cX5_addRow 16 = .ok (.iload_n 2, 1) := by decide +kernel
theorem dX5_addRow_17 : decode cX5_addRow 17 = .ok (.aload_n 0, 1) := by decide +kernel
theorem dX5_addRow_18 : decode cX5_addRow 18 = .ok (.getfield 34, 3) := by decide +kernel
theorem dX5_addRow_21 : decode cX5_addRow 21 = .ok (.iload_n 1, 1) := by decide +kernel
theorem dX5_addRow_22 : decode cX5_addRow 22 = .ok (.isub, 1) := by decide +kernel
theorem dX5_addRow_23 : decode cX5_addRow 23 = .ok (.if_icmp .gt 42, 3) := by decide +kernel
theorem dX5_addRow_26 : decode cX5_addRow 26 = .ok (.aload_n 0, 1) := by decide +kernel
theorem dX5_addRow_27 : decode cX5_addRow 27 = .ok (.getfield 15, 3) := by decide +kernel
theorem dX5_addRow_30 : decode cX5_addRow 30 = .ok (.iload_n 1, 1) := by decide +kernel
theorem dX5_addRow_31 : decode cX5_addRow 31 = .ok (.bipush 25, 2) := by decide +kernel
theorem dX5_addRow_33 : decode cX5_addRow 33 = .ok (.imul, 1) := by decide +kernel
theorem dX5_addRow_34 : decode cX5_addRow 34 = .ok (.iload_n 2, 1) := by decide +kernel
theorem dX5_addRow_35 : decode cX5_addRow 35 = .ok (.iadd, 1) := by decide +kernel
theorem dX5_addRow_36 : decode cX5_addRow 36 = .ok (.iaload, 1) := by decide +kernel
theorem dX5_addRow_37 : decode cX5_addRow 37 = .ok (.istore_n 3, 1) := by decide +kernel
theorem dX5_addRow_38 : decode cX5_addRow 38 = .ok (.iload_n 3, 1) := by decide +kernel
theorem dX5_addRow_39 : decode cX5_addRow 39 = .ok (.ifCond .lt 20, 3) := by decide +kernel
theorem dX5_addRow_42 : decode cX5_addRow 42 = .ok (.aload_n 0, 1) := by decide +kernel
theorem dX5_addRow_43 : decode cX5_addRow 43 = .ok (.getfield 20, 3) := by decide +kernel
theorem dX5_addRow_46 : decode cX5_addRow 46 = .ok (.iload_n 3, 1) := by decide +kernel
theorem dX5_addRow_47 : decode cX5_addRow 47 = .ok (.aload_n 0, 1) := by decide +kernel
theorem dX5_addRow_48 : decode cX5_addRow 48 = .ok (.getfield 11, 3) := by decide +kernel
theorem dX5_addRow_51 : decode cX5_addRow 51 = .ok (.iload_n 1, 1) := by decide +kernel
theorem dX5_addRow_52 : decode cX5_addRow 52 = .ok (.bipush 25, 2) := by decide +kernel
theorem dX5_addRow_54 : decode cX5_addRow 54 = .ok (.imul, 1) := by decide +kernel
theorem dX5_addRow_55 : decode cX5_addRow 55 = .ok (.iload_n 2, 1) := by decide +kernel
theorem dX5_addRow_56 : decode cX5_addRow 56 = .ok (.iadd, 1) := by decide +kernel
theorem dX5_addRow_57 : decode cX5_addRow 57 = .ok (.iaload, 1) := by decide +kernel
theorem dX5_addRow_58 : decode cX5_addRow 58 = .ok (.iastore, 1) := by decide +kernel
theorem dX5_addRow_59 : decode cX5_addRow 59 = .ok (.iinc 2 1, 3) := by decide +kernel
theorem dX5_addRow_62 : decode cX5_addRow 62 = .ok (.goto (-46), 3) := by decide +kernel
theorem dX5_addRow_65 : decode cX5_addRow 65 = .ok (.iinc 1 1, 3) := by decide +kernel
theorem dX5_addRow_68 : decode cX5_addRow 68 = .ok (.goto (-62), 3) := by decide +kernel
theorem dX5_addRow_71 : decode cX5_addRow 71 = .ok (.aload_n 0, 1) := by decide +kernel
theorem dX5_addRow_72 : decode cX5_addRow 72 = .ok (.getfield 50, 3) := by decide +kernel
theorem dX5_addRow_75 : decode cX5_addRow 75 = .ok (.aload_n 0, 1) := by decide +kernel
theorem dX5_addRow_76 : decode cX5_addRow 76 = .ok (.getfield 20, 3) := by decide +kernel
theorem dX5_addRow_79 : decode cX5_addRow 79 = .ok (.invokevirtual 68, 3) := by decide +kernel
theorem dX5_addRow_82 : decode cX5_addRow 82 = .ok (.ireturn, 1) := by decide +kernel
theorem dX5_clearLine_0 : decode cX5_clearLine 0 = .ok (.iconst 0, 1) := by decide +kernel
theorem dX5_clearLine_1 : decode cX5_clearLine 1 = .ok (.istore_n 1, 1) := by decide +kernel
theorem dX5_clearLine_2 : decode cX5_clearLine 2 = .ok (.iload_n 1, 1) := by decide +kernel
theorem dX5_clearLine_3 : decode cX5_clearLine 3 = .ok (.aload_n 0, 1) := by decide +kernel
theorem dX5_clearLine_4 : decode cX5_clearLine 4 = .ok (.getfield 20, 3) := by decide +kernel
theorem dX5_clearLine_7 : decode cX5_clearLine 7 = .ok (.arraylength, 1) := by decide +kernel
theorem dX5_clearLine_8 : decode cX5_clearLine 8 = .ok (.if_icmp .ge 16, 3) := by decide +kernel
theorem dX5_clearLine_11 : decode cX5_clearLine 11 = .ok (.aload_n 0, 1) := by decide +kernel
theorem dX5_clearLine_12 : decode cX5_clearLine 12 = .ok (.getfield 20, 3) := by decide +kernel
theorem dX5_clearLine_15 : decode cX5_clearLine 15 = .ok (.iload_n 1, 1) := by decide +kernel
theorem dX5_clearLine_16 : decode cX5_clearLine 16 = .ok (.iconst 0, 1) := by decide +kernel
theorem dX5_clearLine_17 : decode cX5_clearLine 17 = .ok (.iastore, 1) := by decide +kernel
theorem dX5_clearLine_18 : decode cX5_clearLine 18 = .ok (.iinc 1 1, 3) := by decide +kernel
theorem dX5_clearLine_21 : decode cX5_clearLine 21 = .ok (.goto (-19), 3) := by decide +kernel
theorem dX5_clearLine_24 : decode cX5_clearLine 24 = .ok (.return_, 1) := by decide +kernel
theorem dX6_init_0 : decode cX6_init 0 = .ok (.aload_n 0, 1) := by decide +kernel
theorem dX6_init_1 : decode cX6_init 1 = .ok (.invokespecial 3, 3) := by decide +kernel
theorem dX6_init_4 : decode cX6_init 4 = .ok (.aload_n 0, 1) := by decide +kernel
theorem dX6_init_5 : decode cX6_init 5 = .ok (.new 9, 3) := by decide +kernel
theorem dX6_init_8 : decode cX6_init 8 = .ok (.dup, 1) := by decide +kernel
theorem dX6_init_9 : decode cX6_init 9 = .ok (.invokespecial 11, 3) := by decide +kernel
theorem dX6_init_12 : decode cX6_init 12 = .ok (.putfield 12, 3) := by decide +kernel
theorem dX6_init_15 : decode cX6_init 15 = .ok (.aload_n 0, 1) := by decide +kernel
theorem dX6_init_16 : decode cX6_init 16 = .ok (.new 9, 3) := by decide +kernel
theorem dX6_init_19 : decode cX6_init 19 = .ok (.dup, 1) := by decide +kernel
theorem dX6_init_20 : decode cX6_init 20 = .ok (.invokespecial 11, 3) := by decide +kernel
theorem dX6_init_23 : decode cX6_init 23 = .ok (.putfield 18, 3) := by decide +kernel
theorem dX6_init_26 : decode cX6_init 26 = .ok (.aload_n 0, 1) := by decide +kernel
theorem dX6_init_27 : decode cX6_init 27 = .ok (.new 9, 3) := by decide +kernel
theorem dX6_init_30 : decode cX6_init 30 = .ok (.dup, 1) := by decide +kernel
theorem dX6_init_31 : decode cX6_init 31 = .ok (.invokespecial 11, 3) := by decide +kernel
theorem dX6_init_34 : decode cX6_init 34 = .ok (.putfield 21, 3) := by decide +kernel
theorem dX6_init_37 : decode cX6_init 37 = .ok (.aload_n 0, 1) := by decide +kernel
theorem dX6_init_38 : decode cX6_init 38 = .ok (.bipush 94, 2) := by decide +kernel
theorem dX6_init_40 : decode cX6_init 40 = .ok (.newarray .int, 2) := by decide +kernel
theorem dX6_init_42 : decode cX6_init 42 = .ok (.putfield 26, 3) := by decide +kernel
theorem dX6_init_45 : decode cX6_init 45 = .ok (.aload_n 0, 1) := by decide +kernel
theorem dX6_init_46 : decode cX6_init 46 = .ok (.aload_n 1, 1) := by decide +kernel
theorem dX6_init_47 : decode cX6_init 47 = .ok (.putfield 30, 3) := by decide +kernel
theorem dX6_init_50 : decode cX6_init 50 = .ok (.return_, 1) := by decide +kernel
theorem dX6_find_0 : decode cX6_find 0 = .ok (.aload_n 0, 1) := by decide +kernel
theorem dX6_find_1 : decode cX6_find 1 = .ok (.getfield 30, 3) := by decide +kernel
theorem dX6_find_4 : decode cX6_find 4 = .ok (.bipush 60, 2) := by decide +kernel
theorem dX6_find_6 : decode cX6_find 6 = .ok (.bipush 45, 2) := by decide +kernel
theorem dX6_find_8 : decode cX6_find 8 = .ok (.iload_n 3, 1) := by decide +kernel
theorem dX6_find_9 : decode cX6_find 9 = .ok (.invokevirtual 34, 3) := by decide +kernel
theorem dX6_find_12 : decode cX6_find 12 = .ok (.aload_n 1, 1) := by decide +kernel
theorem dX6_find_13 : decode cX6_find 13 = .ok (.invokevirtual 38, 3) := by decide +kernel
theorem dX6_find_16 : decode cX6_find 16 = .ok (.istore 4, 2) := by decide +kernel
theorem dX6_find_18 : decode cX6_find 18 = .ok (.iconst 0, 1) := by decide +kernel
theorem dX6_find_19 : decode cX6_find 19 = .ok (.istore 5, 2) := by decide +kernel
theorem dX6_find_21 : decode cX6_find 21 = .ok (.iload 5, 2) := by decide +kernel
theorem dX6_find_23 : decode cX6_find 23 = .ok (.iload 4, 2) := by decide +kernel
theorem dX6_find_25 : decode cX6_find 25 = .ok (.if_icmp .gt 49, 3) := by decide +kernel
theorem dX6_find_28 : decode cX6_find 28 = .ok (.iconst 0, 1) := by decide +kernel
theorem dX6_find_29 : decode cX6_find 29 = .ok (.istore 6, 2) := by decide +kernel
theorem dX6_find_31 : decode cX6_find 31 = .ok (.iload 6, 2) := by decide +kernel
theorem dX6_find_33 : decode cX6_find 33 = .ok (.iload 5, 2) := by decide +kernel
theorem dX6_find_35 : decode cX6_find 35 = .ok (.if_icmp .gt 33, 3) := by decide +kernel
theorem dX6_find_38 : decode cX6_find 38 = .ok (.aload_n 0, 1) := by decide +kernel
theorem dX6_find_39 : decode cX6_find 39 = .ok (.aload_n 2, 1) := by decide +kernel
theorem dX6_find_40 : decode cX6_find 40 = .ok (.iload 5, 2) := by decide +kernel
theorem dX6_find_42 : decode cX6_find 42 = .ok (.iload 6, 2) := by decide +kernel
theorem dX6_find_44 : decode cX6_find 44 = .ok (.isub, 1) := by decide +kernel
theorem dX6_find_45 : decode cX6_find 45 = .ok (.iload 6, 2) := by decide +kernel
theorem dX6_find_47 : decode cX6_find 47 = .ok (.invokevirtual 42, 3) := by decide +kernel
theorem dX6_find_50 : decode cX6_find 50 = .ok (.aload_n 0, 1) := by decide +kernel
theorem dX6_find_51 : decode cX6_find 51 = .ok (.getfield 30, 3) := by decide +kernel
theorem dX6_find_54 : decode cX6_find 54 = .ok (.aload_n 0, 1) := by decide +kernel
theorem dX6_find_55 : decode cX6_find 55 = .ok (.getfield 26, 3) := by decide +kernel
theorem dX6_find_58 : decode cX6_find 58 = .ok (.invokevirtual 46, 3) := by decide +kernel
theorem dX6_find_61 : decode cX6_find 61 = .ok (.pop, 1) := by decide +kernel
theorem dX6_find_62 : decode cX6_find 62 = .ok (.iinc 6 1, 3) := by decide +kernel
theorem dX6_find_65 : decode cX6_find 65 = .ok (.goto (-34), 3) := by decide +kernel
theorem dX6_find_68 : decode cX6_find 68 = .ok (.iinc 5 1, 3) := by decide +kernel
theorem dX6_find_71 : decode cX6_find 71 = .ok (.goto (-50), 3) := by decide +kernel
theorem dX6_find_74 : decode cX6_find 74 = .ok (.aload_n 0, 1) := by decide +kernel
theorem dX6_find_75 : decode cX6_find 75 = .ok (.aload_n 1, 1) := by decide +kernel
theorem dX6_find_76 : decode cX6_find 76 = .ok (.aload_n 2, 1) := by decide +kernel
theorem dX6_find_77 : decode cX6_find 77 = .ok (.invokevirtual 38, 3) := by decide +kernel
theorem dX6_find_80 : decode cX6_find 80 = .ok (.invokevirtual 50, 3) := by decide +kernel
theorem dX6_find_83 : decode cX6_find 83 = .ok (.aload_n 0, 1) := by decide +kernel
theorem dX6_find_84 : decode cX6_find 84 = .ok (.getfield 21, 3) := by decide +kernel
theorem dX6_find_87 : decode cX6_find 87 = .ok (.aload_n 2, 1) := by decide +kernel
theorem dX6_find_88 : decode cX6_find 88 = .ok (.invokevirtual 54, 3) := by decide +kernel
theorem dX6_find_91 : decode cX6_find 91 = .ok (.aload_n 0, 1) := by decide +kernel
theorem dX6_find_92 : decode cX6_find 92 = .ok (.getfield 12, 3) := by decide +kernel
theorem dX6_find_95 : decode cX6_find 95 = .ok (.aload_n 0, 1) := by decide +kernel
theorem dX6_find_96 : decode cX6_find 96 = .ok (.getfield 21, 3) := by decide +kernel
theorem dX6_find_99 : decode cX6_find 99 = .ok (.aload_n 0, 1) := by decide +kernel
theorem dX6_find_100 : decode cX6_find 100 = .ok (.getfield 18, 3) := by decide +kernel
theorem dX6_find_103 : decode cX6_find 103 = .ok (.iload_n 3, 1) := by decide +kernel
theorem dX6_find_104 : decode cX6_find 104 = .ok (.invokevirtual 58, 3) := by decide +kernel
theorem dX6_find_107 : decode cX6_find 107 = .ok (.aload_n 0, 1) := by decide +kernel
theorem dX6_find_108 : decode cX6_find 108 = .ok (.getfield 12, 3) := by decide +kernel
theorem dX6_find_111 : decode cX6_find 111 = .ok (.iload_n 3, 1) := by decide +kernel
theorem dX6_find_112 : decode cX6_find 112 = .ok (.invokevirtual 62, 3) := by decide +kernel
theorem dX6_find_115 : decode cX6_find 115 = .ok (.aload_n 0, 1) := by decide +kernel
theorem dX6_find_116 : decode cX6_find 116 = .ok (.getfield 12, 3) := by decide +kernel
theorem dX6_find_119 : decode cX6_find 119 = .ok (.areturn, 1) := by decide +kernel
theorem dX6_findCofactor_0 : decode cX6_findCofactor 0 = .ok (.aload_n 0, 1) := by decide +kernel
theorem dX6_findCofactor_1 : decode cX6_findCofactor 1 = .ok (.getfield 18, 3) := by decide +kernel
theorem dX6_findCofactor_4 : decode cX6_findCofactor 4 = .ok (.iconst 1, 1) := by decide +kernel
theorem dX6_findCofactor_5 : decode cX6_findCofactor 5 = .ok (.invokevirtual 66, 3) := by decide +kernel
theorem dX6_findCofactor_8 : decode cX6_findCofactor 8 = .ok (.iconst 0, 1) := by decide +kernel
theorem dX6_findCofactor_9 : decode cX6_findCofactor 9 = .ok (.istore_n 3, 1) := by decide +kernel
theorem dX6_findCofactor_10 : decode cX6_findCofactor 10 = .ok (.iload_n 3, 1) := by decide +kernel
theorem dX6_findCofactor_11 : decode cX6_findCofactor 11 = .ok (.iload_n 2, 1) := by decide +kernel
theorem dX6_findCofactor_12 : decode cX6_findCofactor 12 = .ok (.if_icmp .gt 71, 3) := by decide +kernel
theorem dX6_findCofactor_15 : decode cX6_findCofactor 15 = .ok (.iconst 0, 1) := by decide +kernel
theorem dX6_findCofactor_16 : decode cX6_findCofactor 16 = .ok (.istore 4, 2) := by decide +kernel
theorem dX6_findCofactor_18 : decode cX6_findCofactor 18 = .ok (.iload 4, 2) := by decide +kernel
theorem dX6_findCofactor_20 : decode cX6_findCofactor 20 = .ok (.iload_n 3, 1) := by decide +kernel
theorem dX6_findCofactor_21 : decode cX6_findCofactor 21 = .ok (.if_icmp .gt 56, 3) := by decide +kernel
theorem dX6_findCofactor_24 : decode cX6_findCofactor 24 = .ok (.aload_n 0, 1) := by decide +kernel
theorem dX6_findCofactor_25 : decode cX6_findCofactor 25 = .ok (.aload_n 1, 1) := by decide +kernel
theorem dX6_findCofactor_26 : decode cX6_findCofactor 26 = .ok (.iload_n 3, 1) := by decide +kernel
theorem dX6_findCofactor_27 : decode cX6_findCofactor 27 = .ok (.iload 4, 2) := by decide +kernel
theorem dX6_findCofactor_29 : decode cX6_findCofactor 29 = .ok (.isub, 1) := by decide +kernel
theorem dX6_findCofactor_30 : decode cX6_findCofactor 30 = .ok (.iload 4, 2) := by decide +kernel
theorem dX6_findCofactor_32 : decode cX6_findCofactor 32 = .ok (.invokevirtual 42, 3) := by decide +kernel
theorem dX6_findCofactor_35 : decode cX6_findCofactor 35 = .ok (.aload_n 0, 1) := by decide +kernel
theorem dX6_findCofactor_36 : decode cX6_findCofactor 36 = .ok (.bipush 45, 2) := by decide +kernel
theorem dX6_findCofactor_38 : decode cX6_findCofactor 38 = .ok (.iload_n 3, 1) := by decide +kernel
theorem dX6_findCofactor_39 : decode cX6_findCofactor 39 = .ok (.iload 4, 2) := by decide +kernel
theorem dX6_findCofactor_41 : decode cX6_findCofactor 41 = .ok (.isub, 1) := by decide +kernel
theorem dX6_findCofactor_42 : decode cX6_findCofactor 42 = .ok (.iload 4, 2) := by decide +kernel
theorem dX6_findCofactor_44 : decode cX6_findCofactor 44 = .ok (.invokestatic 69, 3) := by decide +kernel
theorem dX6_findCofactor_47 : decode cX6_findCofactor 47 = .ok (.iadd, 1) := by decide +kernel
theorem dX6_findCofactor_48 : decode cX6_findCofactor 48 = .ok (.iconst 1, 1) := by decide +kernel
theorem dX6_findCofactor_49 : decode cX6_findCofactor 49 = .ok (.invokevirtual 73, 3) := by decide +kernel
theorem dX6_findCofactor_52 : decode cX6_findCofactor 52 = .ok (.aload_n 0, 1) := by decide +kernel
theorem dX6_findCofactor_53 : decode cX6_findCofactor 53 = .ok (.getfield 30, 3) := by decide +kernel
theorem dX6_findCofactor_56 : decode cX6_findCofactor 56 = .ok (.aload_n 0, 1) := by decide +kernel
theorem dX6_findCofactor_57 : decode cX6_findCofactor 57 = .ok (.getfield 26, 3) := by decide +kernel
theorem dX6_findCofactor_60 : decode cX6_findCofactor 60 = .ok (.invokevirtual 46, 3) := by decide +kernel
theorem dX6_findCofactor_63 : decode cX6_findCofactor 63 = .ok (.ifCond .ne 8, 3) := by decide +kernel
theorem dX6_findCofactor_66 : decode cX6_findCofactor 66 = .ok (.aload_n 0, 1) := by decide +kernel
theorem dX6_findCofactor_67 : decode cX6_findCofactor 67 = .ok (.invokevirtual 77, 3) := by decide +kernel
theorem dX6_findCofactor_70 : decode cX6_findCofactor 70 = .ok (.return_, 1) := by decide +kernel
theorem dX6_findCofactor_71 : decode cX6_findCofactor 71 = .ok (.iinc 4 1, 3) := by decide +kernel
theorem dX6_findCofactor_74 : decode cX6_findCofactor 74 = .ok (.goto (-56), 3) := by decide +kernel
theorem dX6_findCofactor_77 : decode cX6_findCofactor 77 = .ok (.iinc 3 1, 3) := by decide +kernel
theorem dX6_findCofactor_80 : decode cX6_findCofactor 80 = .ok (.goto (-70), 3) := by decide +kernel
theorem dX6_findCofactor_83 : decode cX6_findCofactor 83 = .ok (.return_, 1) := by decide +kernel
theorem dX6_takeCofactor_0 : decode cX6_takeCofactor 0 = .ok (.iconst 0, 1) := by decide +kernel
theorem dX6_takeCofactor_1 : decode cX6_takeCofactor 1 = .ok (.istore_n 1, 1) := by decide +kernel
theorem dX6_takeCofactor_2 : decode cX6_takeCofactor 2 = .ok (.iload_n 1, 1) := by decide +kernel
theorem dX6_takeCofactor_3 : decode cX6_takeCofactor 3 = .ok (.iconst 4, 1) := by decide +kernel
theorem dX6_takeCofactor_4 : decode cX6_takeCofactor 4 = .ok (.if_icmp .gt 46, 3) := by decide +kernel
theorem dX6_takeCofactor_7 : decode cX6_takeCofactor 7 = .ok (.iconst 0, 1) := by decide +kernel
theorem dX6_takeCofactor_8 : decode cX6_takeCofactor 8 = .ok (.istore_n 2, 1) := by decide +kernel
theorem dX6_takeCofactor_9 : decode cX6_takeCofactor 9 = .ok (.iload_n 2, 1) := by decide +kernel
theorem dX6_takeCofactor_10 : decode cX6_takeCofactor 10 = .ok (.iconst 4, 1) := by decide +kernel
theorem dX6_takeCofactor_11 : decode cX6_takeCofactor 11 = .ok (.iload_n 1, 1) := by decide +kernel
theorem dX6_takeCofactor_12 : decode cX6_takeCofactor 12 = .ok (.isub, 1) := by decide +kernel
theorem dX6_takeCofactor_13 : decode cX6_takeCofactor 13 = .ok (.if_icmp .gt 31, 3) := by decide +kernel
theorem dX6_takeCofactor_16 : decode cX6_takeCofactor 16 = .ok (.aload_n 0, 1) := by decide +kernel
theorem dX6_takeCofactor_17 : decode cX6_takeCofactor 17 = .ok (.getfield 18, 3) := by decide +kernel
theorem dX6_takeCofactor_20 : decode cX6_takeCofactor 20 = .ok (.iload_n 1, 1) := by decide +kernel
theorem dX6_takeCofactor_21 : decode cX6_takeCofactor 21 = .ok (.iload_n 2, 1) := by decide +kernel
theorem dX6_takeCofactor_22 : decode cX6_takeCofactor 22 = .ok (.aload_n 0, 1) := by decide +kernel
theorem dX6_takeCofactor_23 : decode cX6_takeCofactor 23 = .ok (.getfield 26, 3) := by decide +kernel
theorem dX6_takeCofactor_26 : decode cX6_takeCofactor 26 = .ok (.bipush 45, 2) := by decide +kernel
theorem dX6_takeCofactor_28 : decode cX6_takeCofactor 28 = .ok (.iload_n 1, 1) := by decide +kernel
theorem dX6_takeCofactor_29 : decode cX6_takeCofactor 29 = .ok (.iload_n 2, 1) := by decide +kernel
theorem dX6_takeCofactor_30 : decode cX6_takeCofactor 30 = .ok (.invokestatic 69, 3) := by decide +kernel
theorem dX6_takeCofactor_33 : decode cX6_takeCofactor 33 = .ok (.iadd, 1) := by decide +kernel
theorem dX6_takeCofactor_34 : decode cX6_takeCofactor 34 = .ok (.iaload, 1) := by decide +kernel
theorem dX6_takeCofactor_35 : decode cX6_takeCofactor 35 = .ok (.invokevirtual 80, 3) := by decide +kernel
theorem dX6_takeCofactor_38 : decode cX6_takeCofactor 38 = .ok (.iinc 2 1, 3) := by decide +kernel
theorem dX6_takeCofactor_41 : decode cX6_takeCofactor 41 = .ok (.goto (-32), 3) := by decide +kernel
theorem dX6_takeCofactor_44 : decode cX6_takeCofactor 44 = .ok (.iinc 1 1, 3) := by decide +kernel
theorem dX6_takeCofactor_47 : decode cX6_takeCofactor 47 = .ok (.goto (-45), 3) := by decide +kernel
theorem dX6_takeCofactor_50 : decode cX6_takeCofactor 50 = .ok (.return_, 1) := by decide +kernel
theorem dX6_setLine_0 : decode cX6_setLine 0 = .ok (.iconst 0, 1) := by decide +kernel
theorem dX6_setLine_1 : decode cX6_setLine 1 = .ok (.istore 4, 2) := by decide +kernel
theorem dX6_setLine_3 : decode cX6_setLine 3 = .ok (.iload 4, 2) := by decide +kernel
theorem dX6_setLine_5 : decode cX6_setLine 5 = .ok (.aload_n 0, 1) := by decide +kernel
theorem dX6_setLine_6 : decode cX6_setLine 6 = .ok (.getfield 26, 3) := by decide +kernel
theorem dX6_setLine_9 : decode cX6_setLine 9 = .ok (.arraylength, 1) := by decide +kernel
theorem dX6_setLine_10 : decode cX6_setLine 10 = .ok (.if_icmp .ge 17, 3) := by decide +kernel
theorem dX6_setLine_13 : decode cX6_setLine 13 = .ok (.aload_n 0, 1) := by decide +kernel
theorem dX6_setLine_14 : decode cX6_setLine 14 = .ok (.getfield 26, 3) := by decide +kernel
theorem dX6_setLine_17 : decode cX6_setLine 17 = .ok (.iload 4, 2) := by decide +kernel
theorem dX6_setLine_19 : decode cX6_setLine 19 = .ok (.iconst 0, 1) := by decide +kernel
theorem dX6_setLine_20 : decode cX6_setLine 20 = .ok (.iastore, 1) := by decide +kernel
theorem dX6_setLine_21 : decode cX6_setLine 21 = .ok (.iinc 4 1, 3) := by decide +kernel
theorem dX6_setLine_24 : decode cX6_setLine 24 = .ok (.goto (-21), 3) := by decide +kernel
theorem dX6_setLine_27 : decode cX6_setLine 27 = .ok (.iconst 0, 1) := by decide +kernel
theorem dX6_setLine_28 : decode cX6_setLine 28 = .ok (.istore 4, 2) := by decide +kernel
theorem dX6_setLine_30 : decode cX6_setLine 30 = .ok (.iload 4, 2) := by decide +kernel
theorem dX6_setLine_32 : decode cX6_setLine 32 = .ok (.iconst 4, 1) := by decide +kernel
theorem dX6_setLine_33 : decode cX6_setLine 33 = .ok (.if_icmp .gt 50, 3) := by decide +kernel
theorem dX6_setLine_36 : decode cX6_setLine 36 = .ok (.iconst 0, 1) := by decide +kernel
theorem dX6_setLine_37 : decode cX6_setLine 37 = .ok (.istore 5, 2) := by decide +kernel
theorem dX6_setLine_39 : decode cX6_setLine 39 = .ok (.iload 5, 2) := by decide +kernel
theorem dX6_setLine_41 : decode cX6_setLine 41 = .ok (.iconst 4, 1) := by decide +kernel
theorem dX6_setLine_42 : decode cX6_setLine 42 = .ok (.iload 4, 2) := by decide +kernel
theorem dX6_setLine_44 : decode cX6_setLine 44 = .ok (.isub, 1) := by decide +kernel
theorem dX6_setLine_45 : decode cX6_setLine 45 = .ok (.if_icmp .gt 32, 3) := by decide +kernel
theorem dX6_setLine_48 : decode cX6_setLine 48 = .ok (.aload_n 0, 1) := by decide +kernel
theorem dX6_setLine_49 : decode cX6_setLine 49 = .ok (.iload 4, 2) := by decide +kernel
theorem dX6_setLine_51 : decode cX6_setLine 51 = .ok (.iload_n 2, 1) := by decide +kernel
theorem dX6_setLine_52 : decode cX6_setLine 52 = .ok (.iadd, 1) := by decide +kernel
theorem dX6_setLine_53 : decode cX6_setLine 53 = .ok (.iload 5, 2) := by decide +kernel
theorem dX6_setLine_55 : decode cX6_setLine 55 = .ok (.iload_n 3, 1) := by decide +kernel
theorem dX6_setLine_56 : decode cX6_setLine 56 = .ok (.iadd, 1) := by decide +kernel
theorem dX6_setLine_57 : decode cX6_setLine 57 = .ok (.invokestatic 69, 3) := by decide +kernel
theorem dX6_setLine_60 : decode cX6_setLine 60 = .ok (.aload_n 1, 1) := by decide +kernel
theorem dX6_setLine_61 : decode cX6_setLine 61 = .ok (.iload 4, 2) := by decide +kernel
theorem dX6_setLine_63 : decode cX6_setLine 63 = .ok (.iload 5, 2) := by decide +kernel
theorem dX6_setLine_65 : decode cX6_setLine 65 = .ok (.invokevirtual 83, 3) := by decide +kernel
theorem dX6_setLine_68 : decode cX6_setLine 68 = .ok (.invokevirtual 73, 3) := by decide +kernel
theorem dX6_setLine_71 : decode cX6_setLine 71 = .ok (.iinc 5 1, 3) := by decide +kernel
theorem dX6_setLine_74 : decode cX6_setLine 74 = .ok (.goto (-35), 3) := by decide +kernel
theorem dX6_setLine_77 : decode cX6_setLine 77 = .ok (.iinc 4 1, 3) := by decide +kernel
theorem dX6_setLine_80 : decode cX6_setLine 80 = .ok (.goto (-50), 3) := by decide +kernel
theorem dX6_setLine_83 : decode cX6_setLine 83 = .ok (.return_, 1) := by decide +kernel
theorem dX6_setColumn_0 : decode cX6_setColumn 0 = .ok (.iload_n 1, 1) := by decide +kernel
theorem dX6_setColumn_1 : decode cX6_setColumn 1 = .ok (.ifCond .lt 23, 3) := by decide +kernel
theorem dX6_setColumn_4 : decode cX6_setColumn 4 = .ok (.iload_n 1, 1) := by decide +kernel
theorem dX6_setColumn_5 : decode cX6_setColumn 5 = .ok (.aload_n 0, 1) := by decide +kernel
theorem dX6_setColumn_6 : decode cX6_setColumn 6 = .ok (.getfield 26, 3) := by decide +kernel
theorem dX6_setColumn_9 : decode cX6_setColumn 9 = .ok (.arraylength, 1) := by decide +kernel
theorem dX6_setColumn_10 : decode cX6_setColumn 10 = .ok (.if_icmp .ge 14, 3) := by decide +kernel
theorem dX6_setColumn_13 : decode cX6_setColumn 13 = .ok (.iload_n 2, 1) := by decide +kernel
theorem dX6_setColumn_14 : decode cX6_setColumn 14 = .ok (.ifCond .eq 10, 3) := by decide +kernel
theorem dX6_setColumn_17 : decode cX6_setColumn 17 = .ok (.aload_n 0, 1) := by decide +kernel
theorem dX6_setColumn_18 : decode cX6_setColumn 18 = .ok (.getfield 26, 3) := by decide +kernel
theorem dX6_setColumn_21 : decode cX6_setColumn 21 = .ok (.iload_n 1, 1) := by decide +kernel
theorem dX6_setColumn_22 : decode cX6_setColumn 22 = .ok (.iload_n 2, 1) := by decide +kernel
theorem dX6_setColumn_23 : decode cX6_setColumn 23 = .ok (.iastore, 1) := by decide +kernel
theorem dX6_setColumn_24 : decode cX6_setColumn 24 = .ok (.return_, 1) := by decide +kernel
theorem dX6_column_0 : decode cX6_column 0 = .ok (.iload_n 0, 1) := by decide +kernel
theorem dX6_column_1 : decode cX6_column 1 = .ok (.iload_n 1, 1) := by decide +kernel
theorem dX6_column_2 : decode cX6_column 2 = .ok (.iadd, 1) := by decide +kernel
theorem dX6_column_3 : decode cX6_column 3 = .ok (.istore_n 2, 1) := by decide +kernel
theorem dX6_column_4 : decode cX6_column 4 = .ok (.iload_n 2, 1) := by decide +kernel
theorem dX6_column_5 : decode cX6_column 5 = .ok (.iload_n 2, 1) := by decide +kernel
theorem dX6_column_6 : decode cX6_column 6 = .ok (.iconst 1, 1) := by decide +kernel
theorem dX6_column_7 : decode cX6_column 7 = .ok (.iadd, 1) := by decide +kernel
theorem dX6_column_8 : decode cX6_column 8 = .ok (.imul, 1) := by decide +kernel
theorem dX6_column_9 : decode cX6_column 9 = .ok (.iconst 2, 1) := by decide +kernel
theorem dX6_column_10 : decode cX6_column 10 = .ok (.idiv, 1) := by decide +kernel
theorem dX6_column_11 : decode cX6_column 11 = .ok (.iload_n 1, 1) := by decide +kernel
theorem dX6_column_12 : decode cX6_column 12 = .ok (.iadd, 1) := by decide +kernel
theorem dX6_column_13 : decode cX6_column 13 = .ok (.ireturn, 1) := by decide +kernel
theorem dX7_init_0 : decode cX7_init 0 = .ok (.aload_n 0, 1) := by decide +kernel
theorem dX7_init_1 : decode cX7_init 1 = .ok (.invokespecial 3, 3) := by decide +kernel
theorem dX7_init_4 : decode cX7_init 4 = .ok (.aload_n 0, 1) := by decide +kernel
theorem dX7_init_5 : decode cX7_init 5 = .ok (.bipush 7, 2) := by decide +kernel
theorem dX7_init_7 : decode cX7_init 7 = .ok (.putfield 9, 3) := by decide +kernel
theorem dX7_init_10 : decode cX7_init 10 = .ok (.aload_n 0, 1) := by decide +kernel
theorem dX7_init_11 : decode cX7_init 11 = .ok (.iconst 0, 1) := by decide +kernel
theorem dX7_init_12 : decode cX7_init 12 = .ok (.putfield 15, 3) := by decide +kernel
theorem dX7_init_15 : decode cX7_init 15 = .ok (.aload_n 0, 1) := by decide +kernel
theorem dX7_init_16 : decode cX7_init 16 = .ok (.bipush 6, 2) := by decide +kernel
theorem dX7_init_18 : decode cX7_init 18 = .ok (.anewarray 18, 3) := by decide +kernel
theorem dX7_init_21 : decode cX7_init 21 = .ok (.putfield 20, 3) := by decide +kernel
theorem dX7_init_24 : decode cX7_init 24 = .ok (.aload_n 0, 1) := by decide +kernel
theorem dX7_init_25 : decode cX7_init 25 = .ok (.bipush 36, 2) := by decide +kernel
theorem dX7_init_27 : decode cX7_init 27 = .ok (.newarray .int, 2) := by decide +kernel
theorem dX7_init_29 : decode cX7_init 29 = .ok (.putfield 24, 3) := by decide +kernel
theorem dX7_init_32 : decode cX7_init 32 = .ok (.iconst 0, 1) := by decide +kernel
theorem dX7_init_33 : decode cX7_init 33 = .ok (.istore_n 1, 1) := by decide +kernel
theorem dX7_init_34 : decode cX7_init 34 = .ok (.iload_n 1, 1) := by decide +kernel
theorem dX7_init_35 : decode cX7_init 35 = .ok (.bipush 6, 2) := by decide +kernel
theorem dX7_init_37 : decode cX7_init 37 = .ok (.if_icmp .ge 22, 3) := by decide +kernel
theorem dX7_init_40 : decode cX7_init 40 = .ok (.aload_n 0, 1) := by decide +kernel
theorem dX7_init_41 : decode cX7_init 41 = .ok (.getfield 20, 3) := by decide +kernel
theorem dX7_init_44 : decode cX7_init 44 = .ok (.iload_n 1, 1) := by decide +kernel
theorem dX7_init_45 : decode cX7_init 45 = .ok (.new 18, 3) := by decide +kernel
theorem dX7_init_48 : decode cX7_init 48 = .ok (.dup, 1) := by decide +kernel
theorem dX7_init_49 : decode cX7_init 49 = .ok (.invokespecial 28, 3) := by decide +kernel
theorem dX7_init_52 : decode cX7_init 52 = .ok (.aastore, 1) := by decide +kernel
theorem dX7_init_53 : decode cX7_init 53 = .ok (.iinc 1 1, 3) := by decide +kernel
theorem dX7_init_56 : decode cX7_init 56 = .ok (.goto (-22), 3) := by decide +kernel
theorem dX7_init_59 : decode cX7_init 59 = .ok (.return_, 1) := by decide +kernel
theorem dX7_find_0 : decode cX7_find 0 = .ok (.iload_n 1, 1) := by decide +kernel
theorem dX7_find_1 : decode cX7_find 1 = .ok (.ifCond .lt 17, 3) := by decide +kernel
theorem dX7_find_4 : decode cX7_find 4 = .ok (.iload_n 1, 1) := by decide +kernel
theorem dX7_find_5 : decode cX7_find 5 = .ok (.aload_n 0, 1) := by decide +kernel
theorem dX7_find_6 : decode cX7_find 6 = .ok (.getfield 15, 3) := by decide +kernel
theorem dX7_find_9 : decode cX7_find 9 = .ok (.if_icmp .ge 9, 3) := by decide +kernel
theorem dX7_find_12 : decode cX7_find 12 = .ok (.iload_n 1, 1) := by decide +kernel
theorem dX7_find_13 : decode cX7_find 13 = .ok (.bipush 6, 2) := by decide +kernel
theorem dX7_find_15 : decode cX7_find 15 = .ok (.if_icmp .lt 7, 3) := by decide +kernel
theorem dX7_find_18 : decode cX7_find 18 = .ok (.aconst_null, 1) := by decide +kernel
theorem dX7_find_19 : decode cX7_find 19 = .ok (.goto 9, 3) := by decide +kernel
theorem dX7_find_22 : decode cX7_find 22 = .ok (.aload_n 0, 1) := by decide +kernel
theorem dX7_find_23 : decode cX7_find 23 = .ok (.getfield 20, 3) := by decide +kernel
theorem dX7_find_26 : decode cX7_find 26 = .ok (.iload_n 1, 1) := by decide +kernel
theorem dX7_find_27 : decode cX7_find 27 = .ok (.aaload, 1) := by decide +kernel
theorem dX7_find_28 : decode cX7_find 28 = .ok (.areturn, 1) := by decide +kernel
theorem dX7_copy_0 : decode cX7_copy 0 = .ok (.aload_n 0, 1) := by decide +kernel
theorem dX7_copy_1 : decode cX7_copy 1 = .ok (.aload_n 1, 1) := by decide +kernel
theorem dX7_copy_2 : decode cX7_copy 2 = .ok (.getfield 9, 3) := by decide +kernel
theorem dX7_copy_5 : decode cX7_copy 5 = .ok (.putfield 9, 3) := by decide +kernel
theorem dX7_copy_8 : decode cX7_copy 8 = .ok (.aload_n 0, 1) := by decide +kernel
theorem dX7_copy_9 : decode cX7_copy 9 = .ok (.aload_n 1, 1) := by decide +kernel
theorem dX7_copy_10 : decode cX7_copy 10 = .ok (.getfield 15, 3) := by decide +kernel
theorem dX7_copy_13 : decode cX7_copy 13 = .ok (.putfield 15, 3) := by decide +kernel
theorem dX7_copy_16 : decode cX7_copy 16 = .ok (.iconst 0, 1) := by decide +kernel
theorem dX7_copy_17 : decode cX7_copy 17 = .ok (.istore_n 2, 1) := by decide +kernel
theorem dX7_copy_18 : decode cX7_copy 18 = .ok (.iload_n 2, 1) := by decide +kernel
theorem dX7_copy_19 : decode cX7_copy 19 = .ok (.bipush 6, 2) := by decide +kernel
theorem dX7_copy_21 : decode cX7_copy 21 = .ok (.if_icmp .ge 24, 3) := by decide +kernel
theorem dX7_copy_24 : decode cX7_copy 24 = .ok (.aload_n 0, 1) := by decide +kernel
theorem dX7_copy_25 : decode cX7_copy 25 = .ok (.getfield 20, 3) := by decide +kernel
theorem dX7_copy_28 : decode cX7_copy 28 = .ok (.iload_n 2, 1) := by decide +kernel
theorem dX7_copy_29 : decode cX7_copy 29 = .ok (.aaload, 1) := by decide +kernel
theorem dX7_copy_30 : decode cX7_copy 30 = .ok (.aload_n 1, 1) := by decide +kernel
theorem dX7_copy_31 : decode cX7_copy 31 = .ok (.getfield 20, 3) := by decide +kernel
theorem dX7_copy_34 : decode cX7_copy 34 = .ok (.iload_n 2, 1) := by decide +kernel
theorem dX7_copy_35 : decode cX7_copy 35 = .ok (.aaload, 1) := by decide +kernel
theorem dX7_copy_36 : decode cX7_copy 36 = .ok (.invokevirtual 33, 3) := by decide +kernel
theorem dX7_copy_39 : decode cX7_copy 39 = .ok (.iinc 2 1, 3) := by decide +kernel
theorem dX7_copy_42 : decode cX7_copy 42 = .ok (.goto (-24), 3) := by decide +kernel
theorem dX7_copy_45 : decode cX7_copy 45 = .ok (.aload_n 1, 1) := by decide +kernel
theorem dX7_copy_46 : decode cX7_copy 46 = .ok (.getfield 24, 3) := by decide +kernel
theorem dX7_copy_49 : decode cX7_copy 49 = .ok (.iconst 0, 1) := by decide +kernel
theorem dX7_copy_50 : decode cX7_copy 50 = .ok (.aload_n 0, 1) := by decide +kernel
theorem dX7_copy_51 : decode cX7_copy 51 = .ok (.getfield 24, 3) := by decide +kernel
theorem dX7_copy_54 : decode cX7_copy 54 = .ok (.iconst 0, 1) := by decide +kernel
theorem dX7_copy_55 : decode cX7_copy 55 = .ok (.aload_n 0, 1) := by decide +kernel
theorem dX7_copy_56 : decode cX7_copy 56 = .ok (.getfield 24, 3) := by decide +kernel
theorem dX7_copy_59 : decode cX7_copy 59 = .ok (.arraylength, 1) := by decide +kernel
theorem dX7_copy_60 : decode cX7_copy 60 = .ok (.invokestatic 37, 3) := by decide +kernel
theorem dX7_copy_63 : decode cX7_copy 63 = .ok (.return_, 1) := by decide +kernel
theorem dX7_setLetter_0 : decode cX7_setLetter 0 = .ok (.aload_n 0, 1) := by decide +kernel
theorem dX7_setLetter_1 : decode cX7_setLetter 1 = .ok (.getfield 15, 3) := by decide +kernel
theorem dX7_setLetter_4 : decode cX7_setLetter 4 = .ok (.bipush 6, 2) := by decide +kernel
theorem dX7_setLetter_6 : decode cX7_setLetter 6 = .ok (.if_icmp .ge 28, 3) := by decide +kernel
theorem dX7_setLetter_9 : decode cX7_setLetter 9 = .ok (.iload_n 1, 1) := by decide +kernel
theorem dX7_setLetter_10 : decode cX7_setLetter 10 = .ok (.ifCond .lt 24, 3) := by decide +kernel
theorem dX7_setLetter_13 : decode cX7_setLetter 13 = .ok (.iload_n 1, 1) := by decide +kernel
theorem dX7_setLetter_14 : decode cX7_setLetter 14 = .ok (.bipush 6, 2) := by decide +kernel
theorem dX7_setLetter_16 : decode cX7_setLetter 16 = .ok (.if_icmp .ge 18, 3) := by decide +kernel
theorem dX7_setLetter_19 : decode cX7_setLetter 19 = .ok (.aload_n 0, 1) := by decide +kernel
theorem dX7_setLetter_20 : decode cX7_setLetter 20 = .ok (.getfield 24, 3) := by decide +kernel
theorem dX7_setLetter_23 : decode cX7_setLetter 23 = .ok (.aload_n 0, 1) := by decide +kernel
theorem dX7_setLetter_24 : decode cX7_setLetter 24 = .ok (.getfield 15, 3) := by decide +kernel
theorem dX7_setLetter_27 : decode cX7_setLetter 27 = .ok (.bipush 6, 2) := by decide +kernel
theorem dX7_setLetter_29 : decode cX7_setLetter 29 = .ok (.imul, 1) := by decide +kernel
theorem dX7_setLetter_30 : decode cX7_setLetter 30 = .ok (.iload_n 1, 1) := by decide +kernel
theorem dX7_setLetter_31 : decode cX7_setLetter 31 = .ok (.iadd, 1) := by decide +kernel
theorem dX7_setLetter_32 : decode cX7_setLetter 32 = .ok (.iload_n 2, 1) := by decide +kernel
theorem dX7_setLetter_33 : decode cX7_setLetter 33 = .ok (.iastore, 1) := by decide +kernel
theorem dX7_setLetter_34 : decode cX7_setLetter 34 = .ok (.return_, 1) := by decide +kernel
theorem dX8_init_0 : decode cX8_init 0 = .ok (.aload_n 0, 1) := by decide +kernel
theorem dX8_init_1 : decode cX8_init 1 = .ok (.invokespecial 3, 3) := by decide +kernel
theorem dX8_init_4 : decode cX8_init 4 = .ok (.aload_n 0, 1) := by decide +kernel
theorem dX8_init_5 : decode cX8_init 5 = .ok (.bipush 94, 2) := by decide +kernel
theorem dX8_init_7 : decode cX8_init 7 = .ok (.bipush 94, 2) := by decide +kernel
theorem dX8_init_9 : decode cX8_init 9 = .ok (.multianewarray 11 2, 4) := by decide +kernel
theorem dX8_init_13 : decode cX8_init 13 = .ok (.putfield 13, 3) := by decide +kernel
theorem dX8_init_16 : decode cX8_init 16 = .ok (.aload_n 0, 1) := by decide +kernel
theorem dX8_init_17 : decode cX8_init 17 = .ok (.bipush 94, 2) := by decide +kernel
theorem dX8_init_19 : decode cX8_init 19 = .ok (.newarray .boolean, 2) := by decide +kernel
theorem dX8_init_21 : decode cX8_init 21 = .ok (.putfield 16, 3) := by decide +kernel
theorem dX8_init_24 : decode cX8_init 24 = .ok (.aload_n 0, 1) := by decide +kernel
theorem dX8_init_25 : decode cX8_init 25 = .ok (.iconst 0, 1) := by decide +kernel
theorem dX8_init_26 : decode cX8_init 26 = .ok (.putfield 20, 3) := by decide +kernel
theorem dX8_init_29 : decode cX8_init 29 = .ok (.aload_n 0, 1) := by decide +kernel
theorem dX8_init_30 : decode cX8_init 30 = .ok (.iconst 0, 1) := by decide +kernel
theorem dX8_init_31 : decode cX8_init 31 = .ok (.putfield 24, 3) := by decide +kernel
theorem dX8_init_34 : decode cX8_init 34 = .ok (.aload_n 0, 1) := by decide +kernel
theorem dX8_init_35 : decode cX8_init 35 = .ok (.bipush 7, 2) := by decide +kernel
theorem dX8_init_37 : decode cX8_init 37 = .ok (.putfield 27, 3) := by decide +kernel
theorem dX8_init_40 : decode cX8_init 40 = .ok (.return_, 1) := by decide +kernel
theorem dX8_begin_0 : decode cX8_begin 0 = .ok (.aload_n 0, 1) := by decide +kernel
theorem dX8_begin_1 : decode cX8_begin 1 = .ok (.iload_n 1, 1) := by decide +kernel
theorem dX8_begin_2 : decode cX8_begin 2 = .ok (.bipush 94, 2) := by decide +kernel
theorem dX8_begin_4 : decode cX8_begin 4 = .ok (.invokestatic 30, 3) := by decide +kernel
theorem dX8_begin_7 : decode cX8_begin 7 = .ok (.putfield 20, 3) := by decide +kernel
theorem dX8_begin_10 : decode cX8_begin 10 = .ok (.aload_n 0, 1) := by decide +kernel
theorem dX8_begin_11 : decode cX8_begin 11 = .ok (.iload_n 2, 1) := by decide +kernel
theorem dX8_begin_12 : decode cX8_begin 12 = .ok (.aload_n 0, 1) := by decide +kernel
theorem dX8_begin_13 : decode cX8_begin 13 = .ok (.getfield 20, 3) := by decide +kernel
theorem dX8_begin_16 : decode cX8_begin 16 = .ok (.invokestatic 30, 3) := by decide +kernel
theorem dX8_begin_19 : decode cX8_begin 19 = .ok (.putfield 24, 3) := by decide +kernel
theorem dX8_begin_22 : decode cX8_begin 22 = .ok (.aload_n 0, 1) := by decide +kernel
theorem dX8_begin_23 : decode cX8_begin 23 = .ok (.iload_n 3, 1) := by decide +kernel
theorem dX8_begin_24 : decode cX8_begin 24 = .ok (.putfield 27, 3) := by decide +kernel
theorem dX8_begin_27 : decode cX8_begin 27 = .ok (.iconst 0, 1) := by decide +kernel
theorem dX8_begin_28 : decode cX8_begin 28 = .ok (.istore 4, 2) := by decide +kernel
theorem dX8_begin_30 : decode cX8_begin 30 = .ok (.iload 4, 2) := by decide +kernel
theorem dX8_begin_32 : decode cX8_begin 32 = .ok (.bipush 94, 2) := by decide +kernel
theorem dX8_begin_34 : decode cX8_begin 34 = .ok (.if_icmp .ge 17, 3) := by decide +kernel
theorem dX8_begin_37 : decode cX8_begin 37 = .ok (.aload_n 0, 1) := by decide +kernel
theorem dX8_begin_38 : decode cX8_begin 38 = .ok (.getfield 16, 3) := by decide +kernel
theorem dX8_begin_41 : decode cX8_begin 41 = .ok (.iload 4, 2) := by decide +kernel
theorem dX8_begin_43 : decode cX8_begin 43 = .ok (.iconst 0, 1) := by decide +kernel
theorem dX8_begin_44 : decode cX8_begin 44 = .ok (.bastore, 1) := by decide +kernel
theorem dX8_begin_45 : decode cX8_begin 45 = .ok (.iinc 4 1, 3) := by decide +kernel
theorem dX8_begin_48 : decode cX8_begin 48 = .ok (.goto (-18), 3) := by decide +kernel
theorem dX8_begin_51 : decode cX8_begin 51 = .ok (.return_, 1) := by decide +kernel
theorem dX8_add_0 : decode cX8_add 0 = .ok (.aload_n 0, 1) := by decide +kernel
theorem dX8_add_1 : decode cX8_add 1 = .ok (.getfield 27, 3) := by decide +kernel
theorem dX8_add_4 : decode cX8_add 4 = .ok (.iconst 2, 1) := by decide +kernel
theorem dX8_add_5 : decode cX8_add 5 = .ok (.if_icmp .lt 12, 3) := by decide +kernel
theorem dX8_add_8 : decode cX8_add 8 = .ok (.aload_n 1, 1) := by decide +kernel
theorem dX8_add_9 : decode cX8_add 9 = .ok (.arraylength, 1) := by decide +kernel
theorem dX8_add_10 : decode cX8_add 10 = .ok (.aload_n 0, 1) := by decide +kernel
theorem dX8_add_11 : decode cX8_add 11 = .ok (.getfield 20, 3) := by decide +kernel
theorem dX8_add_14 : decode cX8_add 14 = .ok (.if_icmp .ge 5, 3) := by decide +kernel
theorem dX8_add_17 : decode cX8_add 17 = .ok (.iconst 0, 1) := by decide +kernel
theorem dX8_add_18 : decode cX8_add 18 = .ok (.ireturn, 1) := by decide +kernel
theorem dX8_add_19 : decode cX8_add 19 = .ok (.iconst 0, 1) := by decide +kernel
theorem dX8_add_20 : decode cX8_add 20 = .ok (.istore_n 2, 1) := by decide +kernel
theorem dX8_add_21 : decode cX8_add 21 = .ok (.iload_n 2, 1) := by decide +kernel
theorem dX8_add_22 : decode cX8_add 22 = .ok (.aload_n 0, 1) := by decide +kernel
theorem dX8_add_23 : decode cX8_add 23 = .ok (.getfield 24, 3) := by decide +kernel
theorem dX8_add_26 : decode cX8_add 26 = .ok (.if_icmp .ge 93, 3) := by decide +kernel
theorem dX8_add_29 : decode cX8_add 29 = .ok (.aload_n 1, 1) := by decide +kernel
theorem dX8_add_30 : decode cX8_add 30 = .ok (.iload_n 2, 1) := by decide +kernel
theorem dX8_add_31 : decode cX8_add 31 = .ok (.iaload, 1) := by decide +kernel
theorem dX8_add_32 : decode cX8_add 32 = .ok (.istore_n 3, 1) := by decide +kernel
theorem dX8_add_33 : decode cX8_add 33 = .ok (.iload_n 3, 1) := by decide +kernel
theorem dX8_add_34 : decode cX8_add 34 = .ok (.ifCond .ne 6, 3) := by decide +kernel
theorem dX8_add_37 : decode cX8_add 37 = .ok (.goto 76, 3) := by decide +kernel
theorem dX8_add_40 : decode cX8_add 40 = .ok (.aload_n 0, 1) := by decide +kernel
theorem dX8_add_41 : decode cX8_add 41 = .ok (.getfield 16, 3) := by decide +kernel
theorem dX8_add_44 : decode cX8_add 44 = .ok (.iload_n 2, 1) := by decide +kernel
theorem dX8_add_45 : decode cX8_add 45 = .ok (.baload, 1) := by decide +kernel
theorem dX8_add_46 : decode cX8_add 46 = .ok (.ifCond .ne 11, 3) := by decide +kernel
theorem dX8_add_49 : decode cX8_add 49 = .ok (.aload_n 0, 1) := by decide +kernel
theorem dX8_add_50 : decode cX8_add 50 = .ok (.aload_n 1, 1) := by decide +kernel
theorem dX8_add_51 : decode cX8_add 51 = .ok (.iload_n 2, 1) := by decide +kernel
theorem dX8_add_52 : decode cX8_add 52 = .ok (.invokevirtual 36, 3) := by decide +kernel
theorem dX8_add_55 : decode cX8_add 55 = .ok (.iconst 1, 1) := by decide +kernel
theorem dX8_add_56 : decode cX8_add 56 = .ok (.ireturn, 1) := by decide +kernel
theorem dX8_add_57 : decode cX8_add 57 = .ok (.aload_n 0, 1) := by decide +kernel
theorem dX8_add_58 : decode cX8_add 58 = .ok (.getfield 27, 3) := by decide +kernel
theorem dX8_add_61 : decode cX8_add 61 = .ok (.iload_n 3, 1) := by decide +kernel
theorem dX8_add_62 : decode cX8_add 62 = .ok (.isub, 1) := by decide +kernel
theorem dX8_add_63 : decode cX8_add 63 = .ok (.istore 4, 2) := by decide +kernel
theorem dX8_add_65 : decode cX8_add 65 = .ok (.aload_n 0, 1) := by decide +kernel
theorem dX8_add_66 : decode cX8_add 66 = .ok (.getfield 13, 3) := by decide +kernel
theorem dX8_add_69 : decode cX8_add 69 = .ok (.iload_n 2, 1) := by decide +kernel
theorem dX8_add_70 : decode cX8_add 70 = .ok (.aaload, 1) := by decide +kernel
theorem dX8_add_71 : decode cX8_add 71 = .ok (.astore 5, 2) := by decide +kernel
theorem dX8_add_73 : decode cX8_add 73 = .ok (.iload_n 2, 1) := by decide +kernel
theorem dX8_add_74 : decode cX8_add 74 = .ok (.istore 6, 2) := by decide +kernel
theorem dX8_add_76 : decode cX8_add 76 = .ok (.iload 6, 2) := by decide +kernel
theorem dX8_add_78 : decode cX8_add 78 = .ok (.aload_n 0, 1) := by decide +kernel
theorem dX8_add_79 : decode cX8_add 79 = .ok (.getfield 20, 3) := by decide +kernel
theorem dX8_add_82 : decode cX8_add 82 = .ok (.if_icmp .ge 31, 3) := by decide +kernel
theorem dX8_add_85 : decode cX8_add 85 = .ok (.aload_n 1, 1) := by decide +kernel
theorem dX8_add_86 : decode cX8_add 86 = .ok (.iload 6, 2) := by decide +kernel
theorem dX8_add_88 : decode cX8_add 88 = .ok (.aload_n 1, 1) := by decide +kernel
theorem dX8_add_89 : decode cX8_add 89 = .ok (.iload 6, 2) := by decide +kernel
theorem dX8_add_91 : decode cX8_add 91 = .ok (.iaload, 1) := by decide +kernel
theorem dX8_add_92 : decode cX8_add 92 = .ok (.iload 4, 2) := by decide +kernel
theorem dX8_add_94 : decode cX8_add 94 = .ok (.aload 5, 2) := by decide +kernel
theorem dX8_add_96 : decode cX8_add 96 = .ok (.iload 6, 2) := by decide +kernel
theorem dX8_add_98 : decode cX8_add 98 = .ok (.iaload, 1) := by decide +kernel
theorem dX8_add_99 : decode cX8_add 99 = .ok (.imul, 1) := by decide +kernel
theorem dX8_add_100 : decode cX8_add 100 = .ok (.iadd, 1) := by decide +kernel
theorem dX8_add_101 : decode cX8_add 101 = .ok (.aload_n 0, 1) := by decide +kernel
theorem dX8_add_102 : decode cX8_add 102 = .ok (.getfield 27, 3) := by decide +kernel
theorem dX8_add_105 : decode cX8_add 105 = .ok (.irem, 1) := by decide +kernel
theorem dX8_add_106 : decode cX8_add 106 = .ok (.iastore, 1) := by decide +kernel
theorem dX8_add_107 : decode cX8_add 107 = .ok (.iinc 6 1, 3) := by decide +kernel
theorem dX8_add_110 : decode cX8_add 110 = .ok (.goto (-34), 3) := by decide +kernel
theorem dX8_add_113 : decode cX8_add 113 = .ok (.iinc 2 1, 3) := by decide +kernel
theorem dX8_add_116 : decode cX8_add 116 = .ok (.goto (-95), 3) := by decide +kernel
theorem dX8_add_119 : decode cX8_add 119 = .ok (.iconst 0, 1) := by decide +kernel
theorem dX8_add_120 : decode cX8_add 120 = .ok (.ireturn, 1) := by decide +kernel
theorem dX8_keep_0 : decode cX8_keep 0 = .ok (.aload_n 1, 1) := by decide +kernel
theorem dX8_keep_1 : decode cX8_keep 1 = .ok (.iload_n 2, 1) := by decide +kernel
theorem dX8_keep_2 : decode cX8_keep 2 = .ok (.iaload, 1) := by decide +kernel
theorem dX8_keep_3 : decode cX8_keep 3 = .ok (.aload_n 0, 1) := by decide +kernel
theorem dX8_keep_4 : decode cX8_keep 4 = .ok (.getfield 27, 3) := by decide +kernel
theorem dX8_keep_7 : decode cX8_keep 7 = .ok (.invokestatic 40, 3) := by decide +kernel
theorem dX8_keep_10 : decode cX8_keep 10 = .ok (.istore_n 3, 1) := by decide +kernel
theorem dX8_keep_11 : decode cX8_keep 11 = .ok (.iconst 0, 1) := by decide +kernel
theorem dX8_keep_12 : decode cX8_keep 12 = .ok (.istore 4, 2) := by decide +kernel
theorem dX8_keep_14 : decode cX8_keep 14 = .ok (.iload 4, 2) := by decide +kernel
theorem dX8_keep_16 : decode cX8_keep 16 = .ok (.aload_n 0, 1) := by decide +kernel
theorem dX8_keep_17 : decode cX8_keep 17 = .ok (.getfield 20, 3) := by decide +kernel
theorem dX8_keep_20 : decode cX8_keep 20 = .ok (.if_icmp .ge 31, 3) := by decide +kernel
theorem dX8_keep_23 : decode cX8_keep 23 = .ok (.aload_n 0, 1) := by decide +kernel
theorem dX8_keep_24 : decode cX8_keep 24 = .ok (.getfield 13, 3) := by decide +kernel
theorem dX8_keep_27 : decode cX8_keep 27 = .ok (.iload_n 2, 1) := by decide +kernel
theorem dX8_keep_28 : decode cX8_keep 28 = .ok (.aaload, 1) := by decide +kernel
theorem dX8_keep_29 : decode cX8_keep 29 = .ok (.iload 4, 2) := by decide +kernel
theorem dX8_keep_31 : decode cX8_keep 31 = .ok (.aload_n 1, 1) := by decide +kernel
theorem dX8_keep_32 : decode cX8_keep 32 = .ok (.iload 4, 2) := by decide +kernel
theorem dX8_keep_34 : decode cX8_keep 34 = .ok (.iaload, 1) := by decide +kernel
theorem dX8_keep_35 : decode cX8_keep 35 = .ok (.iload_n 3, 1) := by decide +kernel
theorem dX8_keep_36 : decode cX8_keep 36 = .ok (.imul, 1) := by decide +kernel
theorem dX8_keep_37 : decode cX8_keep 37 = .ok (.aload_n 0, 1) := by decide +kernel
theorem dX8_keep_38 : decode cX8_keep 38 = .ok (.getfield 27, 3) := by decide +kernel
theorem dX8_keep_41 : decode cX8_keep 41 = .ok (.invokestatic 43, 3) := by decide +kernel
theorem dX8_keep_44 : decode cX8_keep 44 = .ok (.iastore, 1) := by decide +kernel
theorem dX8_keep_45 : decode cX8_keep 45 = .ok (.iinc 4 1, 3) := by decide +kernel
theorem dX8_keep_48 : decode cX8_keep 48 = .ok (.goto (-34), 3) := by decide +kernel
theorem dX8_keep_51 : decode cX8_keep 51 = .ok (.aload_n 0, 1) := by decide +kernel
theorem dX8_keep_52 : decode cX8_keep 52 = .ok (.getfield 16, 3) := by decide +kernel
theorem dX8_keep_55 : decode cX8_keep 55 = .ok (.iload_n 2, 1) := by decide +kernel
theorem dX8_keep_56 : decode cX8_keep 56 = .ok (.iconst 1, 1) := by decide +kernel
theorem dX8_keep_57 : decode cX8_keep 57 = .ok (.bastore, 1) := by decide +kernel
theorem dX8_keep_58 : decode cX8_keep 58 = .ok (.return_, 1) := by decide +kernel
theorem dX9_init_0 : decode cX9_init 0 = .ok (.aload_n 0, 1) := by decide +kernel
theorem dX9_init_1 : decode cX9_init 1 = .ok (.invokespecial 3, 3) := by decide +kernel
theorem dX9_init_4 : decode cX9_init 4 = .ok (.aload_n 0, 1) := by decide +kernel
theorem dX9_init_5 : decode cX9_init 5 = .ok (.iconst 0, 1) := by decide +kernel
theorem dX9_init_6 : decode cX9_init 6 = .ok (.putfield 9, 3) := by decide +kernel
theorem dX9_init_9 : decode cX9_init 9 = .ok (.aload_n 0, 1) := by decide +kernel
theorem dX9_init_10 : decode cX9_init 10 = .ok (.iconst 0, 1) := by decide +kernel
theorem dX9_init_11 : decode cX9_init 11 = .ok (.putfield 15, 3) := by decide +kernel
theorem dX9_init_14 : decode cX9_init 14 = .ok (.aload_n 0, 1) := by decide +kernel
theorem dX9_init_15 : decode cX9_init 15 = .ok (.iconst 1, 1) := by decide +kernel
theorem dX9_init_16 : decode cX9_init 16 = .ok (.putfield 18, 3) := by decide +kernel
theorem dX9_init_19 : decode cX9_init 19 = .ok (.return_, 1) := by decide +kernel
theorem dX9_howMany_0 : decode cX9_howMany 0 = .ok (.iload_n 0, 1) := by decide +kernel
theorem dX9_howMany_1 : decode cX9_howMany 1 = .ok (.iload_n 0, 1) := by decide +kernel
theorem dX9_howMany_2 : decode cX9_howMany 2 = .ok (.imul, 1) := by decide +kernel
theorem dX9_howMany_3 : decode cX9_howMany 3 = .ok (.iload_n 0, 1) := by decide +kernel
theorem dX9_howMany_4 : decode cX9_howMany 4 = .ok (.iadd, 1) := by decide +kernel
theorem dX9_howMany_5 : decode cX9_howMany 5 = .ok (.iconst 1, 1) := by decide +kernel
theorem dX9_howMany_6 : decode cX9_howMany 6 = .ok (.iadd, 1) := by decide +kernel
theorem dX9_howMany_7 : decode cX9_howMany 7 = .ok (.ireturn, 1) := by decide +kernel
theorem dX9_isPoint_0 : decode cX9_isPoint 0 = .ok (.iload_n 0, 1) := by decide +kernel
theorem dX9_isPoint_1 : decode cX9_isPoint 1 = .ok (.ifCond .lt 15, 3) := by decide +kernel
theorem dX9_isPoint_4 : decode cX9_isPoint 4 = .ok (.iload_n 0, 1) := by decide +kernel
theorem dX9_isPoint_5 : decode cX9_isPoint 5 = .ok (.iload_n 1, 1) := by decide +kernel
theorem dX9_isPoint_6 : decode cX9_isPoint 6 = .ok (.invokestatic 21, 3) := by decide +kernel
theorem dX9_isPoint_9 : decode cX9_isPoint 9 = .ok (.if_icmp .ge 7, 3) := by decide +kernel
theorem dX9_isPoint_12 : decode cX9_isPoint 12 = .ok (.iconst 1, 1) := by decide +kernel
theorem dX9_isPoint_13 : decode cX9_isPoint 13 = .ok (.goto 4, 3) := by decide +kernel
theorem dX9_isPoint_16 : decode cX9_isPoint 16 = .ok (.iconst 0, 1) := by decide +kernel
theorem dX9_isPoint_17 : decode cX9_isPoint 17 = .ok (.ireturn, 1) := by decide +kernel
theorem dX9_go_0 : decode cX9_go 0 = .ok (.iload_n 2, 1) := by decide +kernel
theorem dX9_go_1 : decode cX9_go 1 = .ok (.iconst 2, 1) := by decide +kernel
theorem dX9_go_2 : decode cX9_go 2 = .ok (.if_icmp .lt 11, 3) := by decide +kernel
theorem dX9_go_5 : decode cX9_go 5 = .ok (.iload_n 1, 1) := by decide +kernel
theorem dX9_go_6 : decode cX9_go 6 = .ok (.iload_n 2, 1) := by decide +kernel
theorem dX9_go_7 : decode cX9_go 7 = .ok (.invokestatic 25, 3) := by decide +kernel
theorem dX9_go_10 : decode cX9_go 10 = .ok (.ifCond .ne 5, 3) := by decide +kernel
theorem dX9_go_13 : decode cX9_go 13 = .ok (.iconst 0, 1) := by decide +kernel
theorem dX9_go_14 : decode cX9_go 14 = .ok (.ireturn, 1) := by decide +kernel
theorem dX9_go_15 : decode cX9_go 15 = .ok (.iload_n 1, 1) := by decide +kernel
theorem dX9_go_16 : decode cX9_go 16 = .ok (.iload_n 2, 1) := by decide +kernel
theorem dX9_go_17 : decode cX9_go 17 = .ok (.iload_n 2, 1) := by decide +kernel
theorem dX9_go_18 : decode cX9_go 18 = .ok (.imul, 1) := by decide +kernel
theorem dX9_go_19 : decode cX9_go 19 = .ok (.if_icmp .ge 25, 3) := by decide +kernel
theorem dX9_go_22 : decode cX9_go 22 = .ok (.aload_n 0, 1) := by decide +kernel
theorem dX9_go_23 : decode cX9_go 23 = .ok (.iload_n 1, 1) := by decide +kernel
theorem dX9_go_24 : decode cX9_go 24 = .ok (.iload_n 2, 1) := by decide +kernel
theorem dX9_go_25 : decode cX9_go 25 = .ok (.idiv, 1) := by decide +kernel
theorem dX9_go_26 : decode cX9_go 26 = .ok (.putfield 9, 3) := by decide +kernel
theorem dX9_go_29 : decode cX9_go 29 = .ok (.aload_n 0, 1) := by decide +kernel
theorem dX9_go_30 : decode cX9_go 30 = .ok (.iload_n 1, 1) := by decide +kernel
theorem dX9_go_31 : decode cX9_go 31 = .ok (.iload_n 2, 1) := by decide +kernel
theorem dX9_go_32 : decode cX9_go 32 = .ok (.irem, 1) := by decide +kernel
theorem dX9_go_33 : decode cX9_go 33 = .ok (.putfield 15, 3) := by decide +kernel
theorem dX9_go_36 : decode cX9_go 36 = .ok (.aload_n 0, 1) := by decide +kernel
theorem dX9_go_37 : decode cX9_go 37 = .ok (.iconst 1, 1) := by decide +kernel
theorem dX9_go_38 : decode cX9_go 38 = .ok (.putfield 18, 3) := by decide +kernel
theorem dX9_go_41 : decode cX9_go 41 = .ok (.goto 53, 3) := by decide +kernel
theorem dX9_go_44 : decode cX9_go 44 = .ok (.iload_n 1, 1) := by decide +kernel
theorem dX9_go_45 : decode cX9_go 45 = .ok (.iload_n 2, 1) := by decide +kernel
theorem dX9_go_46 : decode cX9_go 46 = .ok (.iload_n 2, 1) := by decide +kernel
theorem dX9_go_47 : decode cX9_go 47 = .ok (.imul, 1) := by decide +kernel
theorem dX9_go_48 : decode cX9_go 48 = .ok (.iload_n 2, 1) := by decide +kernel
theorem dX9_go_49 : decode cX9_go 49 = .ok (.iadd, 1) := by decide +kernel
theorem dX9_go_50 : decode cX9_go 50 = .ok (.if_icmp .ne 7, 3) := by decide +kernel
theorem dX9_go_53 : decode cX9_go 53 = .ok (.iconst 1, 1) := by decide +kernel
theorem dX9_go_54 : decode cX9_go 54 = .ok (.goto 4, 3) := by decide +kernel
theorem dX9_go_57 : decode cX9_go 57 = .ok (.iconst 0, 1) := by decide +kernel
theorem dX9_go_58 : decode cX9_go 58 = .ok (.istore_n 3, 1) := by decide +kernel
theorem dX9_go_59 : decode cX9_go 59 = .ok (.aload_n 0, 1) := by decide +kernel
theorem dX9_go_60 : decode cX9_go 60 = .ok (.iload_n 3, 1) := by decide +kernel
theorem dX9_go_61 : decode cX9_go 61 = .ok (.ifCond .eq 7, 3) := by decide +kernel
theorem dX9_go_64 : decode cX9_go 64 = .ok (.iconst 0, 1) := by decide +kernel
theorem dX9_go_65 : decode cX9_go 65 = .ok (.goto 4, 3) := by decide +kernel
theorem dX9_go_68 : decode cX9_go 68 = .ok (.iconst 1, 1) := by decide +kernel
theorem dX9_go_69 : decode cX9_go 69 = .ok (.putfield 9, 3) := by decide +kernel
theorem dX9_go_72 : decode cX9_go 72 = .ok (.aload_n 0, 1) := by decide +kernel
theorem dX9_go_73 : decode cX9_go 73 = .ok (.iload_n 3, 1) := by decide +kernel
theorem dX9_go_74 : decode cX9_go 74 = .ok (.ifCond .eq 7, 3) := by decide +kernel
theorem dX9_go_77 : decode cX9_go 77 = .ok (.iconst 1, 1) := by decide +kernel
theorem dX9_go_78 : decode cX9_go 78 = .ok (.goto 8, 3) := by decide +kernel
theorem dX9_go_81 : decode cX9_go 81 = .ok (.iload_n 1, 1) := by decide +kernel
theorem dX9_go_82 : decode cX9_go 82 = .ok (.iload_n 2, 1) := by decide +kernel
theorem dX9_go_83 : decode cX9_go 83 = .ok (.iload_n 2, 1) := by decide +kernel
theorem dX9_go_84 : decode cX9_go 84 = .ok (.imul, 1) := by decide +kernel
theorem dX9_go_85 : decode cX9_go 85 = .ok (.isub, 1) := by decide +kernel
theorem dX9_go_86 : decode cX9_go 86 = .ok (.putfield 15, 3) := by decide +kernel
theorem dX9_go_89 : decode cX9_go 89 = .ok (.aload_n 0, 1) := by decide +kernel
theorem dX9_go_90 : decode cX9_go 90 = .ok (.iconst 0, 1) := by decide +kernel
theorem dX9_go_91 : decode cX9_go 91 = .ok (.putfield 18, 3) := by decide +kernel
theorem dX9_go_94 : decode cX9_go 94 = .ok (.iconst 1, 1) := by decide +kernel
theorem dX9_go_95 : decode cX9_go 95 = .ok (.ireturn, 1) := by decide +kernel
theorem dX9_valueOf_0 : decode cX9_valueOf 0 = .ok (.iload_n 2, 1) := by decide +kernel
theorem dX9_valueOf_1 : decode cX9_valueOf 1 = .ok (.iconst 2, 1) := by decide +kernel
theorem dX9_valueOf_2 : decode cX9_valueOf 2 = .ok (.if_icmp .ge 5, 3) := by decide +kernel
theorem dX9_valueOf_5 : decode cX9_valueOf 5 = .ok (.iconst 0, 1) := by decide +kernel
theorem dX9_valueOf_6 : decode cX9_valueOf 6 = .ok (.ireturn, 1) := by decide +kernel
theorem dX9_valueOf_7 : decode cX9_valueOf 7 = .ok (.aload_n 0, 1) := by decide +kernel
theorem dX9_valueOf_8 : decode cX9_valueOf 8 = .ok (.getfield 18, 3) := by decide +kernel
theorem dX9_valueOf_11 : decode cX9_valueOf 11 = .ok (.ifCond .ne 10, 3) := by decide +kernel
theorem dX9_valueOf_14 : decode cX9_valueOf 14 = .ok (.aload_n 1, 1) := by decide +kernel
theorem dX9_valueOf_15 : decode cX9_valueOf 15 = .ok (.invokevirtual 29, 3) := by decide +kernel
theorem dX9_valueOf_18 : decode cX9_valueOf 18 = .ok (.goto 4, 3) := by decide +kernel
theorem dX9_valueOf_21 : decode cX9_valueOf 21 = .ok (.iconst (-1), 1) := by decide +kernel
theorem dX9_valueOf_22 : decode cX9_valueOf 22 = .ok (.istore_n 3, 1) := by decide +kernel
theorem dX9_valueOf_23 : decode cX9_valueOf 23 = .ok (.iconst 0, 1) := by decide +kernel
theorem dX9_valueOf_24 : decode cX9_valueOf 24 = .ok (.istore 4, 2) := by decide +kernel
theorem dX9_valueOf_26 : decode cX9_valueOf 26 = .ok (.iconst 4, 1) := by decide +kernel
theorem dX9_valueOf_27 : decode cX9_valueOf 27 = .ok (.istore 5, 2) := by decide +kernel
theorem dX9_valueOf_29 : decode cX9_valueOf 29 = .ok (.iload 5, 2) := by decide +kernel
theorem dX9_valueOf_31 : decode cX9_valueOf 31 = .ok (.ifCond .lt 88, 3) := by decide +kernel
theorem dX9_valueOf_34 : decode cX9_valueOf 34 = .ok (.iconst 0, 1) := by decide +kernel
theorem dX9_valueOf_35 : decode cX9_valueOf 35 = .ok (.istore 6, 2) := by decide +kernel
theorem dX9_valueOf_37 : decode cX9_valueOf 37 = .ok (.iconst 4, 1) := by decide +kernel
theorem dX9_valueOf_38 : decode cX9_valueOf 38 = .ok (.iload 5, 2) := by decide +kernel
theorem dX9_valueOf_40 : decode cX9_valueOf 40 = .ok (.isub, 1) := by decide +kernel
theorem dX9_valueOf_41 : decode cX9_valueOf 41 = .ok (.istore 7, 2) := by decide +kernel
theorem dX9_valueOf_43 : decode cX9_valueOf 43 = .ok (.iload 7, 2) := by decide +kernel
theorem dX9_valueOf_45 : decode cX9_valueOf 45 = .ok (.ifCond .lt 54, 3) := by decide +kernel
theorem dX9_valueOf_48 : decode cX9_valueOf 48 = .ok (.iload 6, 2) := by decide +kernel
theorem dX9_valueOf_50 : decode cX9_valueOf 50 = .ok (.aload_n 0, 1) := by decide +kernel
theorem dX9_valueOf_51 : decode cX9_valueOf 51 = .ok (.getfield 15, 3) := by decide +kernel
theorem dX9_valueOf_54 : decode cX9_valueOf 54 = .ok (.imul, 1) := by decide +kernel
theorem dX9_valueOf_55 : decode cX9_valueOf 55 = .ok (.iload_n 2, 1) := by decide +kernel
theorem dX9_valueOf_56 : decode cX9_valueOf 56 = .ok (.irem, 1) := by decide +kernel
