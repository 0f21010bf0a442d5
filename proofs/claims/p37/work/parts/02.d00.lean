theorem dX0_init_0 : decode cX0_init 0 = .ok (.aload_n 0, 1) := by decide +kernel
theorem dX0_init_1 : decode cX0_init 1 = .ok (.invokespecial 3, 3) := by decide +kernel
theorem dX0_init_4 : decode cX0_init 4 = .ok (.aload_n 0, 1) := by decide +kernel
theorem dX0_init_5 : decode cX0_init 5 = .ok (.new 9, 3) := by decide +kernel
theorem dX0_init_8 : decode cX0_init 8 = .ok (.dup, 1) := by decide +kernel
theorem dX0_init_9 : decode cX0_init 9 = .ok (.invokespecial 11, 3) := by decide +kernel
theorem dX0_init_12 : decode cX0_init 12 = .ok (.putfield 12, 3) := by decide +kernel
theorem dX0_init_15 : decode cX0_init 15 = .ok (.aload_n 0, 1) := by decide +kernel
theorem dX0_init_16 : decode cX0_init 16 = .ok (.iconst 5, 1) := by decide +kernel
theorem dX0_init_17 : decode cX0_init 17 = .ok (.anewarray 9, 3) := by decide +kernel
theorem dX0_init_20 : decode cX0_init 20 = .ok (.putfield 18, 3) := by decide +kernel
theorem dX0_init_23 : decode cX0_init 23 = .ok (.aload_n 0, 1) := by decide +kernel
theorem dX0_init_24 : decode cX0_init 24 = .ok (.iconst 5, 1) := by decide +kernel
theorem dX0_init_25 : decode cX0_init 25 = .ok (.anewarray 9, 3) := by decide +kernel
theorem dX0_init_28 : decode cX0_init 28 = .ok (.putfield 22, 3) := by decide +kernel
theorem dX0_init_31 : decode cX0_init 31 = .ok (.aload_n 0, 1) := by decide +kernel
theorem dX0_init_32 : decode cX0_init 32 = .ok (.bipush 6, 2) := by decide +kernel
theorem dX0_init_34 : decode cX0_init 34 = .ok (.anewarray 9, 3) := by decide +kernel
theorem dX0_init_37 : decode cX0_init 37 = .ok (.putfield 25, 3) := by decide +kernel
theorem dX0_init_40 : decode cX0_init 40 = .ok (.aload_n 0, 1) := by decide +kernel
theorem dX0_init_41 : decode cX0_init 41 = .ok (.new 9, 3) := by decide +kernel
theorem dX0_init_44 : decode cX0_init 44 = .ok (.dup, 1) := by decide +kernel
theorem dX0_init_45 : decode cX0_init 45 = .ok (.invokespecial 11, 3) := by decide +kernel
theorem dX0_init_48 : decode cX0_init 48 = .ok (.putfield 28, 3) := by decide +kernel
theorem dX0_init_51 : decode cX0_init 51 = .ok (.aload_n 0, 1) := by decide +kernel
theorem dX0_init_52 : decode cX0_init 52 = .ok (.new 9, 3) := by decide +kernel
theorem dX0_init_55 : decode cX0_init 55 = .ok (.dup, 1) := by decide +kernel
theorem dX0_init_56 : decode cX0_init 56 = .ok (.invokespecial 11, 3) := by decide +kernel
theorem dX0_init_59 : decode cX0_init 59 = .ok (.putfield 31, 3) := by decide +kernel
theorem dX0_init_62 : decode cX0_init 62 = .ok (.aload_n 0, 1) := by decide +kernel
theorem dX0_init_63 : decode cX0_init 63 = .ok (.new 9, 3) := by decide +kernel
theorem dX0_init_66 : decode cX0_init 66 = .ok (.dup, 1) := by decide +kernel
theorem dX0_init_67 : decode cX0_init 67 = .ok (.invokespecial 11, 3) := by decide +kernel
theorem dX0_init_70 : decode cX0_init 70 = .ok (.putfield 34, 3) := by decide +kernel
theorem dX0_init_73 : decode cX0_init 73 = .ok (.aload_n 0, 1) := by decide +kernel
theorem dX0_init_74 : decode cX0_init 74 = .ok (.new 37, 3) := by decide +kernel
theorem dX0_init_77 : decode cX0_init 77 = .ok (.dup, 1) := by decide +kernel
theorem dX0_init_78 : decode cX0_init 78 = .ok (.invokespecial 39, 3) := by decide +kernel
theorem dX0_init_81 : decode cX0_init 81 = .ok (.putfield 40, 3) := by decide +kernel
theorem dX0_init_84 : decode cX0_init 84 = .ok (.aload_n 0, 1) := by decide +kernel
theorem dX0_init_85 : decode cX0_init 85 = .ok (.new 37, 3) := by decide +kernel
theorem dX0_init_88 : decode cX0_init 88 = .ok (.dup, 1) := by decide +kernel
theorem dX0_init_89 : decode cX0_init 89 = .ok (.invokespecial 39, 3) := by decide +kernel
theorem dX0_init_92 : decode cX0_init 92 = .ok (.putfield 44, 3) := by decide +kernel
theorem dX0_init_95 : decode cX0_init 95 = .ok (.aload_n 0, 1) := by decide +kernel
theorem dX0_init_96 : decode cX0_init 96 = .ok (.bipush 7, 2) := by decide +kernel
theorem dX0_init_98 : decode cX0_init 98 = .ok (.putfield 47, 3) := by decide +kernel
theorem dX0_init_101 : decode cX0_init 101 = .ok (.iconst 0, 1) := by decide +kernel
theorem dX0_init_102 : decode cX0_init 102 = .ok (.istore_n 1, 1) := by decide +kernel
theorem dX0_init_103 : decode cX0_init 103 = .ok (.iload_n 1, 1) := by decide +kernel
theorem dX0_init_104 : decode cX0_init 104 = .ok (.iconst 4, 1) := by decide +kernel
theorem dX0_init_105 : decode cX0_init 105 = .ok (.if_icmp .gt 35, 3) := by decide +kernel
theorem dX0_init_108 : decode cX0_init 108 = .ok (.aload_n 0, 1) := by decide +kernel
theorem dX0_init_109 : decode cX0_init 109 = .ok (.getfield 18, 3) := by decide +kernel
theorem dX0_init_112 : decode cX0_init 112 = .ok (.iload_n 1, 1) := by decide +kernel
theorem dX0_init_113 : decode cX0_init 113 = .ok (.new 9, 3) := by decide +kernel
theorem dX0_init_116 : decode cX0_init 116 = .ok (.dup, 1) := by decide +kernel
theorem dX0_init_117 : decode cX0_init 117 = .ok (.invokespecial 11, 3) := by decide +kernel
theorem dX0_init_120 : decode cX0_init 120 = .ok (.aastore, 1) := by decide +kernel
theorem dX0_init_121 : decode cX0_init 121 = .ok (.aload_n 0, 1) := by decide +kernel
theorem dX0_init_122 : decode cX0_init 122 = .ok (.getfield 22, 3) := by decide +kernel
theorem dX0_init_125 : decode cX0_init 125 = .ok (.iload_n 1, 1) := by decide +kernel
theorem dX0_init_126 : decode cX0_init 126 = .ok (.new 9, 3) := by decide +kernel
theorem dX0_init_129 : decode cX0_init 129 = .ok (.dup, 1) := by decide +kernel
theorem dX0_init_130 : decode cX0_init 130 = .ok (.invokespecial 11, 3) := by decide +kernel
theorem dX0_init_133 : decode cX0_init 133 = .ok (.aastore, 1) := by decide +kernel
theorem dX0_init_134 : decode cX0_init 134 = .ok (.iinc 1 1, 3) := by decide +kernel
theorem dX0_init_137 : decode cX0_init 137 = .ok (.goto (-34), 3) := by decide +kernel
theorem dX0_init_140 : decode cX0_init 140 = .ok (.iconst 0, 1) := by decide +kernel
theorem dX0_init_141 : decode cX0_init 141 = .ok (.istore_n 1, 1) := by decide +kernel
theorem dX0_init_142 : decode cX0_init 142 = .ok (.iload_n 1, 1) := by decide +kernel
theorem dX0_init_143 : decode cX0_init 143 = .ok (.bipush 6, 2) := by decide +kernel
theorem dX0_init_145 : decode cX0_init 145 = .ok (.if_icmp .ge 22, 3) := by decide +kernel
theorem dX0_init_148 : decode cX0_init 148 = .ok (.aload_n 0, 1) := by decide +kernel
theorem dX0_init_149 : decode cX0_init 149 = .ok (.getfield 25, 3) := by decide +kernel
theorem dX0_init_152 : decode cX0_init 152 = .ok (.iload_n 1, 1) := by decide +kernel
theorem dX0_init_153 : decode cX0_init 153 = .ok (.new 9, 3) := by decide +kernel
theorem dX0_init_156 : decode cX0_init 156 = .ok (.dup, 1) := by decide +kernel
theorem dX0_init_157 : decode cX0_init 157 = .ok (.invokespecial 11, 3) := by decide +kernel
theorem dX0_init_160 : decode cX0_init 160 = .ok (.aastore, 1) := by decide +kernel
theorem dX0_init_161 : decode cX0_init 161 = .ok (.iinc 1 1, 3) := by decide +kernel
theorem dX0_init_164 : decode cX0_init 164 = .ok (.goto (-22), 3) := by decide +kernel
theorem dX0_init_167 : decode cX0_init 167 = .ok (.return_, 1) := by decide +kernel
theorem dX1_init_0 : decode cX1_init 0 = .ok (.aload_n 0, 1) := by decide +kernel
theorem dX1_init_1 : decode cX1_init 1 = .ok (.invokespecial 3, 3) := by decide +kernel
theorem dX1_init_4 : decode cX1_init 4 = .ok (.aload_n 0, 1) := by decide +kernel
theorem dX1_init_5 : decode cX1_init 5 = .ok (.iconst 0, 1) := by decide +kernel
theorem dX1_init_6 : decode cX1_init 6 = .ok (.putfield 9, 3) := by decide +kernel
theorem dX1_init_9 : decode cX1_init 9 = .ok (.aload_n 0, 1) := by decide +kernel
theorem dX1_init_10 : decode cX1_init 10 = .ok (.iconst 0, 1) := by decide +kernel
theorem dX1_init_11 : decode cX1_init 11 = .ok (.putfield 15, 3) := by decide +kernel
theorem dX1_init_14 : decode cX1_init 14 = .ok (.aload_n 0, 1) := by decide +kernel
theorem dX1_init_15 : decode cX1_init 15 = .ok (.bipush 20, 2) := by decide +kernel
theorem dX1_init_17 : decode cX1_init 17 = .ok (.anewarray 18, 3) := by decide +kernel
theorem dX1_init_20 : decode cX1_init 20 = .ok (.putfield 20, 3) := by decide +kernel
theorem dX1_init_23 : decode cX1_init 23 = .ok (.iconst 0, 1) := by decide +kernel
theorem dX1_init_24 : decode cX1_init 24 = .ok (.istore_n 1, 1) := by decide +kernel
theorem dX1_init_25 : decode cX1_init 25 = .ok (.iload_n 1, 1) := by decide +kernel
theorem dX1_init_26 : decode cX1_init 26 = .ok (.bipush 20, 2) := by decide +kernel
theorem dX1_init_28 : decode cX1_init 28 = .ok (.if_icmp .ge 22, 3) := by decide +kernel
theorem dX1_init_31 : decode cX1_init 31 = .ok (.aload_n 0, 1) := by decide +kernel
theorem dX1_init_32 : decode cX1_init 32 = .ok (.getfield 20, 3) := by decide +kernel
theorem dX1_init_35 : decode cX1_init 35 = .ok (.iload_n 1, 1) := by decide +kernel
theorem dX1_init_36 : decode cX1_init 36 = .ok (.new 18, 3) := by decide +kernel
theorem dX1_init_39 : decode cX1_init 39 = .ok (.dup, 1) := by decide +kernel
theorem dX1_init_40 : decode cX1_init 40 = .ok (.invokespecial 24, 3) := by decide +kernel
theorem dX1_init_43 : decode cX1_init 43 = .ok (.aastore, 1) := by decide +kernel
theorem dX1_init_44 : decode cX1_init 44 = .ok (.iinc 1 1, 3) := by decide +kernel
theorem dX1_init_47 : decode cX1_init 47 = .ok (.goto (-22), 3) := by decide +kernel
theorem dX1_init_50 : decode cX1_init 50 = .ok (.return_, 1) := by decide +kernel
theorem dX1_forget_0 : decode cX1_forget 0 = .ok (.aload_n 0, 1) := by decide +kernel
theorem dX1_forget_1 : decode cX1_forget 1 = .ok (.iconst 0, 1) := by decide +kernel
theorem dX1_forget_2 : decode cX1_forget 2 = .ok (.putfield 9, 3) := by decide +kernel
theorem dX1_forget_5 : decode cX1_forget 5 = .ok (.return_, 1) := by decide +kernel
theorem dX2_init_0 : decode cX2_init 0 = .ok (.aload_n 0, 1) := by decide +kernel
theorem dX2_init_1 : decode cX2_init 1 = .ok (.invokespecial 3, 3) := by decide +kernel
theorem dX2_init_4 : decode cX2_init 4 = .ok (.aload_n 0, 1) := by decide +kernel
theorem dX2_init_5 : decode cX2_init 5 = .ok (.bipush 25, 2) := by decide +kernel
theorem dX2_init_7 : decode cX2_init 7 = .ok (.newarray .int, 2) := by decide +kernel
theorem dX2_init_9 : decode cX2_init 9 = .ok (.putfield 11, 3) := by decide +kernel
theorem dX2_init_12 : decode cX2_init 12 = .ok (.return_, 1) := by decide +kernel
theorem dX2_fits_0 : decode cX2_fits 0 = .ok (.iload_n 0, 1) := by decide +kernel
theorem dX2_fits_1 : decode cX2_fits 1 = .ok (.ifCond .lt 23, 3) := by decide +kernel
theorem dX2_fits_4 : decode cX2_fits 4 = .ok (.iload_n 1, 1) := by decide +kernel
theorem dX2_fits_5 : decode cX2_fits 5 = .ok (.ifCond .lt 19, 3) := by decide +kernel
theorem dX2_fits_8 : decode cX2_fits 8 = .ok (.iload_n 0, 1) := by decide +kernel
theorem dX2_fits_9 : decode cX2_fits 9 = .ok (.iconst 4, 1) := by decide +kernel
theorem dX2_fits_10 : decode cX2_fits 10 = .ok (.if_icmp .gt 14, 3) := by decide +kernel
theorem dX2_fits_13 : decode cX2_fits 13 = .ok (.iload_n 1, 1) := by decide +kernel
theorem dX2_fits_14 : decode cX2_fits 14 = .ok (.iconst 4, 1) := by decide +kernel
theorem dX2_fits_15 : decode cX2_fits 15 = .ok (.iload_n 0, 1) := by decide +kernel
theorem dX2_fits_16 : decode cX2_fits 16 = .ok (.isub, 1) := by decide +kernel
theorem dX2_fits_17 : decode cX2_fits 17 = .ok (.if_icmp .gt 7, 3) := by decide +kernel
theorem dX2_fits_20 : decode cX2_fits 20 = .ok (.iconst 1, 1) := by decide +kernel
theorem dX2_fits_21 : decode cX2_fits 21 = .ok (.goto 4, 3) := by decide +kernel
theorem dX2_fits_24 : decode cX2_fits 24 = .ok (.iconst 0, 1) := by decide +kernel
theorem dX2_fits_25 : decode cX2_fits 25 = .ok (.ireturn, 1) := by decide +kernel
theorem dX2_at_0 : decode cX2_at 0 = .ok (.iload_n 1, 1) := by decide +kernel
theorem dX2_at_1 : decode cX2_at 1 = .ok (.iload_n 2, 1) := by decide +kernel
theorem dX2_at_2 : decode cX2_at 2 = .ok (.invokestatic 15, 3) := by decide +kernel
theorem dX2_at_5 : decode cX2_at 5 = .ok (.ifCond .eq 16, 3) := by decide +kernel
theorem dX2_at_8 : decode cX2_at 8 = .ok (.aload_n 0, 1) := by decide +kernel
theorem dX2_at_9 : decode cX2_at 9 = .ok (.getfield 11, 3) := by decide +kernel
theorem dX2_at_12 : decode cX2_at 12 = .ok (.iload_n 1, 1) := by decide +kernel
theorem dX2_at_13 : decode cX2_at 13 = .ok (.iconst 5, 1) := by decide +kernel
theorem dX2_at_14 : decode cX2_at 14 = .ok (.imul, 1) := by decide +kernel
theorem dX2_at_15 : decode cX2_at 15 = .ok (.iload_n 2, 1) := by decide +kernel
theorem dX2_at_16 : decode cX2_at 16 = .ok (.iadd, 1) := by decide +kernel
theorem dX2_at_17 : decode cX2_at 17 = .ok (.iaload, 1) := by decide +kernel
theorem dX2_at_18 : decode cX2_at 18 = .ok (.goto 4, 3) := by decide +kernel
theorem dX2_at_21 : decode cX2_at 21 = .ok (.iconst 0, 1) := by decide +kernel
theorem dX2_at_22 : decode cX2_at 22 = .ok (.ireturn, 1) := by decide +kernel
theorem dX2_put_0 : decode cX2_put 0 = .ok (.iload_n 1, 1) := by decide +kernel
theorem dX2_put_1 : decode cX2_put 1 = .ok (.iload_n 2, 1) := by decide +kernel
theorem dX2_put_2 : decode cX2_put 2 = .ok (.invokestatic 15, 3) := by decide +kernel
theorem dX2_put_5 : decode cX2_put 5 = .ok (.ifCond .eq 14, 3) := by decide +kernel
theorem dX2_put_8 : decode cX2_put 8 = .ok (.aload_n 0, 1) := by decide +kernel
theorem dX2_put_9 : decode cX2_put 9 = .ok (.getfield 11, 3) := by decide +kernel
theorem dX2_put_12 : decode cX2_put 12 = .ok (.iload_n 1, 1) := by decide +kernel
theorem dX2_put_13 : decode cX2_put 13 = .ok (.iconst 5, 1) := by decide +kernel
theorem dX2_put_14 : decode cX2_put 14 = .ok (.imul, 1) := by decide +kernel
theorem dX2_put_15 : decode cX2_put 15 = .ok (.iload_n 2, 1) := by decide +kernel
theorem dX2_put_16 : decode cX2_put 16 = .ok (.iadd, 1) := by decide +kernel
theorem dX2_put_17 : decode cX2_put 17 = .ok (.iload_n 3, 1) := by decide +kernel
theorem dX2_put_18 : decode cX2_put 18 = .ok (.iastore, 1) := by decide +kernel
theorem dX2_put_19 : decode cX2_put 19 = .ok (.return_, 1) := by decide +kernel
theorem dX2_increase_0 : decode cX2_increase 0 = .ok (.aload_n 0, 1) := by decide +kernel
theorem dX2_increase_1 : decode cX2_increase 1 = .ok (.iload_n 1, 1) := by decide +kernel
theorem dX2_increase_2 : decode cX2_increase 2 = .ok (.iload_n 2, 1) := by decide +kernel
theorem dX2_increase_3 : decode cX2_increase 3 = .ok (.aload_n 0, 1) := by decide +kernel
theorem dX2_increase_4 : decode cX2_increase 4 = .ok (.iload_n 1, 1) := by decide +kernel
theorem dX2_increase_5 : decode cX2_increase 5 = .ok (.iload_n 2, 1) := by decide +kernel
theorem dX2_increase_6 : decode cX2_increase 6 = .ok (.invokevirtual 19, 3) := by decide +kernel
theorem dX2_increase_9 : decode cX2_increase 9 = .ok (.iload_n 3, 1) := by decide +kernel
theorem dX2_increase_10 : decode cX2_increase 10 = .ok (.iadd, 1) := by decide +kernel
theorem dX2_increase_11 : decode cX2_increase 11 = .ok (.iload 4, 2) := by decide +kernel
theorem dX2_increase_13 : decode cX2_increase 13 = .ok (.invokestatic 23, 3) := by decide +kernel
theorem dX2_increase_16 : decode cX2_increase 16 = .ok (.invokevirtual 26, 3) := by decide +kernel
theorem dX2_increase_19 : decode cX2_increase 19 = .ok (.return_, 1) := by decide +kernel
theorem dX2_top_0 : decode cX2_top 0 = .ok (.iconst (-1), 1) := by decide +kernel
theorem dX2_top_1 : decode cX2_top 1 = .ok (.istore_n 1, 1) := by decide +kernel
theorem dX2_top_2 : decode cX2_top 2 = .ok (.iconst 0, 1) := by decide +kernel
theorem dX2_top_3 : decode cX2_top 3 = .ok (.istore_n 2, 1) := by decide +kernel
theorem dX2_top_4 : decode cX2_top 4 = .ok (.iload_n 2, 1) := by decide +kernel
theorem dX2_top_5 : decode cX2_top 5 = .ok (.iconst 4, 1) := by decide +kernel
theorem dX2_top_6 : decode cX2_top 6 = .ok (.if_icmp .gt 45, 3) := by decide +kernel
theorem dX2_top_9 : decode cX2_top 9 = .ok (.iconst 0, 1) := by decide +kernel
theorem dX2_top_10 : decode cX2_top 10 = .ok (.istore_n 3, 1) := by decide +kernel
theorem dX2_top_11 : decode cX2_top 11 = .ok (.iload_n 3, 1) := by decide +kernel
theorem dX2_top_12 : decode cX2_top 12 = .ok (.iconst 4, 1) := by decide +kernel
theorem dX2_top_13 : decode cX2_top 13 = .ok (.iload_n 2, 1) := by decide +kernel
theorem dX2_top_14 : decode cX2_top 14 = .ok (.isub, 1) := by decide +kernel
theorem dX2_top_15 : decode cX2_top 15 = .ok (.if_icmp .gt 30, 3) := by decide +kernel
theorem dX2_top_18 : decode cX2_top 18 = .ok (.aload_n 0, 1) := by decide +kernel
theorem dX2_top_19 : decode cX2_top 19 = .ok (.getfield 11, 3) := by decide +kernel
theorem dX2_top_22 : decode cX2_top 22 = .ok (.iload_n 2, 1) := by decide +kernel
theorem dX2_top_23 : decode cX2_top 23 = .ok (.iconst 5, 1) := by decide +kernel
theorem dX2_top_24 : decode cX2_top 24 = .ok (.imul, 1) := by decide +kernel
theorem dX2_top_25 : decode cX2_top 25 = .ok (.iload_n 3, 1) := by decide +kernel
theorem dX2_top_26 : decode cX2_top 26 = .ok (.iadd, 1) := by decide +kernel
theorem dX2_top_27 : decode cX2_top 27 = .ok (.iaload, 1) := by decide +kernel
theorem dX2_top_28 : decode cX2_top 28 = .ok (.ifCond .eq 11, 3) := by decide +kernel
theorem dX2_top_31 : decode cX2_top 31 = .ok (.iload_n 1, 1) := by decide +kernel
theorem dX2_top_32 : decode cX2_top 32 = .ok (.iload_n 2, 1) := by decide +kernel
theorem dX2_top_33 : decode cX2_top 33 = .ok (.iload_n 3, 1) := by decide +kernel
theorem dX2_top_34 : decode cX2_top 34 = .ok (.iadd, 1) := by decide +kernel
theorem dX2_top_35 : decode cX2_top 35 = .ok (.invokestatic 30, 3) := by decide +kernel
theorem dX2_top_38 : decode cX2_top 38 = .ok (.istore_n 1, 1) := by decide +kernel
theorem dX2_top_39 : decode cX2_top 39 = .ok (.iinc 3 1, 3) := by decide +kernel
theorem dX2_top_42 : decode cX2_top 42 = .ok (.goto (-31), 3) := by decide +kernel
theorem dX2_top_45 : decode cX2_top 45 = .ok (.iinc 2 1, 3) := by decide +kernel
theorem dX2_top_48 : decode cX2_top 48 = .ok (.goto (-44), 3) := by decide +kernel
theorem dX2_top_51 : decode cX2_top 51 = .ok (.iload_n 1, 1) := by decide +kernel
theorem dX2_top_52 : decode cX2_top 52 = .ok (.ireturn, 1) := by decide +kernel
theorem dX2_leadAt_0 : decode cX2_leadAt 0 = .ok (.iload_n 1, 1) := by decide +kernel
theorem dX2_leadAt_1 : decode cX2_leadAt 1 = .ok (.iconst 4, 1) := by decide +kernel
theorem dX2_leadAt_2 : decode cX2_leadAt 2 = .ok (.invokestatic 35, 3) := by decide +kernel
theorem dX2_leadAt_5 : decode cX2_leadAt 5 = .ok (.istore_n 2, 1) := by decide +kernel
theorem dX2_leadAt_6 : decode cX2_leadAt 6 = .ok (.iload_n 2, 1) := by decide +kernel
theorem dX2_leadAt_7 : decode cX2_leadAt 7 = .ok (.ifCond .lt 31, 3) := by decide +kernel
theorem dX2_leadAt_10 : decode cX2_leadAt 10 = .ok (.iload_n 1, 1) := by decide +kernel
theorem dX2_leadAt_11 : decode cX2_leadAt 11 = .ok (.iconst 4, 1) := by decide +kernel
theorem dX2_leadAt_12 : decode cX2_leadAt 12 = .ok (.if_icmp .gt 26, 3) := by decide +kernel
theorem dX2_leadAt_15 : decode cX2_leadAt 15 = .ok (.aload_n 0, 1) := by decide +kernel
theorem dX2_leadAt_16 : decode cX2_leadAt 16 = .ok (.getfield 11, 3) := by decide +kernel
theorem dX2_leadAt_19 : decode cX2_leadAt 19 = .ok (.iload_n 2, 1) := by decide +kernel
theorem dX2_leadAt_20 : decode cX2_leadAt 20 = .ok (.iconst 5, 1) := by decide +kernel
theorem dX2_leadAt_21 : decode cX2_leadAt 21 = .ok (.imul, 1) := by decide +kernel
theorem dX2_leadAt_22 : decode cX2_leadAt 22 = .ok (.iload_n 1, 1) := by decide +kernel
theorem dX2_leadAt_23 : decode cX2_leadAt 23 = .ok (.iadd, 1) := by decide +kernel
theorem dX2_leadAt_24 : decode cX2_leadAt 24 = .ok (.iload_n 2, 1) := by decide +kernel
theorem dX2_leadAt_25 : decode cX2_leadAt 25 = .ok (.isub, 1) := by decide +kernel
theorem dX2_leadAt_26 : decode cX2_leadAt 26 = .ok (.iaload, 1) := by decide +kernel
theorem dX2_leadAt_27 : decode cX2_leadAt 27 = .ok (.ifCond .eq 5, 3) := by decide +kernel
theorem dX2_leadAt_30 : decode cX2_leadAt 30 = .ok (.iload_n 2, 1) := by decide +kernel
theorem dX2_leadAt_31 : decode cX2_leadAt 31 = .ok (.ireturn, 1) := by decide +kernel
theorem dX2_leadAt_32 : decode cX2_leadAt 32 = .ok (.iinc 2 (-1), 3) := by decide +kernel
theorem dX2_leadAt_35 : decode cX2_leadAt 35 = .ok (.goto (-29), 3) := by decide +kernel
theorem dX2_leadAt_38 : decode cX2_leadAt 38 = .ok (.iconst (-1), 1) := by decide +kernel
theorem dX2_leadAt_39 : decode cX2_leadAt 39 = .ok (.ireturn, 1) := by decide +kernel
theorem dX2_setTo_0 : decode cX2_setTo 0 = .ok (.iconst 0, 1) := by decide +kernel
theorem dX2_setTo_1 : decode cX2_setTo 1 = .ok (.istore_n 2, 1) := by decide +kernel
theorem dX2_setTo_2 : decode cX2_setTo 2 = .ok (.iload_n 2, 1) := by decide +kernel
theorem dX2_setTo_3 : decode cX2_setTo 3 = .ok (.aload_n 0, 1) := by decide +kernel
theorem dX2_setTo_4 : decode cX2_setTo 4 = .ok (.getfield 11, 3) := by decide +kernel
theorem dX2_setTo_7 : decode cX2_setTo 7 = .ok (.arraylength, 1) := by decide +kernel
theorem dX2_setTo_8 : decode cX2_setTo 8 = .ok (.if_icmp .ge 24, 3) := by decide +kernel
theorem dX2_setTo_11 : decode cX2_setTo 11 = .ok (.aload_n 0, 1) := by decide +kernel
theorem dX2_setTo_12 : decode cX2_setTo 12 = .ok (.getfield 11, 3) := by decide +kernel
theorem dX2_setTo_15 : decode cX2_setTo 15 = .ok (.iload_n 2, 1) := by decide +kernel
theorem dX2_setTo_16 : decode cX2_setTo 16 = .ok (.iload_n 2, 1) := by decide +kernel
theorem dX2_setTo_17 : decode cX2_setTo 17 = .ok (.ifCond .ne 7, 3) := by decide +kernel
theorem dX2_setTo_20 : decode cX2_setTo 20 = .ok (.iload_n 1, 1) := by decide +kernel
theorem dX2_setTo_21 : decode cX2_setTo 21 = .ok (.goto 4, 3) := by decide +kernel
theorem dX2_setTo_24 : decode cX2_setTo 24 = .ok (.iconst 0, 1) := by decide +kernel
theorem dX2_setTo_25 : decode cX2_setTo 25 = .ok (.iastore, 1) := by decide +kernel
theorem dX2_setTo_26 : decode cX2_setTo 26 = .ok (.iinc 2 1, 3) := by decide +kernel
theorem dX2_setTo_29 : decode cX2_setTo 29 = .ok (.goto (-27), 3) := by decide +kernel
theorem dX2_setTo_32 : decode cX2_setTo 32 = .ok (.return_, 1) := by decide +kernel
theorem dX2_copy_0 : decode cX2_copy 0 = .ok (.aload_n 1, 1) := by decide +kernel
theorem dX2_copy_1 : decode cX2_copy 1 = .ok (.getfield 11, 3) := by decide +kernel
theorem dX2_copy_4 : decode cX2_copy 4 = .ok (.iconst 0, 1) := by decide +kernel
theorem dX2_copy_5 : decode cX2_copy 5 = .ok (.aload_n 0, 1) := by decide +kernel
theorem dX2_copy_6 : decode cX2_copy 6 = .ok (.getfield 11, 3) := by decide +kernel
theorem dX2_copy_9 : decode cX2_copy 9 = .ok (.iconst 0, 1) := by decide +kernel
theorem dX2_copy_10 : decode cX2_copy 10 = .ok (.aload_n 0, 1) := by decide +kernel
theorem dX2_copy_11 : decode cX2_copy 11 = .ok (.getfield 11, 3) := by decide +kernel
theorem dX2_copy_14 : decode cX2_copy 14 = .ok (.arraylength, 1) := by decide +kernel
theorem dX2_copy_15 : decode cX2_copy 15 = .ok (.invokestatic 38, 3) := by decide +kernel
theorem dX2_copy_18 : decode cX2_copy 18 = .ok (.return_, 1) := by decide +kernel
theorem dX2_add_0 : decode cX2_add 0 = .ok (.aload_n 0, 1) := by decide +kernel
theorem dX2_add_1 : decode cX2_add 1 = .ok (.aload_n 1, 1) := by decide +kernel
theorem dX2_add_2 : decode cX2_add 2 = .ok (.iconst 0, 1) := by decide +kernel
theorem dX2_add_3 : decode cX2_add 3 = .ok (.iconst 0, 1) := by decide +kernel
theorem dX2_add_4 : decode cX2_add 4 = .ok (.iload_n 2, 1) := by decide +kernel
theorem dX2_add_5 : decode cX2_add 5 = .ok (.iload_n 3, 1) := by decide +kernel
theorem dX2_add_6 : decode cX2_add 6 = .ok (.invokevirtual 44, 3) := by decide +kernel
theorem dX2_add_9 : decode cX2_add 9 = .ok (.return_, 1) := by decide +kernel
theorem dX2_addShifted_0 : decode cX2_addShifted 0 = .ok (.iload 5, 2) := by decide +kernel
theorem dX2_addShifted_2 : decode cX2_addShifted 2 = .ok (.iconst 2, 1) := by decide +kernel
theorem dX2_addShifted_3 : decode cX2_addShifted 3 = .ok (.if_icmp .lt 11, 3) := by decide +kernel
theorem dX2_addShifted_6 : decode cX2_addShifted 6 = .ok (.iload_n 2, 1) := by decide +kernel
theorem dX2_addShifted_7 : decode cX2_addShifted 7 = .ok (.ifCond .lt 7, 3) := by decide +kernel
theorem dX2_addShifted_10 : decode cX2_addShifted 10 = .ok (.iload_n 3, 1) := by decide +kernel
theorem dX2_addShifted_11 : decode cX2_addShifted 11 = .ok (.ifCond .ge 4, 3) := by decide +kernel
theorem dX2_addShifted_14 : decode cX2_addShifted 14 = .ok (.return_, 1) := by decide +kernel
theorem dX2_addShifted_15 : decode cX2_addShifted 15 = .ok (.iconst 4, 1) := by decide +kernel
theorem dX2_addShifted_16 : decode cX2_addShifted 16 = .ok (.iload_n 2, 1) := by decide +kernel
theorem dX2_addShifted_17 : decode cX2_addShifted 17 = .ok (.isub, 1) := by decide +kernel
theorem dX2_addShifted_18 : decode cX2_addShifted 18 = .ok (.iload_n 3, 1) := by decide +kernel
theorem dX2_addShifted_19 : decode cX2_addShifted 19 = .ok (.isub, 1) := by decide +kernel
theorem dX2_addShifted_20 : decode cX2_addShifted 20 = .ok (.istore 6, 2) := by decide +kernel
theorem dX2_addShifted_22 : decode cX2_addShifted 22 = .ok (.iconst 0, 1) := by decide +kernel
theorem dX2_addShifted_23 : decode cX2_addShifted 23 = .ok (.istore 7, 2) := by decide +kernel
theorem dX2_addShifted_25 : decode cX2_addShifted 25 = .ok (.iload 7, 2) := by decide +kernel
theorem dX2_addShifted_27 : decode cX2_addShifted 27 = .ok (.iload 6, 2) := by decide +kernel
theorem dX2_addShifted_29 : decode cX2_addShifted 29 = .ok (.if_icmp .gt 83, 3) := by decide +kernel
theorem dX2_addShifted_32 : decode cX2_addShifted 32 = .ok (.iconst 0, 1) := by decide +kernel
theorem dX2_addShifted_33 : decode cX2_addShifted 33 = .ok (.istore 8, 2) := by decide +kernel
theorem dX2_addShifted_35 : decode cX2_addShifted 35 = .ok (.iload 8, 2) := by decide +kernel
theorem dX2_addShifted_37 : decode cX2_addShifted 37 = .ok (.iload 6, 2) := by decide +kernel
theorem dX2_addShifted_39 : decode cX2_addShifted 39 = .ok (.iload 7, 2) := by decide +kernel
theorem dX2_addShifted_41 : decode cX2_addShifted 41 = .ok (.isub, 1) := by decide +kernel
theorem dX2_addShifted_42 : decode cX2_addShifted 42 = .ok (.if_icmp .gt 64, 3) := by decide +kernel
theorem dX2_addShifted_45 : decode cX2_addShifted 45 = .ok (.aload_n 1, 1) := by decide +kernel
theorem dX2_addShifted_46 : decode cX2_addShifted 46 = .ok (.getfield 11, 3) := by decide +kernel
theorem dX2_addShifted_49 : decode cX2_addShifted 49 = .ok (.iload 7, 2) := by decide +kernel
theorem dX2_addShifted_51 : decode cX2_addShifted 51 = .ok (.iconst 5, 1) := by decide +kernel
theorem dX2_addShifted_52 : decode cX2_addShifted 52 = .ok (.imul, 1) := by decide +kernel
theorem dX2_addShifted_53 : decode cX2_addShifted 53 = .ok (.iload 8, 2) := by decide +kernel
theorem dX2_addShifted_55 : decode cX2_addShifted 55 = .ok (.iadd, 1) := by decide +kernel
theorem dX2_addShifted_56 : decode cX2_addShifted 56 = .ok (.iaload, 1) := by decide +kernel
theorem dX2_addShifted_57 : decode cX2_addShifted 57 = .ok (.istore 9, 2) := by decide +kernel
theorem dX2_addShifted_59 : decode cX2_addShifted 59 = .ok (.iload 9, 2) := by decide +kernel
theorem dX2_addShifted_61 : decode cX2_addShifted 61 = .ok (.ifCond .eq 39, 3) := by decide +kernel
theorem dX2_addShifted_64 : decode cX2_addShifted 64 = .ok (.iload 7, 2) := by decide +kernel
theorem dX2_addShifted_66 : decode cX2_addShifted 66 = .ok (.iload_n 2, 1) := by decide +kernel
theorem dX2_addShifted_67 : decode cX2_addShifted 67 = .ok (.iadd, 1) := by decide +kernel
theorem dX2_addShifted_68 : decode cX2_addShifted 68 = .ok (.iconst 5, 1) := by decide +kernel
theorem dX2_addShifted_69 : decode cX2_addShifted 69 = .ok (.imul, 1) := by decide +kernel
theorem dX2_addShifted_70 : decode cX2_addShifted 70 = .ok (.iload 8, 2) := by decide +kernel
theorem dX2_addShifted_72 : decode cX2_addShifted 72 = .ok (.iadd, 1) := by decide +kernel
theorem dX2_addShifted_73 : decode cX2_addShifted 73 = .ok (.iload_n 3, 1) := by decide +kernel
theorem dX2_addShifted_74 : decode cX2_addShifted 74 = .ok (.iadd, 1) := by decide +kernel
theorem dX2_addShifted_75 : decode cX2_addShifted 75 = .ok (.istore 10, 2) := by decide +kernel
theorem dX2_addShifted_77 : decode cX2_addShifted 77 = .ok (.aload_n 0, 1) := by decide +kernel
theorem dX2_addShifted_78 : decode cX2_addShifted 78 = .ok (.getfield 11, 3) := by decide +kernel
theorem dX2_addShifted_81 : decode cX2_addShifted 81 = .ok (.iload 10, 2) := by decide +kernel
theorem dX2_addShifted_83 : decode cX2_addShifted 83 = .ok (.aload_n 0, 1) := by decide +kernel
theorem dX2_addShifted_84 : decode cX2_addShifted 84 = .ok (.getfield 11, 3) := by decide +kernel
theorem dX2_addShifted_87 : decode cX2_addShifted 87 = .ok (.iload 10, 2) := by decide +kernel
theorem dX2_addShifted_89 : decode cX2_addShifted 89 = .ok (.iaload, 1) := by decide +kernel
theorem dX2_addShifted_90 : decode cX2_addShifted 90 = .ok (.iload 4, 2) := by decide +kernel
theorem dX2_addShifted_92 : decode cX2_addShifted 92 = .ok (.iload 9, 2) := by decide +kernel
theorem dX2_addShifted_94 : decode cX2_addShifted 94 = .ok (.imul, 1) := by decide +kernel
theorem dX2_addShifted_95 : decode cX2_addShifted 95 = .ok (.iadd, 1) := by decide +kernel
theorem dX2_addShifted_96 : decode cX2_addShifted 96 = .ok (.iload 5, 2) := by decide +kernel
theorem dX2_addShifted_98 : decode cX2_addShifted 98 = .ok (.irem, 1) := by decide +kernel
theorem dX2_addShifted_99 : decode cX2_addShifted 99 = .ok (.iastore, 1) := by decide +kernel
theorem dX2_addShifted_100 : decode cX2_addShifted 100 = .ok (.iinc 8 1, 3) := by decide +kernel
theorem dX2_addShifted_103 : decode cX2_addShifted 103 = .ok (.goto (-68), 3) := by decide +kernel
theorem dX2_addShifted_106 : decode cX2_addShifted 106 = .ok (.iinc 7 1, 3) := by decide +kernel
theorem dX2_addShifted_109 : decode cX2_addShifted 109 = .ok (.goto (-84), 3) := by decide +kernel
theorem dX2_addShifted_112 : decode cX2_addShifted 112 = .ok (.return_, 1) := by decide +kernel
theorem dX2_product_0 : decode cX2_product 0 = .ok (.aload_n 0, 1) := by decide +kernel
theorem dX2_product_1 : decode cX2_product 1 = .ok (.iconst 0, 1) := by decide +kernel
theorem dX2_product_2 : decode cX2_product 2 = .ok (.invokevirtual 48, 3) := by decide +kernel
theorem dX2_product_5 : decode cX2_product 5 = .ok (.iconst 0, 1) := by decide +kernel
theorem dX2_product_6 : decode cX2_product 6 = .ok (.istore 4, 2) := by decide +kernel
theorem dX2_product_8 : decode cX2_product 8 = .ok (.iload 4, 2) := by decide +kernel
theorem dX2_product_10 : decode cX2_product 10 = .ok (.iconst 4, 1) := by decide +kernel
theorem dX2_product_11 : decode cX2_product 11 = .ok (.if_icmp .gt 64, 3) := by decide +kernel
theorem dX2_product_14 : decode cX2_product 14 = .ok (.iconst 0, 1) := by decide +kernel
theorem dX2_product_15 : decode cX2_product 15 = .ok (.istore 5, 2) := by decide +kernel
theorem dX2_product_17 : decode cX2_product 17 = .ok (.iload 5, 2) := by decide +kernel
theorem dX2_product_19 : decode cX2_product 19 = .ok (.iconst 4, 1) := by decide +kernel
theorem dX2_product_20 : decode cX2_product 20 = .ok (.iload 4, 2) := by decide +kernel
theorem dX2_product_22 : decode cX2_product 22 = .ok (.isub, 1) := by decide +kernel
theorem dX2_product_23 : decode cX2_product 23 = .ok (.if_icmp .gt 46, 3) := by decide +kernel
theorem dX2_product_26 : decode cX2_product 26 = .ok (.aload_n 1, 1) := by decide +kernel
theorem dX2_product_27 : decode cX2_product 27 = .ok (.getfield 11, 3) := by decide +kernel
theorem dX2_product_30 : decode cX2_product 30 = .ok (.iload 4, 2) := by decide +kernel
theorem dX2_product_32 : decode cX2_product 32 = .ok (.iconst 5, 1) := by decide +kernel
theorem dX2_product_33 : decode cX2_product 33 = .ok (.imul, 1) := by decide +kernel
theorem dX2_product_34 : decode cX2_product 34 = .ok (.iload 5, 2) := by decide +kernel
theorem dX2_product_36 : decode cX2_product 36 = .ok (.iadd, 1) := by decide +kernel
theorem dX2_product_37 : decode cX2_product 37 = .ok (.iaload, 1) := by decide +kernel
theorem dX2_product_38 : decode cX2_product 38 = .ok (.ifCond .eq 25, 3) := by decide +kernel
theorem dX2_product_41 : decode cX2_product 41 = .ok (.aload_n 0, 1) := by decide +kernel
theorem dX2_product_42 : decode cX2_product 42 = .ok (.aload_n 2, 1) := by decide +kernel
theorem dX2_product_43 : decode cX2_product 43 = .ok (.iload 4, 2) := by decide +kernel
theorem dX2_product_45 : decode cX2_product 45 = .ok (.iload 5, 2) := by decide +kernel
theorem dX2_product_47 : decode cX2_product 47 = .ok (.aload_n 1, 1) := by decide +kernel
theorem dX2_product_48 : decode cX2_product 48 = .ok (.getfield 11, 3) := by decide +kernel
theorem dX2_product_51 : decode cX2_product 51 = .ok (.iload 4, 2) := by decide +kernel
theorem dX2_product_53 : decode cX2_product 53 = .ok (.iconst 5, 1) := by decide +kernel
theorem dX2_product_54 : decode cX2_product 54 = .ok (.imul, 1) := by decide +kernel
theorem dX2_product_55 : decode cX2_product 55 = .ok (.iload 5, 2) := by decide +kernel
theorem dX2_product_57 : decode cX2_product 57 = .ok (.iadd, 1) := by decide +kernel
theorem dX2_product_58 : decode cX2_product 58 = .ok (.iaload, 1) := by decide +kernel
theorem dX2_product_59 : decode cX2_product 59 = .ok (.iload_n 3, 1) := by decide +kernel
theorem dX2_product_60 : decode cX2_product 60 = .ok (.invokevirtual 44, 3) := by decide +kernel
theorem dX2_product_63 : decode cX2_product 63 = .ok (.iinc 5 1, 3) := by decide +kernel
theorem dX2_product_66 : decode cX2_product 66 = .ok (.goto (-49), 3) := by decide +kernel
theorem dX2_product_69 : decode cX2_product 69 = .ok (.iinc 4 1, 3) := by decide +kernel
theorem dX2_product_72 : decode cX2_product 72 = .ok (.goto (-64), 3) := by decide +kernel
theorem dX2_product_75 : decode cX2_product 75 = .ok (.return_, 1) := by decide +kernel
theorem dX2_quotient_0 : decode cX2_quotient 0 = .ok (.aload_n 0, 1) := by decide +kernel
theorem dX2_quotient_1 : decode cX2_quotient 1 = .ok (.iconst 0, 1) := by decide +kernel
theorem dX2_quotient_2 : decode cX2_quotient 2 = .ok (.invokevirtual 48, 3) := by decide +kernel
theorem dX2_quotient_5 : decode cX2_quotient 5 = .ok (.aload_n 2, 1) := by decide +kernel
theorem dX2_quotient_6 : decode cX2_quotient 6 = .ok (.invokevirtual 52, 3) := by decide +kernel
theorem dX2_quotient_9 : decode cX2_quotient 9 = .ok (.istore 4, 2) := by decide +kernel
theorem dX2_quotient_11 : decode cX2_quotient 11 = .ok (.aload_n 2, 1) := by decide +kernel
theorem dX2_quotient_12 : decode cX2_quotient 12 = .ok (.iload 4, 2) := by decide +kernel
theorem dX2_quotient_14 : decode cX2_quotient 14 = .ok (.invokevirtual 56, 3) := by decide +kernel
theorem dX2_quotient_17 : decode cX2_quotient 17 = .ok (.istore 5, 2) := by decide +kernel
theorem dX2_quotient_19 : decode cX2_quotient 19 = .ok (.aload_n 2, 1) := by decide +kernel
theorem dX2_quotient_20 : decode cX2_quotient 20 = .ok (.iload 5, 2) := by decide +kernel
theorem dX2_quotient_22 : decode cX2_quotient 22 = .ok (.iload 4, 2) := by decide +kernel
theorem dX2_quotient_24 : decode cX2_quotient 24 = .ok (.iload 5, 2) := by decide +kernel
theorem dX2_quotient_26 : decode cX2_quotient 26 = .ok (.isub, 1) := by decide +kernel
theorem dX2_quotient_27 : decode cX2_quotient 27 = .ok (.invokevirtual 19, 3) := by decide +kernel
theorem dX2_quotient_30 : decode cX2_quotient 30 = .ok (.iload_n 3, 1) := by decide +kernel
theorem dX2_quotient_31 : decode cX2_quotient 31 = .ok (.invokestatic 60, 3) := by decide +kernel
theorem dX2_quotient_34 : decode cX2_quotient 34 = .ok (.istore 6, 2) := by decide +kernel
theorem dX2_quotient_36 : decode cX2_quotient 36 = .ok (.aload_n 1, 1) := by decide +kernel
theorem dX2_quotient_37 : decode cX2_quotient 37 = .ok (.invokevirtual 52, 3) := by decide +kernel
theorem dX2_quotient_40 : decode cX2_quotient 40 = .ok (.iload 4, 2) := by decide +kernel
theorem dX2_quotient_42 : decode cX2_quotient 42 = .ok (.isub, 1) := by decide +kernel
theorem dX2_quotient_43 : decode cX2_quotient 43 = .ok (.istore 7, 2) := by decide +kernel
theorem dX2_quotient_45 : decode cX2_quotient 45 = .ok (.iload 7, 2) := by decide +kernel
theorem dX2_quotient_47 : decode cX2_quotient 47 = .ok (.ifCond .lt 81, 3) := by decide +kernel
theorem dX2_quotient_50 : decode cX2_quotient 50 = .ok (.iload 7, 2) := by decide +kernel
theorem dX2_quotient_52 : decode cX2_quotient 52 = .ok (.istore 8, 2) := by decide +kernel
theorem dX2_quotient_54 : decode cX2_quotient 54 = .ok (.iload 8, 2) := by decide +kernel
theorem dX2_quotient_56 : decode cX2_quotient 56 = .ok (.ifCond .lt 66, 3) := by decide +kernel
theorem dX2_quotient_59 : decode cX2_quotient 59 = .ok (.iload 7, 2) := by decide +kernel
theorem dX2_quotient_61 : decode cX2_quotient 61 = .ok (.iload 8, 2) := by decide +kernel
theorem dX2_quotient_63 : decode cX2_quotient 63 = .ok (.isub, 1) := by decide +kernel
theorem dX2_quotient_64 : decode cX2_quotient 64 = .ok (.istore 9, 2) := by decide +kernel
theorem dX2_quotient_66 : decode cX2_quotient 66 = .ok (.iload 6, 2) := by decide +kernel
theorem dX2_quotient_68 : decode cX2_quotient 68 = .ok (.aload_n 1, 1) := by decide +kernel
theorem dX2_quotient_69 : decode cX2_quotient 69 = .ok (.iload 5, 2) := by decide +kernel
theorem dX2_quotient_71 : decode cX2_quotient 71 = .ok (.iload 8, 2) := by decide +kernel
theorem dX2_quotient_73 : decode cX2_quotient 73 = .ok (.iadd, 1) := by decide +kernel
theorem dX2_quotient_74 : decode cX2_quotient 74 = .ok (.iload 4, 2) := by decide +kernel
theorem dX2_quotient_76 : decode cX2_quotient 76 = .ok (.iload 5, 2) := by decide +kernel
theorem dX2_quotient_78 : decode cX2_quotient 78 = .ok (.isub, 1) := by decide +kernel
theorem dX2_quotient_79 : decode cX2_quotient 79 = .ok (.iload 9, 2) := by decide +kernel
theorem dX2_quotient_81 : decode cX2_quotient 81 = .ok (.iadd, 1) := by decide +kernel
theorem dX2_quotient_82 : decode cX2_quotient 82 = .ok (.invokevirtual 19, 3) := by decide +kernel
theorem dX2_quotient_85 : decode cX2_quotient 85 = .ok (.imul, 1) := by decide +kernel
theorem dX2_quotient_86 : decode cX2_quotient 86 = .ok (.iload_n 3, 1) := by decide +kernel
theorem dX2_quotient_87 : decode cX2_quotient 87 = .ok (.invokestatic 23, 3) := by decide +kernel
theorem dX2_quotient_90 : decode cX2_quotient 90 = .ok (.istore 10, 2) := by decide +kernel
theorem dX2_quotient_92 : decode cX2_quotient 92 = .ok (.aload_n 0, 1) := by decide +kernel
theorem dX2_quotient_93 : decode cX2_quotient 93 = .ok (.iload 8, 2) := by decide +kernel
theorem dX2_quotient_95 : decode cX2_quotient 95 = .ok (.iload 9, 2) := by decide +kernel
theorem dX2_quotient_97 : decode cX2_quotient 97 = .ok (.iload 10, 2) := by decide +kernel
theorem dX2_quotient_99 : decode cX2_quotient 99 = .ok (.invokevirtual 26, 3) := by decide +kernel
theorem dX2_quotient_102 : decode cX2_quotient 102 = .ok (.aload_n 1, 1) := by decide +kernel
theorem dX2_quotient_103 : decode cX2_quotient 103 = .ok (.aload_n 2, 1) := by decide +kernel
theorem dX2_quotient_104 : decode cX2_quotient 104 = .ok (.iload 8, 2) := by decide +kernel
theorem dX2_quotient_106 : decode cX2_quotient 106 = .ok (.iload 9, 2) := by decide +kernel
theorem dX2_quotient_108 : decode cX2_quotient 108 = .ok (.iload_n 3, 1) := by decide +kernel
theorem dX2_quotient_109 : decode cX2_quotient 109 = .ok (.iload 10, 2) := by decide +kernel
theorem dX2_quotient_111 : decode cX2_quotient 111 = .ok (.isub, 1) := by decide +kernel
theorem dX2_quotient_112 : decode cX2_quotient 112 = .ok (.iload_n 3, 1) := by decide +kernel
theorem dX2_quotient_113 : decode cX2_quotient 113 = .ok (.invokevirtual 44, 3) := by decide +kernel
theorem dX2_quotient_116 : decode cX2_quotient 116 = .ok (.iinc 8 (-1), 3) := by decide +kernel
theorem dX2_quotient_119 : decode cX2_quotient 119 = .ok (.goto (-65), 3) := by decide +kernel
theorem dX2_quotient_122 : decode cX2_quotient 122 = .ok (.iinc 7 (-1), 3) := by decide +kernel
theorem dX2_quotient_125 : decode cX2_quotient 125 = .ok (.goto (-80), 3) := by decide +kernel
theorem dX2_quotient_128 : decode cX2_quotient 128 = .ok (.return_, 1) := by decide +kernel
theorem dX2_normalize_0 : decode cX2_normalize 0 = .ok (.aload_n 0, 1) := by decide +kernel
theorem dX2_normalize_1 : decode cX2_normalize 1 = .ok (.invokevirtual 52, 3) := by decide +kernel
theorem dX2_normalize_4 : decode cX2_normalize 4 = .ok (.istore_n 2, 1) := by decide +kernel
theorem dX2_normalize_5 : decode cX2_normalize 5 = .ok (.aload_n 0, 1) := by decide +kernel
theorem dX2_normalize_6 : decode cX2_normalize 6 = .ok (.iload_n 2, 1) := by decide +kernel
theorem dX2_normalize_7 : decode cX2_normalize 7 = .ok (.invokevirtual 56, 3) := by decide +kernel
theorem dX2_normalize_10 : decode cX2_normalize 10 = .ok (.istore_n 3, 1) := by decide +kernel
theorem dX2_normalize_11 : decode cX2_normalize 11 = .ok (.aload_n 0, 1) := by decide +kernel
theorem dX2_normalize_12 : decode cX2_normalize 12 = .ok (.iload_n 3, 1) := by decide +kernel
theorem dX2_normalize_13 : decode cX2_normalize 13 = .ok (.iload_n 2, 1) := by decide +kernel
theorem dX2_normalize_14 : decode cX2_normalize 14 = .ok (.iload_n 3, 1) := by decide +kernel
theorem dX2_normalize_15 : decode cX2_normalize 15 = .ok (.isub, 1) := by decide +kernel
theorem dX2_normalize_16 : decode cX2_normalize 16 = .ok (.invokevirtual 19, 3) := by decide +kernel
theorem dX2_normalize_19 : decode cX2_normalize 19 = .ok (.iload_n 1, 1) := by decide +kernel
theorem dX2_normalize_20 : decode cX2_normalize 20 = .ok (.invokestatic 60, 3) := by decide +kernel
theorem dX2_normalize_23 : decode cX2_normalize 23 = .ok (.istore 4, 2) := by decide +kernel
theorem dX2_normalize_25 : decode cX2_normalize 25 = .ok (.iconst 0, 1) := by decide +kernel
theorem dX2_normalize_26 : decode cX2_normalize 26 = .ok (.istore 5, 2) := by decide +kernel
theorem dX2_normalize_28 : decode cX2_normalize 28 = .ok (.iload 5, 2) := by decide +kernel
theorem dX2_normalize_30 : decode cX2_normalize 30 = .ok (.aload_n 0, 1) := by decide +kernel
theorem dX2_normalize_31 : decode cX2_normalize 31 = .ok (.getfield 11, 3) := by decide +kernel
theorem dX2_normalize_34 : decode cX2_normalize 34 = .ok (.arraylength, 1) := by decide +kernel
theorem dX2_normalize_35 : decode cX2_normalize 35 = .ok (.if_icmp .ge 30, 3) := by decide +kernel
theorem dX2_normalize_38 : decode cX2_normalize 38 = .ok (.aload_n 0, 1) := by decide +kernel
theorem dX2_normalize_39 : decode cX2_normalize 39 = .ok (.getfield 11, 3) := by decide +kernel
theorem dX2_normalize_42 : decode cX2_normalize 42 = .ok (.iload 5, 2) := by decide +kernel
theorem dX2_normalize_44 : decode cX2_normalize 44 = .ok (.aload_n 0, 1) := by decide +kernel
theorem dX2_normalize_45 : decode cX2_normalize 45 = .ok (.getfield 11, 3) := by decide +kernel
theorem dX2_normalize_48 : decode cX2_normalize 48 = .ok (.iload 5, 2) := by decide +kernel
theorem dX2_normalize_50 : decode cX2_normalize 50 = .ok (.iaload, 1) := by decide +kernel
theorem dX2_normalize_51 : decode cX2_normalize 51 = .ok (.iload 4, 2) := by decide +kernel
theorem dX2_normalize_53 : decode cX2_normalize 53 = .ok (.imul, 1) := by decide +kernel
theorem dX2_normalize_54 : decode cX2_normalize 54 = .ok (.iload_n 1, 1) := by decide +kernel
theorem dX2_normalize_55 : decode cX2_normalize 55 = .ok (.invokestatic 23, 3) := by decide +kernel
theorem dX2_normalize_58 : decode cX2_normalize 58 = .ok (.iastore, 1) := by decide +kernel
theorem dX2_normalize_59 : decode cX2_normalize 59 = .ok (.iinc 5 1, 3) := by decide +kernel
theorem dX2_normalize_62 : decode cX2_normalize 62 = .ok (.goto (-34), 3) := by decide +kernel
theorem dX2_normalize_65 : decode cX2_normalize 65 = .ok (.return_, 1) := by decide +kernel
theorem dX3_init_0 : decode cX3_init 0 = .ok (.aload_n 0, 1) := by decide +kernel
theorem dX3_init_1 : decode cX3_init 1 = .ok (.invokespecial 3, 3) := by decide +kernel
theorem dX3_init_4 : decode cX3_init 4 = .ok (.aload_n 0, 1) := by decide +kernel
theorem dX3_init_5 : decode cX3_init 5 = .ok (.iconst 0, 1) := by decide +kernel
theorem dX3_init_6 : decode cX3_init 6 = .ok (.putfield 9, 3) := by decide +kernel
theorem dX3_init_9 : decode cX3_init 9 = .ok (.aload_n 0, 1) := by decide +kernel
theorem dX3_init_10 : decode cX3_init 10 = .ok (.iconst 0, 1) := by decide +kernel
theorem dX3_init_11 : decode cX3_init 11 = .ok (.putfield 15, 3) := by decide +kernel
theorem dX3_init_14 : decode cX3_init 14 = .ok (.aload_n 0, 1) := by decide +kernel
theorem dX3_init_15 : decode cX3_init 15 = .ok (.iconst (-1), 1) := by decide +kernel
theorem dX3_init_16 : decode cX3_init 16 = .ok (.putfield 18, 3) := by decide +kernel
theorem dX3_init_19 : decode cX3_init 19 = .ok (.aload_n 0, 1) := by decide +kernel
theorem dX3_init_20 : decode cX3_init 20 = .ok (.new 21, 3) := by decide +kernel
theorem dX3_init_23 : decode cX3_init 23 = .ok (.dup, 1) := by decide +kernel
theorem dX3_init_24 : decode cX3_init 24 = .ok (.invokespecial 23, 3) := by decide +kernel
theorem dX3_init_27 : decode cX3_init 27 = .ok (.putfield 24, 3) := by decide +kernel
theorem dX3_init_30 : decode cX3_init 30 = .ok (.aload_n 0, 1) := by decide +kernel
theorem dX3_init_31 : decode cX3_init 31 = .ok (.sipush 1000, 3) := by decide +kernel
theorem dX3_init_34 : decode cX3_init 34 = .ok (.newarray .int, 2) := by decide +kernel
theorem dX3_init_36 : decode cX3_init 36 = .ok (.putfield 28, 3) := by decide +kernel
theorem dX3_init_39 : decode cX3_init 39 = .ok (.aload_n 0, 1) := by decide +kernel
theorem dX3_init_40 : decode cX3_init 40 = .ok (.bipush 41, 2) := by decide +kernel
theorem dX3_init_42 : decode cX3_init 42 = .ok (.anewarray 32, 3) := by decide +kernel
theorem dX3_init_45 : decode cX3_init 45 = .ok (.putfield 34, 3) := by decide +kernel
theorem dX3_init_48 : decode cX3_init 48 = .ok (.aload_n 0, 1) := by decide +kernel
theorem dX3_init_49 : decode cX3_init 49 = .ok (.bipush 41, 2) := by decide +kernel
theorem dX3_init_51 : decode cX3_init 51 = .ok (.anewarray 32, 3) := by decide +kernel
theorem dX3_init_54 : decode cX3_init 54 = .ok (.putfield 38, 3) := by decide +kernel
theorem dX3_init_57 : decode cX3_init 57 = .ok (.aload_n 0, 1) := by decide +kernel
theorem dX3_init_58 : decode cX3_init 58 = .ok (.bipush 41, 2) := by decide +kernel
theorem dX3_init_60 : decode cX3_init 60 = .ok (.newarray .boolean, 2) := by decide +kernel
theorem dX3_init_62 : decode cX3_init 62 = .ok (.putfield 41, 3) := by decide +kernel
theorem dX3_init_65 : decode cX3_init 65 = .ok (.aload_n 0, 1) := by decide +kernel
theorem dX3_init_66 : decode cX3_init 66 = .ok (.bipush 41, 2) := by decide +kernel
theorem dX3_init_68 : decode cX3_init 68 = .ok (.newarray .int, 2) := by decide +kernel
theorem dX3_init_70 : decode cX3_init 70 = .ok (.putfield 45, 3) := by decide +kernel
theorem dX3_init_73 : decode cX3_init 73 = .ok (.aload_n 0, 1) := by decide +kernel
theorem dX3_init_74 : decode cX3_init 74 = .ok (.new 32, 3) := by decide +kernel
theorem dX3_init_77 : decode cX3_init 77 = .ok (.dup, 1) := by decide +kernel
theorem dX3_init_78 : decode cX3_init 78 = .ok (.invokespecial 48, 3) := by decide +kernel
theorem dX3_init_81 : decode cX3_init 81 = .ok (.putfield 49, 3) := by decide +kernel
theorem dX3_init_84 : decode cX3_init 84 = .ok (.aload_n 0, 1) := by decide +kernel
theorem dX3_init_85 : decode cX3_init 85 = .ok (.new 32, 3) := by decide +kernel
theorem dX3_init_88 : decode cX3_init 88 = .ok (.dup, 1) := by decide +kernel
theorem dX3_init_89 : decode cX3_init 89 = .ok (.invokespecial 48, 3) := by decide +kernel
theorem dX3_init_92 : decode cX3_init 92 = .ok (.putfield 53, 3) := by decide +kernel
theorem dX3_init_95 : decode cX3_init 95 = .ok (.aload_n 0, 1) := by decide +kernel
theorem dX3_init_96 : decode cX3_init 96 = .ok (.new 32, 3) := by decide +kernel
theorem dX3_init_99 : decode cX3_init 99 = .ok (.dup, 1) := by decide +kernel
theorem dX3_init_100 : decode cX3_init 100 = .ok (.invokespecial 48, 3) := by decide +kernel
theorem dX3_init_103 : decode cX3_init 103 = .ok (.putfield 56, 3) := by decide +kernel
theorem dX3_init_106 : decode cX3_init 106 = .ok (.aload_n 0, 1) := by decide +kernel
theorem dX3_init_107 : decode cX3_init 107 = .ok (.iconst 0, 1) := by decide +kernel
theorem dX3_init_108 : decode cX3_init 108 = .ok (.putfield 59, 3) := by decide +kernel
theorem dX3_init_111 : decode cX3_init 111 = .ok (.iconst 0, 1) := by decide +kernel
theorem dX3_init_112 : decode cX3_init 112 = .ok (.istore_n 1, 1) := by decide +kernel
theorem dX3_init_113 : decode cX3_init 113 = .ok (.iload_n 1, 1) := by decide +kernel
theorem dX3_init_114 : decode cX3_init 114 = .ok (.bipush 40, 2) := by decide +kernel
theorem dX3_init_116 : decode cX3_init 116 = .ok (.if_icmp .gt 35, 3) := by decide +kernel
theorem dX3_init_119 : decode cX3_init 119 = .ok (.aload_n 0, 1) := by decide +kernel
theorem dX3_init_120 : decode cX3_init 120 = .ok (.getfield 34, 3) := by decide +kernel
theorem dX3_init_123 : decode cX3_init 123 = .ok (.iload_n 1, 1) := by decide +kernel
theorem dX3_init_124 : decode cX3_init 124 = .ok (.new 32, 3) := by decide +kernel
theorem dX3_init_127 : decode cX3_init 127 = .ok (.dup, 1) := by decide +kernel
theorem dX3_init_128 : decode cX3_init 128 = .ok (.invokespecial 48, 3) := by decide +kernel
theorem dX3_init_131 : decode cX3_init 131 = .ok (.aastore, 1) := by decide +kernel
theorem dX3_init_132 : decode cX3_init 132 = .ok (.aload_n 0, 1) := by decide +kernel
theorem dX3_init_133 : decode cX3_init 133 = .ok (.getfield 38, 3) := by decide +kernel
theorem dX3_init_136 : decode cX3_init 136 = .ok (.iload_n 1, 1) := by decide +kernel
theorem dX3_init_137 : decode cX3_init 137 = .ok (.new 32, 3) := by decide +kernel
theorem dX3_init_140 : decode cX3_init 140 = .ok (.dup, 1) := by decide +kernel
theorem dX3_init_141 : decode cX3_init 141 = .ok (.invokespecial 48, 3) := by decide +kernel
theorem dX3_init_144 : decode cX3_init 144 = .ok (.aastore, 1) := by decide +kernel
theorem dX3_init_145 : decode cX3_init 145 = .ok (.iinc 1 1, 3) := by decide +kernel
theorem dX3_init_148 : decode cX3_init 148 = .ok (.goto (-35), 3) := by decide +kernel
theorem dX3_init_151 : decode cX3_init 151 = .ok (.return_, 1) := by decide +kernel
theorem dX3_hasRoomForFive_0 : decode cX3_hasRoomForFive 0 = .ok (.aload_n 0, 1) := by decide +kernel
theorem dX3_hasRoomForFive_1 : decode cX3_hasRoomForFive 1 = .ok (.getfield 9, 3) := by decide +kernel
theorem dX3_hasRoomForFive_4 : decode cX3_hasRoomForFive 4 = .ok (.sipush 980, 3) := by decide +kernel
theorem dX3_hasRoomForFive_7 : decode cX3_hasRoomForFive 7 = .ok (.if_icmp .gt 7, 3) := by decide +kernel
theorem dX3_hasRoomForFive_10 : decode cX3_hasRoomForFive 10 = .ok (.iconst 1, 1) := by decide +kernel
theorem dX3_hasRoomForFive_11 : decode cX3_hasRoomForFive 11 = .ok (.goto 4, 3) := by decide +kernel
theorem dX3_hasRoomForFive_14 : decode cX3_hasRoomForFive 14 = .ok (.iconst 0, 1) := by decide +kernel
theorem dX3_hasRoomForFive_15 : decode cX3_hasRoomForFive 15 = .ok (.ireturn, 1) := by decide +kernel
theorem dX3_append_0 : decode cX3_append 0 = .ok (.bipush 24, 2) := by decide +kernel
theorem dX3_append_2 : decode cX3_append 2 = .ok (.istore_n 2, 1) := by decide +kernel
theorem dX3_append_3 : decode cX3_append 3 = .ok (.iload_n 2, 1) := by decide +kernel
theorem dX3_append_4 : decode cX3_append 4 = .ok (.ifCond .lt 45, 3) := by decide +kernel
theorem dX3_append_7 : decode cX3_append 7 = .ok (.aload_n 0, 1) := by decide +kernel
theorem dX3_append_8 : decode cX3_append 8 = .ok (.getfield 9, 3) := by decide +kernel
theorem dX3_append_11 : decode cX3_append 11 = .ok (.sipush 1000, 3) := by decide +kernel
theorem dX3_append_14 : decode cX3_append 14 = .ok (.if_icmp .ge 29, 3) := by decide +kernel
theorem dX3_append_17 : decode cX3_append 17 = .ok (.aload_n 0, 1) := by decide +kernel
theorem dX3_append_18 : decode cX3_append 18 = .ok (.getfield 28, 3) := by decide +kernel
theorem dX3_append_21 : decode cX3_append 21 = .ok (.aload_n 0, 1) := by decide +kernel
theorem dX3_append_22 : decode cX3_append 22 = .ok (.getfield 9, 3) := by decide +kernel
theorem dX3_append_25 : decode cX3_append 25 = .ok (.iload_n 1, 1) := by decide +kernel
theorem dX3_append_26 : decode cX3_append 26 = .ok (.iload_n 2, 1) := by decide +kernel
theorem dX3_append_27 : decode cX3_append 27 = .ok (.iushr, 1) := by decide +kernel
theorem dX3_append_28 : decode cX3_append 28 = .ok (.sipush 255, 3) := by decide +kernel
theorem dX3_append_31 : decode cX3_append 31 = .ok (.iand, 1) := by decide +kernel
theorem dX3_append_32 : decode cX3_append 32 = .ok (.iastore, 1) := by decide +kernel
theorem dX3_append_33 : decode cX3_append 33 = .ok (.aload_n 0, 1) := by decide +kernel
theorem dX3_append_34 : decode cX3_append 34 = .ok (.dup, 1) := by decide +kernel
theorem dX3_append_35 : decode cX3_append 35 = .ok (.getfield 9, 3) := by decide +kernel
theorem dX3_append_38 : decode cX3_append 38 = .ok (.iconst 1, 1) := by decide +kernel
theorem dX3_append_39 : decode cX3_append 39 = .ok (.iadd, 1) := by decide +kernel
theorem dX3_append_40 : decode cX3_append 40 = .ok (.putfield 9, 3) := by decide +kernel
theorem dX3_append_43 : decode cX3_append 43 = .ok (.iinc 2 (-8), 3) := by decide +kernel
theorem dX3_append_46 : decode cX3_append 46 = .ok (.goto (-43), 3) := by decide +kernel
theorem dX3_append_49 : decode cX3_append 49 = .ok (.return_, 1) := by decide +kernel
theorem dX3_readText_0 : decode cX3_readText 0 = .ok (.aload_n 0, 1) := by decide +kernel
theorem dX3_readText_1 : decode cX3_readText 1 = .ok (.iconst 0, 1) := by decide +kernel
theorem dX3_readText_2 : decode cX3_readText 2 = .ok (.putfield 15, 3) := by decide +kernel
theorem dX3_readText_5 : decode cX3_readText 5 = .ok (.aload_n 0, 1) := by decide +kernel
theorem dX3_readText_6 : decode cX3_readText 6 = .ok (.iconst (-1), 1) := by decide +kernel
theorem dX3_readText_7 : decode cX3_readText 7 = .ok (.putfield 18, 3) := by decide +kernel
theorem dX3_readText_10 : decode cX3_readText 10 = .ok (.aload_n 0, 1) := by decide +kernel
theorem dX3_readText_11 : decode cX3_readText 11 = .ok (.iconst 0, 1) := by decide +kernel
theorem dX3_readText_12 : decode cX3_readText 12 = .ok (.putfield 59, 3) := by decide +kernel
theorem dX3_readText_15 : decode cX3_readText 15 = .ok (.aload_n 0, 1) := by decide +kernel
theorem dX3_readText_16 : decode cX3_readText 16 = .ok (.getfield 24, 3) := by decide +kernel
theorem dX3_readText_19 : decode cX3_readText 19 = .ok (.bipush 7, 2) := by decide +kernel
theorem dX3_readText_21 : decode cX3_readText 21 = .ok (.putfield 62, 3) := by decide +kernel
theorem dX3_readText_24 : decode cX3_readText 24 = .ok (.aload_n 0, 1) := by decide +kernel
theorem dX3_readText_25 : decode cX3_readText 25 = .ok (.getfield 24, 3) := by decide +kernel
theorem dX3_readText_28 : decode cX3_readText 28 = .ok (.iconst 0, 1) := by decide +kernel
theorem dX3_readText_29 : decode cX3_readText 29 = .ok (.putfield 65, 3) := by decide +kernel
theorem dX3_readText_32 : decode cX3_readText 32 = .ok (.aload_n 0, 1) := by decide +kernel
theorem dX3_readText_33 : decode cX3_readText 33 = .ok (.invokevirtual 68, 3) := by decide +kernel
theorem dX3_readText_36 : decode cX3_readText 36 = .ok (.aload_n 0, 1) := by decide +kernel
theorem dX3_readText_37 : decode cX3_readText 37 = .ok (.ldc 71, 2) := by decide +kernel
theorem dX3_readText_39 : decode cX3_readText 39 = .ok (.invokevirtual 73, 3) := by decide +kernel
theorem dX3_readText_42 : decode cX3_readText 42 = .ok (.ifCond .eq 12, 3) := by decide +kernel
theorem dX3_readText_45 : decode cX3_readText 45 = .ok (.aload_n 0, 1) := by decide +kernel
theorem dX3_readText_46 : decode cX3_readText 46 = .ok (.invokevirtual 77, 3) := by decide +kernel
theorem dX3_readText_49 : decode cX3_readText 49 = .ok (.ifCond .ne 5, 3) := by decide +kernel
theorem dX3_readText_52 : decode cX3_readText 52 = .ok (.iconst 0, 1) := by decide +kernel
theorem dX3_readText_53 : decode cX3_readText 53 = .ok (.ireturn, 1) := by decide +kernel
theorem dX3_readText_54 : decode cX3_readText 54 = .ok (.iconst 0, 1) := by decide +kernel
theorem dX3_readText_55 : decode cX3_readText 55 = .ok (.istore_n 1, 1) := by decide +kernel
theorem dX3_readText_56 : decode cX3_readText 56 = .ok (.iload_n 1, 1) := by decide +kernel
theorem dX3_readText_57 : decode cX3_readText 57 = .ok (.aload_n 0, 1) := by decide +kernel
theorem dX3_readText_58 : decode cX3_readText 58 = .ok (.getfield 9, 3) := by decide +kernel
theorem dX3_readText_61 : decode cX3_readText 61 = .ok (.if_icmp .gt 35, 3) := by decide +kernel
theorem dX3_readText_64 : decode cX3_readText 64 = .ok (.aload_n 0, 1) := by decide +kernel
theorem dX3_readText_65 : decode cX3_readText 65 = .ok (.invokevirtual 68, 3) := by decide +kernel
theorem dX3_readText_68 : decode cX3_readText 68 = .ok (.aload_n 0, 1) := by decide +kernel
theorem dX3_readText_69 : decode cX3_readText 69 = .ok (.getfield 59, 3) := by decide +kernel
theorem dX3_readText_72 : decode cX3_readText 72 = .ok (.aload_n 0, 1) := by decide +kernel
theorem dX3_readText_73 : decode cX3_readText 73 = .ok (.getfield 9, 3) := by decide +kernel
theorem dX3_readText_76 : decode cX3_readText 76 = .ok (.if_icmp .lt 5, 3) := by decide +kernel
theorem dX3_readText_79 : decode cX3_readText 79 = .ok (.iconst 1, 1) := by decide +kernel
theorem dX3_readText_80 : decode cX3_readText 80 = .ok (.ireturn, 1) := by decide +kernel
theorem dX3_readText_81 : decode cX3_readText 81 = .ok (.aload_n 0, 1) := by decide +kernel
theorem dX3_readText_82 : decode cX3_readText 82 = .ok (.invokevirtual 81, 3) := by decide +kernel
theorem dX3_readText_85 : decode cX3_readText 85 = .ok (.ifCond .ne 5, 3) := by decide +kernel
theorem dX3_readText_88 : decode cX3_readText 88 = .ok (.iconst 0, 1) := by decide +kernel
theorem dX3_readText_89 : decode cX3_readText 89 = .ok (.ireturn, 1) := by decide +kernel
theorem dX3_readText_90 : decode cX3_readText 90 = .ok (.iinc 1 1, 3) := by decide +kernel
theorem dX3_readText_93 : decode cX3_readText 93 = .ok (.goto (-37), 3) := by decide +kernel
theorem dX3_readText_96 : decode cX3_readText 96 = .ok (.iconst 1, 1) := by decide +kernel
theorem dX3_readText_97 : decode cX3_readText 97 = .ok (.ireturn, 1) := by decide +kernel
theorem dX3_readField_0 : decode cX3_readField 0 = .ok (.aload_n 0, 1) := by decide +kernel
theorem dX3_readField_1 : decode cX3_readField 1 = .ok (.dup, 1) := by decide +kernel
theorem dX3_readField_2 : decode cX3_readField 2 = .ok (.getfield 59, 3) := by decide +kernel
theorem dX3_readField_5 : decode cX3_readField 5 = .ok (.iconst 5, 1) := by decide +kernel
theorem dX3_readField_6 : decode cX3_readField 6 = .ok (.iadd, 1) := by decide +kernel
theorem dX3_readField_7 : decode cX3_readField 7 = .ok (.putfield 59, 3) := by decide +kernel
theorem dX3_readField_10 : decode cX3_readField 10 = .ok (.aload_n 0, 1) := by decide +kernel
theorem dX3_readField_11 : decode cX3_readField 11 = .ok (.aload_n 0, 1) := by decide +kernel
theorem dX3_readField_12 : decode cX3_readField 12 = .ok (.getfield 59, 3) := by decide +kernel
theorem dX3_readField_15 : decode cX3_readField 15 = .ok (.invokevirtual 84, 3) := by decide +kernel
theorem dX3_readField_18 : decode cX3_readField 18 = .ok (.invokestatic 88, 3) := by decide +kernel
theorem dX3_readField_21 : decode cX3_readField 21 = .ok (.ifCond .eq 13, 3) := by decide +kernel
theorem dX3_readField_24 : decode cX3_readField 24 = .ok (.aload_n 0, 1) := by decide +kernel
theorem dX3_readField_25 : decode cX3_readField 25 = .ok (.iconst 1, 1) := by decide +kernel
theorem dX3_readField_26 : decode cX3_readField 26 = .ok (.aload_n 0, 1) := by decide +kernel
theorem dX3_readField_27 : decode cX3_readField 27 = .ok (.getfield 59, 3) := by decide +kernel
theorem dX3_readField_30 : decode cX3_readField 30 = .ok (.invokevirtual 92, 3) := by decide +kernel
theorem dX3_readField_33 : decode cX3_readField 33 = .ok (.ireturn, 1) := by decide +kernel
theorem dX3_readField_34 : decode cX3_readField 34 = .ok (.aload_n 0, 1) := by decide +kernel
theorem dX3_readField_35 : decode cX3_readField 35 = .ok (.invokevirtual 68, 3) := by decide +kernel
theorem dX3_readField_38 : decode cX3_readField 38 = .ok (.aload_n 0, 1) := by decide +kernel
theorem dX3_readField_39 : decode cX3_readField 39 = .ok (.getfield 59, 3) := by decide +kernel
theorem dX3_readField_42 : decode cX3_readField 42 = .ok (.istore_n 1, 1) := by decide +kernel
theorem dX3_readField_43 : decode cX3_readField 43 = .ok (.aload_n 0, 1) := by decide +kernel
theorem dX3_readField_44 : decode cX3_readField 44 = .ok (.iload_n 1, 1) := by decide +kernel
theorem dX3_readField_45 : decode cX3_readField 45 = .ok (.invokevirtual 84, 3) := by decide +kernel
theorem dX3_readField_48 : decode cX3_readField 48 = .ok (.invokestatic 88, 3) := by decide +kernel
theorem dX3_readField_51 : decode cX3_readField 51 = .ok (.ifCond .ne 10, 3) := by decide +kernel
theorem dX3_readField_54 : decode cX3_readField 54 = .ok (.aload_n 0, 1) := by decide +kernel
theorem dX3_readField_55 : decode cX3_readField 55 = .ok (.iconst 1, 1) := by decide +kernel
theorem dX3_readField_56 : decode cX3_readField 56 = .ok (.iload_n 1, 1) := by decide +kernel
theorem dX3_readField_57 : decode cX3_readField 57 = .ok (.invokevirtual 92, 3) := by decide +kernel
theorem dX3_readField_60 : decode cX3_readField 60 = .ok (.ireturn, 1) := by decide +kernel
theorem dX3_readField_61 : decode cX3_readField 61 = .ok (.aload_n 0, 1) := by decide +kernel
theorem dX3_readField_62 : decode cX3_readField 62 = .ok (.invokevirtual 96, 3) := by decide +kernel
theorem dX3_readField_65 : decode cX3_readField 65 = .ok (.istore_n 2, 1) := by decide +kernel
theorem dX3_readField_66 : decode cX3_readField 66 = .ok (.iconst 0, 1) := by decide +kernel
theorem dX3_readField_67 : decode cX3_readField 67 = .ok (.istore_n 3, 1) := by decide +kernel
theorem dX3_readField_68 : decode cX3_readField 68 = .ok (.iload_n 3, 1) := by decide +kernel
theorem dX3_readField_69 : decode cX3_readField 69 = .ok (.getstatic 100, 3) := by decide +kernel
theorem dX3_readField_72 : decode cX3_readField 72 = .ok (.arraylength, 1) := by decide +kernel
theorem dX3_readField_73 : decode cX3_readField 73 = .ok (.if_icmp .ge 33, 3) := by decide +kernel
theorem dX3_readField_76 : decode cX3_readField 76 = .ok (.getstatic 100, 3) := by decide +kernel
theorem dX3_readField_79 : decode cX3_readField 79 = .ok (.iload_n 3, 1) := by decide +kernel
theorem dX3_readField_80 : decode cX3_readField 80 = .ok (.iaload, 1) := by decide +kernel
theorem dX3_readField_81 : decode cX3_readField 81 = .ok (.iload_n 2, 1) := by decide +kernel
theorem dX3_readField_82 : decode cX3_readField 82 = .ok (.if_icmp .ne 18, 3) := by decide +kernel
theorem dX3_readField_85 : decode cX3_readField 85 = .ok (.aload_n 0, 1) := by decide +kernel
theorem dX3_readField_86 : decode cX3_readField 86 = .ok (.getfield 24, 3) := by decide +kernel
theorem dX3_readField_89 : decode cX3_readField 89 = .ok (.iload_n 2, 1) := by decide +kernel
theorem dX3_readField_90 : decode cX3_readField 90 = .ok (.putfield 62, 3) := by decide +kernel
theorem dX3_readField_93 : decode cX3_readField 93 = .ok (.aload_n 0, 1) := by decide +kernel
theorem dX3_readField_94 : decode cX3_readField 94 = .ok (.bipush 59, 2) := by decide +kernel
theorem dX3_readField_96 : decode cX3_readField 96 = .ok (.invokevirtual 103, 3) := by decide +kernel
theorem dX3_readField_99 : decode cX3_readField 99 = .ok (.ireturn, 1) := by decide +kernel
theorem dX3_readField_100 : decode cX3_readField 100 = .ok (.iinc 3 1, 3) := by decide +kernel
theorem dX3_readField_103 : decode cX3_readField 103 = .ok (.goto (-35), 3) := by decide +kernel
theorem dX3_readField_106 : decode cX3_readField 106 = .ok (.aload_n 0, 1) := by decide +kernel
theorem dX3_readField_107 : decode cX3_readField 107 = .ok (.iconst 2, 1) := by decide +kernel
theorem dX3_readField_108 : decode cX3_readField 108 = .ok (.iload_n 1, 1) := by decide +kernel
theorem dX3_readField_109 : decode cX3_readField 109 = .ok (.invokevirtual 92, 3) := by decide +kernel
theorem dX3_readField_112 : decode cX3_readField 112 = .ok (.ireturn, 1) := by decide +kernel
theorem dX3_readCurve_0 : decode cX3_readCurve 0 = .ok (.aload_n 0, 1) := by decide +kernel
theorem dX3_readCurve_1 : decode cX3_readCurve 1 = .ok (.ldc 106, 2) := by decide +kernel
theorem dX3_readCurve_3 : decode cX3_readCurve 3 = .ok (.invokevirtual 73, 3) := by decide +kernel
theorem dX3_readCurve_6 : decode cX3_readCurve 6 = .ok (.ifCond .ne 13, 3) := by decide +kernel
theorem dX3_readCurve_9 : decode cX3_readCurve 9 = .ok (.aload_n 0, 1) := by decide +kernel
theorem dX3_readCurve_10 : decode cX3_readCurve 10 = .ok (.iconst 1, 1) := by decide +kernel
theorem dX3_readCurve_11 : decode cX3_readCurve 11 = .ok (.aload_n 0, 1) := by decide +kernel
theorem dX3_readCurve_12 : decode cX3_readCurve 12 = .ok (.getfield 59, 3) := by decide +kernel
theorem dX3_readCurve_15 : decode cX3_readCurve 15 = .ok (.invokevirtual 92, 3) := by decide +kernel
theorem dX3_readCurve_18 : decode cX3_readCurve 18 = .ok (.ireturn, 1) := by decide +kernel
theorem dX3_readCurve_19 : decode cX3_readCurve 19 = .ok (.aload_n 0, 1) := by decide +kernel
theorem dX3_readCurve_20 : decode cX3_readCurve 20 = .ok (.getfield 24, 3) := by decide +kernel
theorem dX3_readCurve_23 : decode cX3_readCurve 23 = .ok (.getfield 65, 3) := by decide +kernel
theorem dX3_readCurve_26 : decode cX3_readCurve 26 = .ok (.bipush 6, 2) := by decide +kernel
theorem dX3_readCurve_28 : decode cX3_readCurve 28 = .ok (.if_icmp .lt 13, 3) := by decide +kernel
theorem dX3_readCurve_31 : decode cX3_readCurve 31 = .ok (.aload_n 0, 1) := by decide +kernel
theorem dX3_readCurve_32 : decode cX3_readCurve 32 = .ok (.iconst 4, 1) := by decide +kernel
theorem dX3_readCurve_33 : decode cX3_readCurve 33 = .ok (.aload_n 0, 1) := by decide +kernel
theorem dX3_readCurve_34 : decode cX3_readCurve 34 = .ok (.getfield 59, 3) := by decide +kernel
theorem dX3_readCurve_37 : decode cX3_readCurve 37 = .ok (.invokevirtual 92, 3) := by decide +kernel
theorem dX3_readCurve_40 : decode cX3_readCurve 40 = .ok (.ireturn, 1) := by decide +kernel
theorem dX3_readCurve_41 : decode cX3_readCurve 41 = .ok (.aload_n 0, 1) := by decide +kernel
theorem dX3_readCurve_42 : decode cX3_readCurve 42 = .ok (.dup, 1) := by decide +kernel
theorem dX3_readCurve_43 : decode cX3_readCurve 43 = .ok (.getfield 59, 3) := by decide +kernel
theorem dX3_readCurve_46 : decode cX3_readCurve 46 = .ok (.iconst 5, 1) := by decide +kernel
theorem dX3_readCurve_47 : decode cX3_readCurve 47 = .ok (.iadd, 1) := by decide +kernel
theorem dX3_readCurve_48 : decode cX3_readCurve 48 = .ok (.putfield 59, 3) := by decide +kernel
theorem dX3_readCurve_51 : decode cX3_readCurve 51 = .ok (.aload_n 0, 1) := by decide +kernel
theorem dX3_readCurve_52 : decode cX3_readCurve 52 = .ok (.invokevirtual 68, 3) := by decide +kernel
theorem dX3_readCurve_55 : decode cX3_readCurve 55 = .ok (.aload_n 0, 1) := by decide +kernel
theorem dX3_readCurve_56 : decode cX3_readCurve 56 = .ok (.getfield 59, 3) := by decide +kernel
theorem dX3_readCurve_59 : decode cX3_readCurve 59 = .ok (.istore_n 1, 1) := by decide +kernel
theorem dX3_readCurve_60 : decode cX3_readCurve 60 = .ok (.aload_n 0, 1) := by decide +kernel
theorem dX3_readCurve_61 : decode cX3_readCurve 61 = .ok (.invokevirtual 108, 3) := by decide +kernel
theorem dX3_readCurve_64 : decode cX3_readCurve 64 = .ok (.ifCond .eq 28, 3) := by decide +kernel
theorem dX3_readCurve_67 : decode cX3_readCurve 67 = .ok (.aload_n 0, 1) := by decide +kernel
theorem dX3_readCurve_68 : decode cX3_readCurve 68 = .ok (.bipush 61, 2) := by decide +kernel
theorem dX3_readCurve_70 : decode cX3_readCurve 70 = .ok (.invokevirtual 103, 3) := by decide +kernel
theorem dX3_readCurve_73 : decode cX3_readCurve 73 = .ok (.ifCond .eq 19, 3) := by decide +kernel
theorem dX3_readCurve_76 : decode cX3_readCurve 76 = .ok (.aload_n 0, 1) := by decide +kernel
theorem dX3_readCurve_77 : decode cX3_readCurve 77 = .ok (.invokevirtual 111, 3) := by decide +kernel
theorem dX3_readCurve_80 : decode cX3_readCurve 80 = .ok (.ifCond .eq 12, 3) := by decide +kernel
theorem dX3_readCurve_83 : decode cX3_readCurve 83 = .ok (.aload_n 0, 1) := by decide +kernel
theorem dX3_readCurve_84 : decode cX3_readCurve 84 = .ok (.bipush 59, 2) := by decide +kernel
theorem dX3_readCurve_86 : decode cX3_readCurve 86 = .ok (.invokevirtual 103, 3) := by decide +kernel
theorem dX3_readCurve_89 : decode cX3_readCurve 89 = .ok (.ifCond .ne 5, 3) := by decide +kernel
theorem dX3_readCurve_92 : decode cX3_readCurve 92 = .ok (.iconst 0, 1) := by decide +kernel
theorem dX3_readCurve_93 : decode cX3_readCurve 93 = .ok (.ireturn, 1) := by decide +kernel
theorem dX3_readCurve_94 : decode cX3_readCurve 94 = .ok (.aload_n 0, 1) := by decide +kernel
theorem dX3_readCurve_95 : decode cX3_readCurve 95 = .ok (.getfield 34, 3) := by decide +kernel
theorem dX3_readCurve_98 : decode cX3_readCurve 98 = .ok (.iconst 0, 1) := by decide +kernel
theorem dX3_readCurve_99 : decode cX3_readCurve 99 = .ok (.aaload, 1) := by decide +kernel
theorem dX3_readCurve_100 : decode cX3_readCurve 100 = .ok (.invokevirtual 114, 3) := by decide +kernel
theorem dX3_readCurve_103 : decode cX3_readCurve 103 = .ok (.iconst 1, 1) := by decide +kernel
theorem dX3_readCurve_104 : decode cX3_readCurve 104 = .ok (.if_icmp .ge 10, 3) := by decide +kernel
theorem dX3_readCurve_107 : decode cX3_readCurve 107 = .ok (.aload_n 0, 1) := by decide +kernel
theorem dX3_readCurve_108 : decode cX3_readCurve 108 = .ok (.iconst 5, 1) := by decide +kernel
theorem dX3_readCurve_109 : decode cX3_readCurve 109 = .ok (.iload_n 1, 1) := by decide +kernel
theorem dX3_readCurve_110 : decode cX3_readCurve 110 = .ok (.invokevirtual 92, 3) := by decide +kernel
theorem dX3_readCurve_113 : decode cX3_readCurve 113 = .ok (.ireturn, 1) := by decide +kernel
theorem dX3_readCurve_114 : decode cX3_readCurve 114 = .ok (.aload_n 0, 1) := by decide +kernel
theorem dX3_readCurve_115 : decode cX3_readCurve 115 = .ok (.getfield 24, 3) := by decide +kernel
theorem dX3_readCurve_118 : decode cX3_readCurve 118 = .ok (.getfield 117, 3) := by decide +kernel
theorem dX3_readCurve_121 : decode cX3_readCurve 121 = .ok (.aload_n 0, 1) := by decide +kernel
theorem dX3_readCurve_122 : decode cX3_readCurve 122 = .ok (.getfield 24, 3) := by decide +kernel
theorem dX3_readCurve_125 : decode cX3_readCurve 125 = .ok (.getfield 65, 3) := by decide +kernel
theorem dX3_readCurve_128 : decode cX3_readCurve 128 = .ok (.aaload, 1) := by decide +kernel
theorem dX3_readCurve_129 : decode cX3_readCurve 129 = .ok (.aload_n 0, 1) := by decide +kernel
theorem dX3_readCurve_130 : decode cX3_readCurve 130 = .ok (.getfield 34, 3) := by decide +kernel
theorem dX3_readCurve_133 : decode cX3_readCurve 133 = .ok (.iconst 0, 1) := by decide +kernel
theorem dX3_readCurve_134 : decode cX3_readCurve 134 = .ok (.aaload, 1) := by decide +kernel
theorem dX3_readCurve_135 : decode cX3_readCurve 135 = .ok (.invokevirtual 120, 3) := by decide +kernel
theorem dX3_readCurve_138 : decode cX3_readCurve 138 = .ok (.aload_n 0, 1) := by decide +kernel
theorem dX3_readCurve_139 : decode cX3_readCurve 139 = .ok (.getfield 24, 3) := by decide +kernel
theorem dX3_readCurve_142 : decode cX3_readCurve 142 = .ok (.dup, 1) := by decide +kernel
theorem dX3_readCurve_143 : decode cX3_readCurve 143 = .ok (.getfield 65, 3) := by decide +kernel
theorem dX3_readCurve_146 : decode cX3_readCurve 146 = .ok (.iconst 1, 1) := by decide +kernel
theorem dX3_readCurve_147 : decode cX3_readCurve 147 = .ok (.iadd, 1) := by decide +kernel
theorem dX3_readCurve_148 : decode cX3_readCurve 148 = .ok (.putfield 65, 3) := by decide +kernel
theorem dX3_readCurve_151 : decode cX3_readCurve 151 = .ok (.iconst 1, 1) := by decide +kernel
theorem dX3_readCurve_152 : decode cX3_readCurve 152 = .ok (.ireturn, 1) := by decide +kernel
theorem dX3_readName_0 : decode cX3_readName 0 = .ok (.aload_n 0, 1) := by decide +kernel
theorem dX3_readName_1 : decode cX3_readName 1 = .ok (.getfield 59, 3) := by decide +kernel
theorem dX3_readName_4 : decode cX3_readName 4 = .ok (.istore_n 1, 1) := by decide +kernel
theorem dX3_readName_5 : decode cX3_readName 5 = .ok (.aload_n 0, 1) := by decide +kernel
theorem dX3_readName_6 : decode cX3_readName 6 = .ok (.iload_n 1, 1) := by decide +kernel
theorem dX3_readName_7 : decode cX3_readName 7 = .ok (.invokevirtual 124, 3) := by decide +kernel
theorem dX3_readName_10 : decode cX3_readName 10 = .ok (.iload_n 1, 1) := by decide +kernel
theorem dX3_readName_11 : decode cX3_readName 11 = .ok (.isub, 1) := by decide +kernel
theorem dX3_readName_12 : decode cX3_readName 12 = .ok (.istore_n 2, 1) := by decide +kernel
theorem dX3_readName_13 : decode cX3_readName 13 = .ok (.iload_n 2, 1) := by decide +kernel
theorem dX3_readName_14 : decode cX3_readName 14 = .ok (.iconst 1, 1) := by decide +kernel
theorem dX3_readName_15 : decode cX3_readName 15 = .ok (.if_icmp .lt 45, 3) := by decide +kernel
theorem dX3_readName_18 : decode cX3_readName 18 = .ok (.iload_n 2, 1) := by decide +kernel
theorem dX3_readName_19 : decode cX3_readName 19 = .ok (.bipush 6, 2) := by decide +kernel
theorem dX3_readName_21 : decode cX3_readName 21 = .ok (.if_icmp .gt 39, 3) := by decide +kernel
theorem dX3_readName_24 : decode cX3_readName 24 = .ok (.aload_n 0, 1) := by decide +kernel
theorem dX3_readName_25 : decode cX3_readName 25 = .ok (.ldc 71, 2) := by decide +kernel
theorem dX3_readName_27 : decode cX3_readName 27 = .ok (.invokevirtual 73, 3) := by decide +kernel
theorem dX3_readName_30 : decode cX3_readName 30 = .ok (.ifCond .ne 30, 3) := by decide +kernel
theorem dX3_readName_33 : decode cX3_readName 33 = .ok (.aload_n 0, 1) := by decide +kernel
theorem dX3_readName_34 : decode cX3_readName 34 = .ok (.ldc 106, 2) := by decide +kernel
theorem dX3_readName_36 : decode cX3_readName 36 = .ok (.invokevirtual 73, 3) := by decide +kernel
theorem dX3_readName_39 : decode cX3_readName 39 = .ok (.ifCond .ne 21, 3) := by decide +kernel
theorem dX3_readName_42 : decode cX3_readName 42 = .ok (.aload_n 0, 1) := by decide +kernel
theorem dX3_readName_43 : decode cX3_readName 43 = .ok (.ldc 127, 2) := by decide +kernel
theorem dX3_readName_45 : decode cX3_readName 45 = .ok (.invokevirtual 73, 3) := by decide +kernel
theorem dX3_readName_48 : decode cX3_readName 48 = .ok (.ifCond .ne 12, 3) := by decide +kernel
theorem dX3_readName_51 : decode cX3_readName 51 = .ok (.aload_n 0, 1) := by decide +kernel
theorem dX3_readName_52 : decode cX3_readName 52 = .ok (.ldc 129, 2) := by decide +kernel
theorem dX3_readName_54 : decode cX3_readName 54 = .ok (.invokevirtual 73, 3) := by decide +kernel
theorem dX3_readName_57 : decode cX3_readName 57 = .ok (.ifCond .eq 10, 3) := by decide +kernel
theorem dX3_readName_60 : decode cX3_readName 60 = .ok (.aload_n 0, 1) := by decide +kernel
theorem dX3_readName_61 : decode cX3_readName 61 = .ok (.iconst 1, 1) := by decide +kernel
theorem dX3_readName_62 : decode cX3_readName 62 = .ok (.iload_n 1, 1) := by decide +kernel
theorem dX3_readName_63 : decode cX3_readName 63 = .ok (.invokevirtual 92, 3) := by decide +kernel
theorem dX3_readName_66 : decode cX3_readName 66 = .ok (.ireturn, 1) := by decide +kernel
theorem dX3_readName_67 : decode cX3_readName 67 = .ok (.iconst 0, 1) := by decide +kernel
theorem dX3_readName_68 : decode cX3_readName 68 = .ok (.istore_n 3, 1) := by decide +kernel
theorem dX3_readName_69 : decode cX3_readName 69 = .ok (.iload_n 3, 1) := by decide +kernel
theorem dX3_readName_70 : decode cX3_readName 70 = .ok (.bipush 6, 2) := by decide +kernel
theorem dX3_readName_72 : decode cX3_readName 72 = .ok (.if_icmp .ge 38, 3) := by decide +kernel
theorem dX3_readName_75 : decode cX3_readName 75 = .ok (.aload_n 0, 1) := by decide +kernel
theorem dX3_readName_76 : decode cX3_readName 76 = .ok (.getfield 24, 3) := by decide +kernel
theorem dX3_readName_79 : decode cX3_readName 79 = .ok (.iload_n 3, 1) := by decide +kernel
theorem dX3_readName_80 : decode cX3_readName 80 = .ok (.iload_n 3, 1) := by decide +kernel
theorem dX3_readName_81 : decode cX3_readName 81 = .ok (.iload_n 2, 1) := by decide +kernel
theorem dX3_readName_82 : decode cX3_readName 82 = .ok (.if_icmp .ge 18, 3) := by decide +kernel
theorem dX3_readName_85 : decode cX3_readName 85 = .ok (.aload_n 0, 1) := by decide +kernel
theorem dX3_readName_86 : decode cX3_readName 86 = .ok (.iload_n 1, 1) := by decide +kernel
theorem dX3_readName_87 : decode cX3_readName 87 = .ok (.iload_n 3, 1) := by decide +kernel
theorem dX3_readName_88 : decode cX3_readName 88 = .ok (.iadd, 1) := by decide +kernel
theorem dX3_readName_89 : decode cX3_readName 89 = .ok (.invokevirtual 84, 3) := by decide +kernel
theorem dX3_readName_92 : decode cX3_readName 92 = .ok (.bipush 97, 2) := by decide +kernel
theorem dX3_readName_94 : decode cX3_readName 94 = .ok (.isub, 1) := by decide +kernel
theorem dX3_readName_95 : decode cX3_readName 95 = .ok (.iconst 1, 1) := by decide +kernel
theorem dX3_readName_96 : decode cX3_readName 96 = .ok (.iadd, 1) := by decide +kernel
theorem dX3_readName_97 : decode cX3_readName 97 = .ok (.goto 4, 3) := by decide +kernel
theorem dX3_readName_100 : decode cX3_readName 100 = .ok (.iconst 0, 1) := by decide +kernel
theorem dX3_readName_101 : decode cX3_readName 101 = .ok (.invokevirtual 131, 3) := by decide +kernel
theorem dX3_readName_104 : decode cX3_readName 104 = .ok (.iinc 3 1, 3) := by decide +kernel
theorem dX3_readName_107 : decode cX3_readName 107 = .ok (.goto (-38), 3) := by decide +kernel
theorem dX3_readName_110 : decode cX3_readName 110 = .ok (.aload_n 0, 1) := by decide +kernel
theorem dX3_readName_111 : decode cX3_readName 111 = .ok (.invokevirtual 135, 3) := by decide +kernel
theorem dX3_readName_114 : decode cX3_readName 114 = .ok (.ifCond .eq 10, 3) := by decide +kernel
theorem dX3_readName_117 : decode cX3_readName 117 = .ok (.aload_n 0, 1) := by decide +kernel
theorem dX3_readName_118 : decode cX3_readName 118 = .ok (.iconst 3, 1) := by decide +kernel
theorem dX3_readName_119 : decode cX3_readName 119 = .ok (.iload_n 1, 1) := by decide +kernel
theorem dX3_readName_120 : decode cX3_readName 120 = .ok (.invokevirtual 92, 3) := by decide +kernel
theorem dX3_readName_123 : decode cX3_readName 123 = .ok (.ireturn, 1) := by decide +kernel
theorem dX3_readName_124 : decode cX3_readName 124 = .ok (.aload_n 0, 1) := by decide +kernel
theorem dX3_readName_125 : decode cX3_readName 125 = .ok (.iload_n 1, 1) := by decide +kernel
theorem dX3_readName_126 : decode cX3_readName 126 = .ok (.iload_n 2, 1) := by decide +kernel
theorem dX3_readName_127 : decode cX3_readName 127 = .ok (.iadd, 1) := by decide +kernel
theorem dX3_readName_128 : decode cX3_readName 128 = .ok (.putfield 59, 3) := by decide +kernel
theorem dX3_readName_131 : decode cX3_readName 131 = .ok (.iconst 1, 1) := by decide +kernel
theorem dX3_readName_132 : decode cX3_readName 132 = .ok (.ireturn, 1) := by decide +kernel
theorem dX3_isNameTaken_0 : decode cX3_isNameTaken 0 = .ok (.aload_n 0, 1) := by decide +kernel
theorem dX3_isNameTaken_1 : decode cX3_isNameTaken 1 = .ok (.getfield 24, 3) := by decide +kernel
theorem dX3_isNameTaken_4 : decode cX3_isNameTaken 4 = .ok (.getfield 65, 3) := by decide +kernel
theorem dX3_isNameTaken_7 : decode cX3_isNameTaken 7 = .ok (.bipush 6, 2) := by decide +kernel
theorem dX3_isNameTaken_9 : decode cX3_isNameTaken 9 = .ok (.imul, 1) := by decide +kernel
theorem dX3_isNameTaken_10 : decode cX3_isNameTaken 10 = .ok (.istore_n 1, 1) := by decide +kernel
theorem dX3_isNameTaken_11 : decode cX3_isNameTaken 11 = .ok (.iconst 0, 1) := by decide +kernel
theorem dX3_isNameTaken_12 : decode cX3_isNameTaken 12 = .ok (.istore_n 2, 1) := by decide +kernel
theorem dX3_isNameTaken_13 : decode cX3_isNameTaken 13 = .ok (.iload_n 2, 1) := by decide +kernel
theorem dX3_isNameTaken_14 : decode cX3_isNameTaken 14 = .ok (.aload_n 0, 1) := by decide +kernel
theorem dX3_isNameTaken_15 : decode cX3_isNameTaken 15 = .ok (.getfield 24, 3) := by decide +kernel
theorem dX3_isNameTaken_18 : decode cX3_isNameTaken 18 = .ok (.getfield 65, 3) := by decide +kernel
theorem dX3_isNameTaken_21 : decode cX3_isNameTaken 21 = .ok (.if_icmp .ge 80, 3) := by decide +kernel
theorem dX3_isNameTaken_24 : decode cX3_isNameTaken 24 = .ok (.aload_n 0, 1) := by decide +kernel
theorem dX3_isNameTaken_25 : decode cX3_isNameTaken 25 = .ok (.getfield 24, 3) := by decide +kernel
theorem dX3_isNameTaken_28 : decode cX3_isNameTaken 28 = .ok (.getfield 65, 3) := by decide +kernel
theorem dX3_isNameTaken_31 : decode cX3_isNameTaken 31 = .ok (.bipush 6, 2) := by decide +kernel
theorem dX3_isNameTaken_33 : decode cX3_isNameTaken 33 = .ok (.if_icmp .ge 68, 3) := by decide +kernel
theorem dX3_isNameTaken_36 : decode cX3_isNameTaken 36 = .ok (.iconst 0, 1) := by decide +kernel
theorem dX3_isNameTaken_37 : decode cX3_isNameTaken 37 = .ok (.istore_n 3, 1) := by decide +kernel
theorem dX3_isNameTaken_38 : decode cX3_isNameTaken 38 = .ok (.iconst 0, 1) := by decide +kernel
theorem dX3_isNameTaken_39 : decode cX3_isNameTaken 39 = .ok (.istore 4, 2) := by decide +kernel
theorem dX3_isNameTaken_41 : decode cX3_isNameTaken 41 = .ok (.iload 4, 2) := by decide +kernel
theorem dX3_isNameTaken_43 : decode cX3_isNameTaken 43 = .ok (.bipush 6, 2) := by decide +kernel
theorem dX3_isNameTaken_45 : decode cX3_isNameTaken 45 = .ok (.if_icmp .ge 42, 3) := by decide +kernel
theorem dX3_isNameTaken_48 : decode cX3_isNameTaken 48 = .ok (.aload_n 0, 1) := by decide +kernel
theorem dX3_isNameTaken_49 : decode cX3_isNameTaken 49 = .ok (.getfield 24, 3) := by decide +kernel
theorem dX3_isNameTaken_52 : decode cX3_isNameTaken 52 = .ok (.getfield 138, 3) := by decide +kernel
theorem dX3_isNameTaken_55 : decode cX3_isNameTaken 55 = .ok (.iload_n 1, 1) := by decide +kernel
theorem dX3_isNameTaken_56 : decode cX3_isNameTaken 56 = .ok (.iload 4, 2) := by decide +kernel
theorem dX3_isNameTaken_58 : decode cX3_isNameTaken 58 = .ok (.iadd, 1) := by decide +kernel
theorem dX3_isNameTaken_59 : decode cX3_isNameTaken 59 = .ok (.iaload, 1) := by decide +kernel
theorem dX3_isNameTaken_60 : decode cX3_isNameTaken 60 = .ok (.aload_n 0, 1) := by decide +kernel
theorem dX3_isNameTaken_61 : decode cX3_isNameTaken 61 = .ok (.getfield 24, 3) := by decide +kernel
theorem dX3_isNameTaken_64 : decode cX3_isNameTaken 64 = .ok (.getfield 138, 3) := by decide +kernel
theorem dX3_isNameTaken_67 : decode cX3_isNameTaken 67 = .ok (.iload_n 2, 1) := by decide +kernel
theorem dX3_isNameTaken_68 : decode cX3_isNameTaken 68 = .ok (.bipush 6, 2) := by decide +kernel
theorem dX3_isNameTaken_70 : decode cX3_isNameTaken 70 = .ok (.imul, 1) := by decide +kernel
theorem dX3_isNameTaken_71 : decode cX3_isNameTaken 71 = .ok (.iload 4, 2) := by decide +kernel
theorem dX3_isNameTaken_73 : decode cX3_isNameTaken 73 = .ok (.iadd, 1) := by decide +kernel
theorem dX3_isNameTaken_74 : decode cX3_isNameTaken 74 = .ok (.iaload, 1) := by decide +kernel
theorem dX3_isNameTaken_75 : decode cX3_isNameTaken 75 = .ok (.if_icmp .ne 6, 3) := by decide +kernel
theorem dX3_isNameTaken_78 : decode cX3_isNameTaken 78 = .ok (.iinc 3 1, 3) := by decide +kernel
theorem dX3_isNameTaken_81 : decode cX3_isNameTaken 81 = .ok (.iinc 4 1, 3) := by decide +kernel
theorem dX3_isNameTaken_84 : decode cX3_isNameTaken 84 = .ok (.goto (-43), 3) := by decide +kernel
theorem dX3_isNameTaken_87 : decode cX3_isNameTaken 87 = .ok (.iload_n 3, 1) := by decide +kernel
theorem dX3_isNameTaken_88 : decode cX3_isNameTaken 88 = .ok (.bipush 6, 2) := by decide +kernel
theorem dX3_isNameTaken_90 : decode cX3_isNameTaken 90 = .ok (.if_icmp .ne 5, 3) := by decide +kernel
theorem dX3_isNameTaken_93 : decode cX3_isNameTaken 93 = .ok (.iconst 1, 1) := by decide +kernel
theorem dX3_isNameTaken_94 : decode cX3_isNameTaken 94 = .ok (.ireturn, 1) := by decide +kernel
theorem dX3_isNameTaken_95 : decode cX3_isNameTaken 95 = .ok (.iinc 2 1, 3) := by decide +kernel
theorem dX3_isNameTaken_98 : decode cX3_isNameTaken 98 = .ok (.goto (-85), 3) := by decide +kernel
theorem dX3_isNameTaken_101 : decode cX3_isNameTaken 101 = .ok (.iconst 0, 1) := by decide +kernel
theorem dX3_isNameTaken_102 : decode cX3_isNameTaken 102 = .ok (.ireturn, 1) := by decide +kernel
theorem dX3_readSum_0 : decode cX3_readSum 0 = .ok (.iconst 0, 1) := by decide +kernel
theorem dX3_readSum_1 : decode cX3_readSum 1 = .ok (.istore_n 1, 1) := by decide +kernel
theorem dX3_readSum_2 : decode cX3_readSum 2 = .ok (.aload_n 0, 1) := by decide +kernel
theorem dX3_readSum_3 : decode cX3_readSum 3 = .ok (.iload_n 1, 1) := by decide +kernel
theorem dX3_readSum_4 : decode cX3_readSum 4 = .ok (.invokevirtual 141, 3) := by decide +kernel
theorem dX3_readSum_7 : decode cX3_readSum 7 = .ok (.iconst 0, 1) := by decide +kernel
theorem dX3_readSum_8 : decode cX3_readSum 8 = .ok (.istore_n 2, 1) := by decide +kernel
theorem dX3_readSum_9 : decode cX3_readSum 9 = .ok (.iload_n 2, 1) := by decide +kernel
theorem dX3_readSum_10 : decode cX3_readSum 10 = .ok (.aload_n 0, 1) := by decide +kernel
theorem dX3_readSum_11 : decode cX3_readSum 11 = .ok (.getfield 9, 3) := by decide +kernel
theorem dX3_readSum_14 : decode cX3_readSum 14 = .ok (.if_icmp .gt 195, 3) := by decide +kernel
theorem dX3_readSum_17 : decode cX3_readSum 17 = .ok (.aload_n 0, 1) := by decide +kernel
theorem dX3_readSum_18 : decode cX3_readSum 18 = .ok (.invokevirtual 68, 3) := by decide +kernel
theorem dX3_readSum_21 : decode cX3_readSum 21 = .ok (.aload_n 0, 1) := by decide +kernel
theorem dX3_readSum_22 : decode cX3_readSum 22 = .ok (.getfield 59, 3) := by decide +kernel
theorem dX3_readSum_25 : decode cX3_readSum 25 = .ok (.istore_n 3, 1) := by decide +kernel
theorem dX3_readSum_26 : decode cX3_readSum 26 = .ok (.aload_n 0, 1) := by decide +kernel
theorem dX3_readSum_27 : decode cX3_readSum 27 = .ok (.bipush 40, 2) := by decide +kernel
theorem dX3_readSum_29 : decode cX3_readSum 29 = .ok (.invokevirtual 145, 3) := by decide +kernel
theorem dX3_readSum_32 : decode cX3_readSum 32 = .ok (.ifCond .eq 34, 3) := by decide +kernel
theorem dX3_readSum_35 : decode cX3_readSum 35 = .ok (.iload_n 1, 1) := by decide +kernel
theorem dX3_readSum_36 : decode cX3_readSum 36 = .ok (.bipush 40, 2) := by decide +kernel
theorem dX3_readSum_38 : decode cX3_readSum 38 = .ok (.if_icmp .lt 10, 3) := by decide +kernel
theorem dX3_readSum_41 : decode cX3_readSum 41 = .ok (.aload_n 0, 1) := by decide +kernel
theorem dX3_readSum_42 : decode cX3_readSum 42 = .ok (.iconst 4, 1) := by decide +kernel
theorem dX3_readSum_43 : decode cX3_readSum 43 = .ok (.iload_n 3, 1) := by decide +kernel
theorem dX3_readSum_44 : decode cX3_readSum 44 = .ok (.invokevirtual 92, 3) := by decide +kernel
theorem dX3_readSum_47 : decode cX3_readSum 47 = .ok (.ireturn, 1) := by decide +kernel
theorem dX3_readSum_48 : decode cX3_readSum 48 = .ok (.aload_n 0, 1) := by decide +kernel
theorem dX3_readSum_49 : decode cX3_readSum 49 = .ok (.getfield 45, 3) := by decide +kernel
theorem dX3_readSum_52 : decode cX3_readSum 52 = .ok (.iload_n 1, 1) := by decide +kernel
theorem dX3_readSum_53 : decode cX3_readSum 53 = .ok (.iload_n 3, 1) := by decide +kernel
theorem dX3_readSum_54 : decode cX3_readSum 54 = .ok (.iastore, 1) := by decide +kernel
theorem dX3_readSum_55 : decode cX3_readSum 55 = .ok (.iinc 1 1, 3) := by decide +kernel
theorem dX3_readSum_58 : decode cX3_readSum 58 = .ok (.aload_n 0, 1) := by decide +kernel
theorem dX3_readSum_59 : decode cX3_readSum 59 = .ok (.iload_n 1, 1) := by decide +kernel
theorem dX3_readSum_60 : decode cX3_readSum 60 = .ok (.invokevirtual 141, 3) := by decide +kernel
theorem dX3_readSum_63 : decode cX3_readSum 63 = .ok (.goto 140, 3) := by decide +kernel
theorem dX3_readSum_66 : decode cX3_readSum 66 = .ok (.aload_n 0, 1) := by decide +kernel
theorem dX3_readSum_67 : decode cX3_readSum 67 = .ok (.invokevirtual 148, 3) := by decide +kernel
theorem dX3_readSum_70 : decode cX3_readSum 70 = .ok (.ifCond .eq 12, 3) := by decide +kernel
theorem dX3_readSum_73 : decode cX3_readSum 73 = .ok (.aload_n 0, 1) := by decide +kernel
theorem dX3_readSum_74 : decode cX3_readSum 74 = .ok (.iload_n 1, 1) := by decide +kernel
theorem dX3_readSum_75 : decode cX3_readSum 75 = .ok (.iload_n 3, 1) := by decide +kernel
theorem dX3_readSum_76 : decode cX3_readSum 76 = .ok (.invokevirtual 151, 3) := by decide +kernel
theorem dX3_readSum_79 : decode cX3_readSum 79 = .ok (.ifCond .ne 5, 3) := by decide +kernel
theorem dX3_readSum_82 : decode cX3_readSum 82 = .ok (.iconst 0, 1) := by decide +kernel
theorem dX3_readSum_83 : decode cX3_readSum 83 = .ok (.ireturn, 1) := by decide +kernel
theorem dX3_readSum_84 : decode cX3_readSum 84 = .ok (.iload_n 1, 1) := by decide +kernel
theorem dX3_readSum_85 : decode cX3_readSum 85 = .ok (.ifCond .le 49, 3) := by decide +kernel
theorem dX3_readSum_88 : decode cX3_readSum 88 = .ok (.aload_n 0, 1) := by decide +kernel
theorem dX3_readSum_89 : decode cX3_readSum 89 = .ok (.bipush 41, 2) := by decide +kernel
theorem dX3_readSum_91 : decode cX3_readSum 91 = .ok (.invokevirtual 145, 3) := by decide +kernel
theorem dX3_readSum_94 : decode cX3_readSum 94 = .ok (.ifCond .eq 40, 3) := by decide +kernel
theorem dX3_readSum_97 : decode cX3_readSum 97 = .ok (.aload_n 0, 1) := by decide +kernel
theorem dX3_readSum_98 : decode cX3_readSum 98 = .ok (.iload_n 1, 1) := by decide +kernel
theorem dX3_readSum_99 : decode cX3_readSum 99 = .ok (.invokevirtual 154, 3) := by decide +kernel
theorem dX3_readSum_102 : decode cX3_readSum 102 = .ok (.aload_n 0, 1) := by decide +kernel
theorem dX3_readSum_103 : decode cX3_readSum 103 = .ok (.getfield 49, 3) := by decide +kernel
theorem dX3_readSum_106 : decode cX3_readSum 106 = .ok (.aload_n 0, 1) := by decide +kernel
theorem dX3_readSum_107 : decode cX3_readSum 107 = .ok (.getfield 34, 3) := by decide +kernel
theorem dX3_readSum_110 : decode cX3_readSum 110 = .ok (.iload_n 1, 1) := by decide +kernel
theorem dX3_readSum_111 : decode cX3_readSum 111 = .ok (.aaload, 1) := by decide +kernel
theorem dX3_readSum_112 : decode cX3_readSum 112 = .ok (.invokevirtual 120, 3) := by decide +kernel
theorem dX3_readSum_115 : decode cX3_readSum 115 = .ok (.iinc 1 (-1), 3) := by decide +kernel
theorem dX3_readSum_118 : decode cX3_readSum 118 = .ok (.aload_n 0, 1) := by decide +kernel
theorem dX3_readSum_119 : decode cX3_readSum 119 = .ok (.iload_n 1, 1) := by decide +kernel
theorem dX3_readSum_120 : decode cX3_readSum 120 = .ok (.aload_n 0, 1) := by decide +kernel
theorem dX3_readSum_121 : decode cX3_readSum 121 = .ok (.getfield 45, 3) := by decide +kernel
theorem dX3_readSum_124 : decode cX3_readSum 124 = .ok (.iload_n 1, 1) := by decide +kernel
theorem dX3_readSum_125 : decode cX3_readSum 125 = .ok (.iaload, 1) := by decide +kernel
theorem dX3_readSum_126 : decode cX3_readSum 126 = .ok (.invokevirtual 151, 3) := by decide +kernel
theorem dX3_readSum_129 : decode cX3_readSum 129 = .ok (.ifCond .ne (-45), 3) := by decide +kernel
theorem dX3_readSum_132 : decode cX3_readSum 132 = .ok (.iconst 0, 1) := by decide +kernel
theorem dX3_readSum_133 : decode cX3_readSum 133 = .ok (.ireturn, 1) := by decide +kernel
theorem dX3_readSum_134 : decode cX3_readSum 134 = .ok (.aload_n 0, 1) := by decide +kernel
theorem dX3_readSum_135 : decode cX3_readSum 135 = .ok (.bipush 42, 2) := by decide +kernel
theorem dX3_readSum_137 : decode cX3_readSum 137 = .ok (.invokevirtual 145, 3) := by decide +kernel
theorem dX3_readSum_140 : decode cX3_readSum 140 = .ok (.ifCond .eq 6, 3) := by decide +kernel
theorem dX3_readSum_143 : decode cX3_readSum 143 = .ok (.goto 60, 3) := by decide +kernel
theorem dX3_readSum_146 : decode cX3_readSum 146 = .ok (.aload_n 0, 1) := by decide +kernel
theorem dX3_readSum_147 : decode cX3_readSum 147 = .ok (.iload_n 1, 1) := by decide +kernel
theorem dX3_readSum_148 : decode cX3_readSum 148 = .ok (.invokevirtual 154, 3) := by decide +kernel
theorem dX3_readSum_151 : decode cX3_readSum 151 = .ok (.aload_n 0, 1) := by decide +kernel
theorem dX3_readSum_152 : decode cX3_readSum 152 = .ok (.getfield 41, 3) := by decide +kernel
theorem dX3_readSum_155 : decode cX3_readSum 155 = .ok (.iload_n 1, 1) := by decide +kernel
theorem dX3_readSum_156 : decode cX3_readSum 156 = .ok (.aload_n 0, 1) := by decide +kernel
theorem dX3_readSum_157 : decode cX3_readSum 157 = .ok (.bipush 45, 2) := by decide +kernel
theorem dX3_readSum_159 : decode cX3_readSum 159 = .ok (.invokevirtual 145, 3) := by decide +kernel
theorem dX3_readSum_162 : decode cX3_readSum 162 = .ok (.bastore, 1) := by decide +kernel
theorem dX3_readSum_163 : decode cX3_readSum 163 = .ok (.aload_n 0, 1) := by decide +kernel
theorem dX3_readSum_164 : decode cX3_readSum 164 = .ok (.getfield 41, 3) := by decide +kernel
theorem dX3_readSum_167 : decode cX3_readSum 167 = .ok (.iload_n 1, 1) := by decide +kernel
theorem dX3_readSum_168 : decode cX3_readSum 168 = .ok (.baload, 1) := by decide +kernel
theorem dX3_readSum_169 : decode cX3_readSum 169 = .ok (.ifCond .ne 34, 3) := by decide +kernel
theorem dX3_readSum_172 : decode cX3_readSum 172 = .ok (.aload_n 0, 1) := by decide +kernel
theorem dX3_readSum_173 : decode cX3_readSum 173 = .ok (.bipush 43, 2) := by decide +kernel
theorem dX3_readSum_175 : decode cX3_readSum 175 = .ok (.invokevirtual 145, 3) := by decide +kernel
theorem dX3_readSum_178 : decode cX3_readSum 178 = .ok (.ifCond .ne 25, 3) := by decide +kernel
theorem dX3_readSum_181 : decode cX3_readSum 181 = .ok (.iload_n 1, 1) := by decide +kernel
theorem dX3_readSum_182 : decode cX3_readSum 182 = .ok (.ifCond .eq 15, 3) := by decide +kernel
theorem dX3_readSum_185 : decode cX3_readSum 185 = .ok (.aload_n 0, 1) := by decide +kernel
theorem dX3_readSum_186 : decode cX3_readSum 186 = .ok (.iconst 1, 1) := by decide +kernel
theorem dX3_readSum_187 : decode cX3_readSum 187 = .ok (.aload_n 0, 1) := by decide +kernel
theorem dX3_readSum_188 : decode cX3_readSum 188 = .ok (.getfield 59, 3) := by decide +kernel
theorem dX3_readSum_191 : decode cX3_readSum 191 = .ok (.invokevirtual 92, 3) := by decide +kernel
theorem dX3_readSum_194 : decode cX3_readSum 194 = .ok (.ifCond .eq 7, 3) := by decide +kernel
theorem dX3_readSum_197 : decode cX3_readSum 197 = .ok (.iconst 1, 1) := by decide +kernel
theorem dX3_readSum_198 : decode cX3_readSum 198 = .ok (.goto 4, 3) := by decide +kernel
theorem dX3_readSum_201 : decode cX3_readSum 201 = .ok (.iconst 0, 1) := by decide +kernel
theorem dX3_readSum_202 : decode cX3_readSum 202 = .ok (.ireturn, 1) := by decide +kernel
theorem dX3_readSum_203 : decode cX3_readSum 203 = .ok (.iinc 2 1, 3) := by decide +kernel
theorem dX3_readSum_206 : decode cX3_readSum 206 = .ok (.goto (-197), 3) := by decide +kernel
theorem dX3_readSum_209 : decode cX3_readSum 209 = .ok (.iconst 0, 1) := by decide +kernel
theorem dX3_readSum_210 : decode cX3_readSum 210 = .ok (.ireturn, 1) := by decide +kernel
theorem dX3_begin_0 : decode cX3_begin 0 = .ok (.aload_n 0, 1) := by decide +kernel
theorem dX3_begin_1 : decode cX3_begin 1 = .ok (.getfield 34, 3) := by decide +kernel
theorem dX3_begin_4 : decode cX3_begin 4 = .ok (.iload_n 1, 1) := by decide +kernel
theorem dX3_begin_5 : decode cX3_begin 5 = .ok (.aaload, 1) := by decide +kernel
theorem dX3_begin_6 : decode cX3_begin 6 = .ok (.iconst 0, 1) := by decide +kernel
theorem dX3_begin_7 : decode cX3_begin 7 = .ok (.invokevirtual 157, 3) := by decide +kernel
theorem dX3_begin_10 : decode cX3_begin 10 = .ok (.aload_n 0, 1) := by decide +kernel
theorem dX3_begin_11 : decode cX3_begin 11 = .ok (.getfield 38, 3) := by decide +kernel
theorem dX3_begin_14 : decode cX3_begin 14 = .ok (.iload_n 1, 1) := by decide +kernel
theorem dX3_begin_15 : decode cX3_begin 15 = .ok (.aaload, 1) := by decide +kernel
theorem dX3_begin_16 : decode cX3_begin 16 = .ok (.iconst 1, 1) := by decide +kernel
theorem dX3_begin_17 : decode cX3_begin 17 = .ok (.invokevirtual 157, 3) := by decide +kernel
theorem dX3_begin_20 : decode cX3_begin 20 = .ok (.aload_n 0, 1) := by decide +kernel
theorem dX3_begin_21 : decode cX3_begin 21 = .ok (.getfield 41, 3) := by decide +kernel
theorem dX3_begin_24 : decode cX3_begin 24 = .ok (.iload_n 1, 1) := by decide +kernel
theorem dX3_begin_25 : decode cX3_begin 25 = .ok (.aload_n 0, 1) := by decide +kernel
theorem dX3_begin_26 : decode cX3_begin 26 = .ok (.bipush 45, 2) := by decide +kernel
theorem dX3_begin_28 : decode cX3_begin 28 = .ok (.invokevirtual 145, 3) := by decide +kernel
theorem dX3_begin_31 : decode cX3_begin 31 = .ok (.bastore, 1) := by decide +kernel
theorem dX3_begin_32 : decode cX3_begin 32 = .ok (.return_, 1) := by decide +kernel
theorem dX3_closeTerm_0 : decode cX3_closeTerm 0 = .ok (.aload_n 0, 1) := by decide +kernel
theorem dX3_closeTerm_1 : decode cX3_closeTerm 1 = .ok (.getfield 34, 3) := by decide +kernel
theorem dX3_closeTerm_4 : decode cX3_closeTerm 4 = .ok (.iload_n 1, 1) := by decide +kernel
theorem dX3_closeTerm_5 : decode cX3_closeTerm 5 = .ok (.aaload, 1) := by decide +kernel
theorem dX3_closeTerm_6 : decode cX3_closeTerm 6 = .ok (.aload_n 0, 1) := by decide +kernel
theorem dX3_closeTerm_7 : decode cX3_closeTerm 7 = .ok (.getfield 38, 3) := by decide +kernel
theorem dX3_closeTerm_10 : decode cX3_closeTerm 10 = .ok (.iload_n 1, 1) := by decide +kernel
theorem dX3_closeTerm_11 : decode cX3_closeTerm 11 = .ok (.aaload, 1) := by decide +kernel
theorem dX3_closeTerm_12 : decode cX3_closeTerm 12 = .ok (.aload_n 0, 1) := by decide +kernel
theorem dX3_closeTerm_13 : decode cX3_closeTerm 13 = .ok (.getfield 41, 3) := by decide +kernel
theorem dX3_closeTerm_16 : decode cX3_closeTerm 16 = .ok (.iload_n 1, 1) := by decide +kernel
theorem dX3_closeTerm_17 : decode cX3_closeTerm 17 = .ok (.baload, 1) := by decide +kernel
theorem dX3_closeTerm_18 : decode cX3_closeTerm 18 = .ok (.ifCond .eq 15, 3) := by decide +kernel
theorem dX3_closeTerm_21 : decode cX3_closeTerm 21 = .ok (.aload_n 0, 1) := by decide +kernel
theorem dX3_closeTerm_22 : decode cX3_closeTerm 22 = .ok (.getfield 24, 3) := by decide +kernel
theorem dX3_closeTerm_25 : decode cX3_closeTerm 25 = .ok (.getfield 62, 3) := by decide +kernel
theorem dX3_closeTerm_28 : decode cX3_closeTerm 28 = .ok (.iconst 1, 1) := by decide +kernel
theorem dX3_closeTerm_29 : decode cX3_closeTerm 29 = .ok (.isub, 1) := by decide +kernel
theorem dX3_closeTerm_30 : decode cX3_closeTerm 30 = .ok (.goto 4, 3) := by decide +kernel
theorem dX3_closeTerm_33 : decode cX3_closeTerm 33 = .ok (.iconst 1, 1) := by decide +kernel
theorem dX3_closeTerm_34 : decode cX3_closeTerm 34 = .ok (.aload_n 0, 1) := by decide +kernel
theorem dX3_closeTerm_35 : decode cX3_closeTerm 35 = .ok (.getfield 24, 3) := by decide +kernel
theorem dX3_closeTerm_38 : decode cX3_closeTerm 38 = .ok (.getfield 62, 3) := by decide +kernel
theorem dX3_closeTerm_41 : decode cX3_closeTerm 41 = .ok (.invokevirtual 160, 3) := by decide +kernel
theorem dX3_closeTerm_44 : decode cX3_closeTerm 44 = .ok (.aload_n 0, 1) := by decide +kernel
theorem dX3_closeTerm_45 : decode cX3_closeTerm 45 = .ok (.getfield 38, 3) := by decide +kernel
theorem dX3_closeTerm_48 : decode cX3_closeTerm 48 = .ok (.iload_n 1, 1) := by decide +kernel
theorem dX3_closeTerm_49 : decode cX3_closeTerm 49 = .ok (.aaload, 1) := by decide +kernel
theorem dX3_closeTerm_50 : decode cX3_closeTerm 50 = .ok (.iconst 1, 1) := by decide +kernel
theorem dX3_closeTerm_51 : decode cX3_closeTerm 51 = .ok (.invokevirtual 157, 3) := by decide +kernel
theorem dX3_closeTerm_54 : decode cX3_closeTerm 54 = .ok (.return_, 1) := by decide +kernel
theorem dX3_readFactor_0 : decode cX3_readFactor 0 = .ok (.iconst 1, 1) := by decide +kernel
theorem dX3_readFactor_1 : decode cX3_readFactor 1 = .ok (.istore_n 3, 1) := by decide +kernel
theorem dX3_readFactor_2 : decode cX3_readFactor 2 = .ok (.aload_n 0, 1) := by decide +kernel
theorem dX3_readFactor_3 : decode cX3_readFactor 3 = .ok (.bipush 94, 2) := by decide +kernel
theorem dX3_readFactor_5 : decode cX3_readFactor 5 = .ok (.invokevirtual 145, 3) := by decide +kernel
theorem dX3_readFactor_8 : decode cX3_readFactor 8 = .ok (.ifCond .eq 55, 3) := by decide +kernel
theorem dX3_readFactor_11 : decode cX3_readFactor 11 = .ok (.aload_n 0, 1) := by decide +kernel
theorem dX3_readFactor_12 : decode cX3_readFactor 12 = .ok (.invokevirtual 68, 3) := by decide +kernel
theorem dX3_readFactor_15 : decode cX3_readFactor 15 = .ok (.aload_n 0, 1) := by decide +kernel
theorem dX3_readFactor_16 : decode cX3_readFactor 16 = .ok (.getfield 59, 3) := by decide +kernel
theorem dX3_readFactor_19 : decode cX3_readFactor 19 = .ok (.istore 4, 2) := by decide +kernel
theorem dX3_readFactor_21 : decode cX3_readFactor 21 = .ok (.aload_n 0, 1) := by decide +kernel
theorem dX3_readFactor_22 : decode cX3_readFactor 22 = .ok (.iload 4, 2) := by decide +kernel
theorem dX3_readFactor_24 : decode cX3_readFactor 24 = .ok (.invokevirtual 84, 3) := by decide +kernel
theorem dX3_readFactor_27 : decode cX3_readFactor 27 = .ok (.invokestatic 88, 3) := by decide +kernel
theorem dX3_readFactor_30 : decode cX3_readFactor 30 = .ok (.ifCond .ne 11, 3) := by decide +kernel
theorem dX3_readFactor_33 : decode cX3_readFactor 33 = .ok (.aload_n 0, 1) := by decide +kernel
theorem dX3_readFactor_34 : decode cX3_readFactor 34 = .ok (.iconst 1, 1) := by decide +kernel
theorem dX3_readFactor_35 : decode cX3_readFactor 35 = .ok (.iload 4, 2) := by decide +kernel
theorem dX3_readFactor_37 : decode cX3_readFactor 37 = .ok (.invokevirtual 92, 3) := by decide +kernel
theorem dX3_readFactor_40 : decode cX3_readFactor 40 = .ok (.ireturn, 1) := by decide +kernel
theorem dX3_readFactor_41 : decode cX3_readFactor 41 = .ok (.aload_n 0, 1) := by decide +kernel
theorem dX3_readFactor_42 : decode cX3_readFactor 42 = .ok (.invokevirtual 96, 3) := by decide +kernel
theorem dX3_readFactor_45 : decode cX3_readFactor 45 = .ok (.istore_n 3, 1) := by decide +kernel
theorem dX3_readFactor_46 : decode cX3_readFactor 46 = .ok (.iload_n 3, 1) := by decide +kernel
theorem dX3_readFactor_47 : decode cX3_readFactor 47 = .ok (.ifCond .lt 8, 3) := by decide +kernel
theorem dX3_readFactor_50 : decode cX3_readFactor 50 = .ok (.iload_n 3, 1) := by decide +kernel
theorem dX3_readFactor_51 : decode cX3_readFactor 51 = .ok (.iconst 4, 1) := by decide +kernel
theorem dX3_readFactor_52 : decode cX3_readFactor 52 = .ok (.if_icmp .le 11, 3) := by decide +kernel
theorem dX3_readFactor_55 : decode cX3_readFactor 55 = .ok (.aload_n 0, 1) := by decide +kernel
theorem dX3_readFactor_56 : decode cX3_readFactor 56 = .ok (.iconst 2, 1) := by decide +kernel
theorem dX3_readFactor_57 : decode cX3_readFactor 57 = .ok (.iload 4, 2) := by decide +kernel
theorem dX3_readFactor_59 : decode cX3_readFactor 59 = .ok (.invokevirtual 92, 3) := by decide +kernel
theorem dX3_readFactor_62 : decode cX3_readFactor 62 = .ok (.ireturn, 1) := by decide +kernel
theorem dX3_readFactor_63 : decode cX3_readFactor 63 = .ok (.aload_n 0, 1) := by decide +kernel
theorem dX3_readFactor_64 : decode cX3_readFactor 64 = .ok (.getfield 53, 3) := by decide +kernel
theorem dX3_readFactor_67 : decode cX3_readFactor 67 = .ok (.iconst 1, 1) := by decide +kernel
theorem dX3_readFactor_68 : decode cX3_readFactor 68 = .ok (.invokevirtual 157, 3) := by decide +kernel
theorem dX3_readFactor_71 : decode cX3_readFactor 71 = .ok (.iconst 0, 1) := by decide +kernel
theorem dX3_readFactor_72 : decode cX3_readFactor 72 = .ok (.istore 4, 2) := by decide +kernel
theorem dX3_readFactor_74 : decode cX3_readFactor 74 = .ok (.iload 4, 2) := by decide +kernel
theorem dX3_readFactor_76 : decode cX3_readFactor 76 = .ok (.iload_n 3, 1) := by decide +kernel
theorem dX3_readFactor_77 : decode cX3_readFactor 77 = .ok (.if_icmp .ge 31, 3) := by decide +kernel
theorem dX3_readFactor_80 : decode cX3_readFactor 80 = .ok (.aload_n 0, 1) := by decide +kernel
theorem dX3_readFactor_81 : decode cX3_readFactor 81 = .ok (.aload_n 0, 1) := by decide +kernel
theorem dX3_readFactor_82 : decode cX3_readFactor 82 = .ok (.getfield 53, 3) := by decide +kernel
theorem dX3_readFactor_85 : decode cX3_readFactor 85 = .ok (.aload_n 0, 1) := by decide +kernel
theorem dX3_readFactor_86 : decode cX3_readFactor 86 = .ok (.getfield 49, 3) := by decide +kernel
theorem dX3_readFactor_89 : decode cX3_readFactor 89 = .ok (.invokevirtual 164, 3) := by decide +kernel
theorem dX3_readFactor_92 : decode cX3_readFactor 92 = .ok (.ifCond .ne 10, 3) := by decide +kernel
theorem dX3_readFactor_95 : decode cX3_readFactor 95 = .ok (.aload_n 0, 1) := by decide +kernel
theorem dX3_readFactor_96 : decode cX3_readFactor 96 = .ok (.iconst 4, 1) := by decide +kernel
theorem dX3_readFactor_97 : decode cX3_readFactor 97 = .ok (.iload_n 2, 1) := by decide +kernel
theorem dX3_readFactor_98 : decode cX3_readFactor 98 = .ok (.invokevirtual 92, 3) := by decide +kernel
theorem dX3_readFactor_101 : decode cX3_readFactor 101 = .ok (.ireturn, 1) := by decide +kernel
theorem dX3_readFactor_102 : decode cX3_readFactor 102 = .ok (.iinc 4 1, 3) := by decide +kernel
theorem dX3_readFactor_105 : decode cX3_readFactor 105 = .ok (.goto (-31), 3) := by decide +kernel
theorem dX3_readFactor_108 : decode cX3_readFactor 108 = .ok (.aload_n 0, 1) := by decide +kernel
theorem dX3_readFactor_109 : decode cX3_readFactor 109 = .ok (.aload_n 0, 1) := by decide +kernel
theorem dX3_readFactor_110 : decode cX3_readFactor 110 = .ok (.getfield 38, 3) := by decide +kernel
theorem dX3_readFactor_113 : decode cX3_readFactor 113 = .ok (.iload_n 1, 1) := by decide +kernel
theorem dX3_readFactor_114 : decode cX3_readFactor 114 = .ok (.aaload, 1) := by decide +kernel
theorem dX3_readFactor_115 : decode cX3_readFactor 115 = .ok (.aload_n 0, 1) := by decide +kernel
theorem dX3_readFactor_116 : decode cX3_readFactor 116 = .ok (.getfield 53, 3) := by decide +kernel
theorem dX3_readFactor_119 : decode cX3_readFactor 119 = .ok (.invokevirtual 164, 3) := by decide +kernel
theorem dX3_readFactor_122 : decode cX3_readFactor 122 = .ok (.ifCond .ne 12, 3) := by decide +kernel
theorem dX3_readFactor_125 : decode cX3_readFactor 125 = .ok (.aload_n 0, 1) := by decide +kernel
theorem dX3_readFactor_126 : decode cX3_readFactor 126 = .ok (.iconst 4, 1) := by decide +kernel
theorem dX3_readFactor_127 : decode cX3_readFactor 127 = .ok (.iload_n 2, 1) := by decide +kernel
theorem dX3_readFactor_128 : decode cX3_readFactor 128 = .ok (.invokevirtual 92, 3) := by decide +kernel
theorem dX3_readFactor_131 : decode cX3_readFactor 131 = .ok (.ifCond .eq 7, 3) := by decide +kernel
theorem dX3_readFactor_134 : decode cX3_readFactor 134 = .ok (.iconst 1, 1) := by decide +kernel
theorem dX3_readFactor_135 : decode cX3_readFactor 135 = .ok (.goto 4, 3) := by decide +kernel
theorem dX3_readFactor_138 : decode cX3_readFactor 138 = .ok (.iconst 0, 1) := by decide +kernel
theorem dX3_readFactor_139 : decode cX3_readFactor 139 = .ok (.ireturn, 1) := by decide +kernel
theorem dX3_readAtom_0 : decode cX3_readAtom 0 = .ok (.aload_n 0, 1) := by decide +kernel
theorem dX3_readAtom_1 : decode cX3_readAtom 1 = .ok (.getfield 59, 3) := by decide +kernel
theorem dX3_readAtom_4 : decode cX3_readAtom 4 = .ok (.istore_n 1, 1) := by decide +kernel
theorem dX3_readAtom_5 : decode cX3_readAtom 5 = .ok (.aload_n 0, 1) := by decide +kernel
theorem dX3_readAtom_6 : decode cX3_readAtom 6 = .ok (.iload_n 1, 1) := by decide +kernel
theorem dX3_readAtom_7 : decode cX3_readAtom 7 = .ok (.invokevirtual 84, 3) := by decide +kernel
theorem dX3_readAtom_10 : decode cX3_readAtom 10 = .ok (.invokestatic 88, 3) := by decide +kernel
theorem dX3_readAtom_13 : decode cX3_readAtom 13 = .ok (.ifCond .eq 45, 3) := by decide +kernel
theorem dX3_readAtom_16 : decode cX3_readAtom 16 = .ok (.aload_n 0, 1) := by decide +kernel
theorem dX3_readAtom_17 : decode cX3_readAtom 17 = .ok (.invokevirtual 96, 3) := by decide +kernel
theorem dX3_readAtom_20 : decode cX3_readAtom 20 = .ok (.istore_n 2, 1) := by decide +kernel
theorem dX3_readAtom_21 : decode cX3_readAtom 21 = .ok (.aload_n 0, 1) := by decide +kernel
theorem dX3_readAtom_22 : decode cX3_readAtom 22 = .ok (.getfield 49, 3) := by decide +kernel
theorem dX3_readAtom_25 : decode cX3_readAtom 25 = .ok (.iload_n 2, 1) := by decide +kernel
theorem dX3_readAtom_26 : decode cX3_readAtom 26 = .ok (.aload_n 0, 1) := by decide +kernel
theorem dX3_readAtom_27 : decode cX3_readAtom 27 = .ok (.getfield 24, 3) := by decide +kernel
theorem dX3_readAtom_30 : decode cX3_readAtom 30 = .ok (.getfield 62, 3) := by decide +kernel
theorem dX3_readAtom_33 : decode cX3_readAtom 33 = .ok (.invokestatic 168, 3) := by decide +kernel
theorem dX3_readAtom_36 : decode cX3_readAtom 36 = .ok (.invokevirtual 157, 3) := by decide +kernel
theorem dX3_readAtom_39 : decode cX3_readAtom 39 = .ok (.iload_n 2, 1) := by decide +kernel
theorem dX3_readAtom_40 : decode cX3_readAtom 40 = .ok (.ifCond .ge 12, 3) := by decide +kernel
theorem dX3_readAtom_43 : decode cX3_readAtom 43 = .ok (.aload_n 0, 1) := by decide +kernel
theorem dX3_readAtom_44 : decode cX3_readAtom 44 = .ok (.iconst 2, 1) := by decide +kernel
theorem dX3_readAtom_45 : decode cX3_readAtom 45 = .ok (.iload_n 1, 1) := by decide +kernel
theorem dX3_readAtom_46 : decode cX3_readAtom 46 = .ok (.invokevirtual 92, 3) := by decide +kernel
theorem dX3_readAtom_49 : decode cX3_readAtom 49 = .ok (.ifCond .eq 7, 3) := by decide +kernel
theorem dX3_readAtom_52 : decode cX3_readAtom 52 = .ok (.iconst 1, 1) := by decide +kernel
theorem dX3_readAtom_53 : decode cX3_readAtom 53 = .ok (.goto 4, 3) := by decide +kernel
theorem dX3_readAtom_56 : decode cX3_readAtom 56 = .ok (.iconst 0, 1) := by decide +kernel
theorem dX3_readAtom_57 : decode cX3_readAtom 57 = .ok (.ireturn, 1) := by decide +kernel
theorem dX3_readAtom_58 : decode cX3_readAtom 58 = .ok (.aload_n 0, 1) := by decide +kernel
theorem dX3_readAtom_59 : decode cX3_readAtom 59 = .ok (.ldc 127, 2) := by decide +kernel
theorem dX3_readAtom_61 : decode cX3_readAtom 61 = .ok (.invokevirtual 73, 3) := by decide +kernel
theorem dX3_readAtom_64 : decode cX3_readAtom 64 = .ok (.istore_n 2, 1) := by decide +kernel
theorem dX3_readAtom_65 : decode cX3_readAtom 65 = .ok (.iload_n 2, 1) := by decide +kernel
theorem dX3_readAtom_66 : decode cX3_readAtom 66 = .ok (.ifCond .ne 19, 3) := by decide +kernel
theorem dX3_readAtom_69 : decode cX3_readAtom 69 = .ok (.aload_n 0, 1) := by decide +kernel
theorem dX3_readAtom_70 : decode cX3_readAtom 70 = .ok (.ldc 129, 2) := by decide +kernel
theorem dX3_readAtom_72 : decode cX3_readAtom 72 = .ok (.invokevirtual 73, 3) := by decide +kernel
theorem dX3_readAtom_75 : decode cX3_readAtom 75 = .ok (.ifCond .ne 10, 3) := by decide +kernel
theorem dX3_readAtom_78 : decode cX3_readAtom 78 = .ok (.aload_n 0, 1) := by decide +kernel
theorem dX3_readAtom_79 : decode cX3_readAtom 79 = .ok (.iconst 1, 1) := by decide +kernel
theorem dX3_readAtom_80 : decode cX3_readAtom 80 = .ok (.iload_n 1, 1) := by decide +kernel
theorem dX3_readAtom_81 : decode cX3_readAtom 81 = .ok (.invokevirtual 92, 3) := by decide +kernel
theorem dX3_readAtom_84 : decode cX3_readAtom 84 = .ok (.ireturn, 1) := by decide +kernel
theorem dX3_readAtom_85 : decode cX3_readAtom 85 = .ok (.aload_n 0, 1) := by decide +kernel
theorem dX3_readAtom_86 : decode cX3_readAtom 86 = .ok (.getfield 49, 3) := by decide +kernel
theorem dX3_readAtom_89 : decode cX3_readAtom 89 = .ok (.iconst 0, 1) := by decide +kernel
theorem dX3_readAtom_90 : decode cX3_readAtom 90 = .ok (.invokevirtual 157, 3) := by decide +kernel
theorem dX3_readAtom_93 : decode cX3_readAtom 93 = .ok (.aload_n 0, 1) := by decide +kernel
theorem dX3_readAtom_94 : decode cX3_readAtom 94 = .ok (.getfield 49, 3) := by decide +kernel
theorem dX3_readAtom_97 : decode cX3_readAtom 97 = .ok (.iload_n 2, 1) := by decide +kernel
theorem dX3_readAtom_98 : decode cX3_readAtom 98 = .ok (.ifCond .eq 7, 3) := by decide +kernel
theorem dX3_readAtom_101 : decode cX3_readAtom 101 = .ok (.iconst 1, 1) := by decide +kernel
theorem dX3_readAtom_102 : decode cX3_readAtom 102 = .ok (.goto 4, 3) := by decide +kernel
theorem dX3_readAtom_105 : decode cX3_readAtom 105 = .ok (.iconst 0, 1) := by decide +kernel
theorem dX3_readAtom_106 : decode cX3_readAtom 106 = .ok (.iload_n 2, 1) := by decide +kernel
theorem dX3_readAtom_107 : decode cX3_readAtom 107 = .ok (.ifCond .eq 7, 3) := by decide +kernel
theorem dX3_readAtom_110 : decode cX3_readAtom 110 = .ok (.iconst 0, 1) := by decide +kernel
theorem dX3_readAtom_111 : decode cX3_readAtom 111 = .ok (.goto 4, 3) := by decide +kernel
theorem dX3_readAtom_114 : decode cX3_readAtom 114 = .ok (.iconst 1, 1) := by decide +kernel
theorem dX3_readAtom_115 : decode cX3_readAtom 115 = .ok (.iconst 1, 1) := by decide +kernel
theorem dX3_readAtom_116 : decode cX3_readAtom 116 = .ok (.invokevirtual 172, 3) := by decide +kernel
theorem dX3_readAtom_119 : decode cX3_readAtom 119 = .ok (.aload_n 0, 1) := by decide +kernel
theorem dX3_readAtom_120 : decode cX3_readAtom 120 = .ok (.dup, 1) := by decide +kernel
theorem dX3_readAtom_121 : decode cX3_readAtom 121 = .ok (.getfield 59, 3) := by decide +kernel
theorem dX3_readAtom_124 : decode cX3_readAtom 124 = .ok (.iconst 1, 1) := by decide +kernel
theorem dX3_readAtom_125 : decode cX3_readAtom 125 = .ok (.iadd, 1) := by decide +kernel
theorem dX3_readAtom_126 : decode cX3_readAtom 126 = .ok (.putfield 59, 3) := by decide +kernel
theorem dX3_readAtom_129 : decode cX3_readAtom 129 = .ok (.iconst 1, 1) := by decide +kernel
theorem dX3_readAtom_130 : decode cX3_readAtom 130 = .ok (.ireturn, 1) := by decide +kernel
theorem dX3_readNumber_0 : decode cX3_readNumber 0 = .ok (.lconst 0, 1) := by decide +kernel
theorem dX3_readNumber_1 : decode cX3_readNumber 1 = .ok (.lstore_n 1, 1) := by decide +kernel
theorem dX3_readNumber_2 : decode cX3_readNumber 2 = .ok (.aload_n 0, 1) := by decide +kernel
theorem dX3_readNumber_3 : decode cX3_readNumber 3 = .ok (.getfield 59, 3) := by decide +kernel
theorem dX3_readNumber_6 : decode cX3_readNumber 6 = .ok (.aload_n 0, 1) := by decide +kernel
theorem dX3_readNumber_7 : decode cX3_readNumber 7 = .ok (.getfield 9, 3) := by decide +kernel
theorem dX3_readNumber_10 : decode cX3_readNumber 10 = .ok (.if_icmp .ge 56, 3) := by decide +kernel
theorem dX3_readNumber_13 : decode cX3_readNumber 13 = .ok (.aload_n 0, 1) := by decide +kernel
theorem dX3_readNumber_14 : decode cX3_readNumber 14 = .ok (.aload_n 0, 1) := by decide +kernel
theorem dX3_readNumber_15 : decode cX3_readNumber 15 = .ok (.getfield 59, 3) := by decide +kernel
theorem dX3_readNumber_18 : decode cX3_readNumber 18 = .ok (.invokevirtual 84, 3) := by decide +kernel
theorem dX3_readNumber_21 : decode cX3_readNumber 21 = .ok (.invokestatic 88, 3) := by decide +kernel
theorem dX3_readNumber_24 : decode cX3_readNumber 24 = .ok (.ifCond .eq 42, 3) := by decide +kernel
theorem dX3_readNumber_27 : decode cX3_readNumber 27 = .ok (.lload_n 1, 1) := by decide +kernel
theorem dX3_readNumber_28 : decode cX3_readNumber 28 = .ok (.ldc2_w 176, 3) := by decide +kernel
theorem dX3_readNumber_31 : decode cX3_readNumber 31 = .ok (.lmul, 1) := by decide +kernel
theorem dX3_readNumber_32 : decode cX3_readNumber 32 = .ok (.aload_n 0, 1) := by decide +kernel
theorem dX3_readNumber_33 : decode cX3_readNumber 33 = .ok (.aload_n 0, 1) := by decide +kernel
theorem dX3_readNumber_34 : decode cX3_readNumber 34 = .ok (.getfield 59, 3) := by decide +kernel
theorem dX3_readNumber_37 : decode cX3_readNumber 37 = .ok (.invokevirtual 84, 3) := by decide +kernel
theorem dX3_readNumber_40 : decode cX3_readNumber 40 = .ok (.i2l, 1) := by decide +kernel
theorem dX3_readNumber_41 : decode cX3_readNumber 41 = .ok (.ladd, 1) := by decide +kernel
theorem dX3_readNumber_42 : decode cX3_readNumber 42 = .ok (.ldc2_w 178, 3) := by decide +kernel
theorem dX3_readNumber_45 : decode cX3_readNumber 45 = .ok (.lsub, 1) := by decide +kernel
theorem dX3_readNumber_46 : decode cX3_readNumber 46 = .ok (.ldc2_w 180, 3) := by decide +kernel
theorem dX3_readNumber_49 : decode cX3_readNumber 49 = .ok (.invokestatic 182, 3) := by decide +kernel
theorem dX3_readNumber_52 : decode cX3_readNumber 52 = .ok (.lstore_n 1, 1) := by decide +kernel
theorem dX3_readNumber_53 : decode cX3_readNumber 53 = .ok (.aload_n 0, 1) := by decide +kernel
theorem dX3_readNumber_54 : decode cX3_readNumber 54 = .ok (.dup, 1) := by decide +kernel
theorem dX3_readNumber_55 : decode cX3_readNumber 55 = .ok (.getfield 59, 3) := by decide +kernel
theorem dX3_readNumber_58 : decode cX3_readNumber 58 = .ok (.iconst 1, 1) := by decide +kernel
theorem dX3_readNumber_59 : decode cX3_readNumber 59 = .ok (.iadd, 1) := by decide +kernel
theorem dX3_readNumber_60 : decode cX3_readNumber 60 = .ok (.putfield 59, 3) := by decide +kernel
theorem dX3_readNumber_63 : decode cX3_readNumber 63 = .ok (.goto (-61), 3) := by decide +kernel
theorem dX3_readNumber_66 : decode cX3_readNumber 66 = .ok (.lload_n 1, 1) := by decide +kernel
theorem dX3_readNumber_67 : decode cX3_readNumber 67 = .ok (.ldc2_w 188, 3) := by decide +kernel
theorem dX3_readNumber_70 : decode cX3_readNumber 70 = .ok (.lcmp, 1) := by decide +kernel
theorem dX3_readNumber_71 : decode cX3_readNumber 71 = .ok (.ifCond .le 7, 3) := by decide +kernel
theorem dX3_readNumber_74 : decode cX3_readNumber 74 = .ok (.iconst (-1), 1) := by decide +kernel
theorem dX3_readNumber_75 : decode cX3_readNumber 75 = .ok (.goto 5, 3) := by decide +kernel
theorem dX3_readNumber_78 : decode cX3_readNumber 78 = .ok (.lload_n 1, 1) := by decide +kernel
theorem dX3_readNumber_79 : decode cX3_readNumber 79 = .ok (.l2i, 1) := by decide +kernel
theorem dX3_readNumber_80 : decode cX3_readNumber 80 = .ok (.ireturn, 1) := by decide +kernel
theorem dX3_multiply_0 : decode cX3_multiply 0 = .ok (.aload_n 1, 1) := by decide +kernel
theorem dX3_multiply_1 : decode cX3_multiply 1 = .ok (.invokevirtual 114, 3) := by decide +kernel
theorem dX3_multiply_4 : decode cX3_multiply 4 = .ok (.istore_n 3, 1) := by decide +kernel
theorem dX3_multiply_5 : decode cX3_multiply 5 = .ok (.aload_n 2, 1) := by decide +kernel
theorem dX3_multiply_6 : decode cX3_multiply 6 = .ok (.invokevirtual 114, 3) := by decide +kernel
theorem dX3_multiply_9 : decode cX3_multiply 9 = .ok (.istore 4, 2) := by decide +kernel
theorem dX3_multiply_11 : decode cX3_multiply 11 = .ok (.iload_n 3, 1) := by decide +kernel
theorem dX3_multiply_12 : decode cX3_multiply 12 = .ok (.ifCond .lt 18, 3) := by decide +kernel
theorem dX3_multiply_15 : decode cX3_multiply 15 = .ok (.iload 4, 2) := by decide +kernel
theorem dX3_multiply_17 : decode cX3_multiply 17 = .ok (.ifCond .lt 13, 3) := by decide +kernel
theorem dX3_multiply_20 : decode cX3_multiply 20 = .ok (.iload_n 3, 1) := by decide +kernel
theorem dX3_multiply_21 : decode cX3_multiply 21 = .ok (.iload 4, 2) := by decide +kernel
theorem dX3_multiply_23 : decode cX3_multiply 23 = .ok (.iadd, 1) := by decide +kernel
theorem dX3_multiply_24 : decode cX3_multiply 24 = .ok (.iconst 4, 1) := by decide +kernel
theorem dX3_multiply_25 : decode cX3_multiply 25 = .ok (.if_icmp .le 5, 3) := by decide +kernel
theorem dX3_multiply_28 : decode cX3_multiply 28 = .ok (.iconst 0, 1) := by decide +kernel
theorem dX3_multiply_29 : decode cX3_multiply 29 = .ok (.ireturn, 1) := by decide +kernel
theorem dX3_multiply_30 : decode cX3_multiply 30 = .ok (.aload_n 0, 1) := by decide +kernel
theorem dX3_multiply_31 : decode cX3_multiply 31 = .ok (.getfield 56, 3) := by decide +kernel
theorem dX3_multiply_34 : decode cX3_multiply 34 = .ok (.aload_n 1, 1) := by decide +kernel
theorem dX3_multiply_35 : decode cX3_multiply 35 = .ok (.aload_n 2, 1) := by decide +kernel
theorem dX3_multiply_36 : decode cX3_multiply 36 = .ok (.aload_n 0, 1) := by decide +kernel
theorem dX3_multiply_37 : decode cX3_multiply 37 = .ok (.getfield 24, 3) := by decide +kernel
theorem dX3_multiply_40 : decode cX3_multiply 40 = .ok (.getfield 62, 3) := by decide +kernel
theorem dX3_multiply_43 : decode cX3_multiply 43 = .ok (.invokevirtual 190, 3) := by decide +kernel
theorem dX3_multiply_46 : decode cX3_multiply 46 = .ok (.aload_n 1, 1) := by decide +kernel
theorem dX3_multiply_47 : decode cX3_multiply 47 = .ok (.aload_n 0, 1) := by decide +kernel
theorem dX3_multiply_48 : decode cX3_multiply 48 = .ok (.getfield 56, 3) := by decide +kernel
theorem dX3_multiply_51 : decode cX3_multiply 51 = .ok (.invokevirtual 120, 3) := by decide +kernel
theorem dX3_multiply_54 : decode cX3_multiply 54 = .ok (.iconst 1, 1) := by decide +kernel
theorem dX3_multiply_55 : decode cX3_multiply 55 = .ok (.ireturn, 1) := by decide +kernel
theorem dX3_fail_0 : decode cX3_fail 0 = .ok (.aload_n 0, 1) := by decide +kernel
theorem dX3_fail_1 : decode cX3_fail 1 = .ok (.iload_n 1, 1) := by decide +kernel
theorem dX3_fail_2 : decode cX3_fail 2 = .ok (.putfield 15, 3) := by decide +kernel
theorem dX3_fail_5 : decode cX3_fail 5 = .ok (.aload_n 0, 1) := by decide +kernel
theorem dX3_fail_6 : decode cX3_fail 6 = .ok (.iload_n 2, 1) := by decide +kernel
theorem dX3_fail_7 : decode cX3_fail 7 = .ok (.putfield 18, 3) := by decide +kernel
theorem dX3_fail_10 : decode cX3_fail 10 = .ok (.iconst 0, 1) := by decide +kernel
theorem dX3_fail_11 : decode cX3_fail 11 = .ok (.ireturn, 1) := by decide +kernel
theorem dX3_expect_0 : decode cX3_expect 0 = .ok (.aload_n 0, 1) := by decide +kernel
theorem dX3_expect_1 : decode cX3_expect 1 = .ok (.iload_n 1, 1) := by decide +kernel
theorem dX3_expect_2 : decode cX3_expect 2 = .ok (.invokevirtual 145, 3) := by decide +kernel
theorem dX3_expect_5 : decode cX3_expect 5 = .ok (.ifCond .ne 15, 3) := by decide +kernel
theorem dX3_expect_8 : decode cX3_expect 8 = .ok (.aload_n 0, 1) := by decide +kernel
theorem dX3_expect_9 : decode cX3_expect 9 = .ok (.iconst 1, 1) := by decide +kernel
theorem dX3_expect_10 : decode cX3_expect 10 = .ok (.aload_n 0, 1) := by decide +kernel
theorem dX3_expect_11 : decode cX3_expect 11 = .ok (.getfield 59, 3) := by decide +kernel
theorem dX3_expect_14 : decode cX3_expect 14 = .ok (.invokevirtual 92, 3) := by decide +kernel
theorem dX3_expect_17 : decode cX3_expect 17 = .ok (.ifCond .eq 7, 3) := by decide +kernel
theorem dX3_expect_20 : decode cX3_expect 20 = .ok (.iconst 1, 1) := by decide +kernel
theorem dX3_expect_21 : decode cX3_expect 21 = .ok (.goto 4, 3) := by decide +kernel
theorem dX3_expect_24 : decode cX3_expect 24 = .ok (.iconst 0, 1) := by decide +kernel
theorem dX3_expect_25 : decode cX3_expect 25 = .ok (.ireturn, 1) := by decide +kernel
theorem dX3_take_0 : decode cX3_take 0 = .ok (.aload_n 0, 1) := by decide +kernel
theorem dX3_take_1 : decode cX3_take 1 = .ok (.invokevirtual 68, 3) := by decide +kernel
theorem dX3_take_4 : decode cX3_take 4 = .ok (.aload_n 0, 1) := by decide +kernel
theorem dX3_take_5 : decode cX3_take 5 = .ok (.aload_n 0, 1) := by decide +kernel
theorem dX3_take_6 : decode cX3_take 6 = .ok (.getfield 59, 3) := by decide +kernel
theorem dX3_take_9 : decode cX3_take 9 = .ok (.invokevirtual 84, 3) := by decide +kernel
theorem dX3_take_12 : decode cX3_take 12 = .ok (.iload_n 1, 1) := by decide +kernel
theorem dX3_take_13 : decode cX3_take 13 = .ok (.if_icmp .eq 5, 3) := by decide +kernel
theorem dX3_take_16 : decode cX3_take 16 = .ok (.iconst 0, 1) := by decide +kernel
theorem dX3_take_17 : decode cX3_take 17 = .ok (.ireturn, 1) := by decide +kernel
theorem dX3_take_18 : decode cX3_take 18 = .ok (.aload_n 0, 1) := by decide +kernel
theorem dX3_take_19 : decode cX3_take 19 = .ok (.dup, 1) := by decide +kernel
theorem dX3_take_20 : decode cX3_take 20 = .ok (.getfield 59, 3) := by decide +kernel
theorem dX3_take_23 : decode cX3_take 23 = .ok (.iconst 1, 1) := by decide +kernel
theorem dX3_take_24 : decode cX3_take 24 = .ok (.iadd, 1) := by decide +kernel
theorem dX3_take_25 : decode cX3_take 25 = .ok (.putfield 59, 3) := by decide +kernel
theorem dX3_take_28 : decode cX3_take 28 = .ok (.iconst 1, 1) := by decide +kernel
theorem dX3_take_29 : decode cX3_take 29 = .ok (.ireturn, 1) := by decide +kernel
theorem dX3_skipBlanks_0 : decode cX3_skipBlanks 0 = .ok (.aload_n 0, 1) := by decide +kernel
theorem dX3_skipBlanks_1 : decode cX3_skipBlanks 1 = .ok (.getfield 59, 3) := by decide +kernel
theorem dX3_skipBlanks_4 : decode cX3_skipBlanks 4 = .ok (.aload_n 0, 1) := by decide +kernel
theorem dX3_skipBlanks_5 : decode cX3_skipBlanks 5 = .ok (.getfield 9, 3) := by decide +kernel
theorem dX3_skipBlanks_8 : decode cX3_skipBlanks 8 = .ok (.if_icmp .ge 42, 3) := by decide +kernel
theorem dX3_skipBlanks_11 : decode cX3_skipBlanks 11 = .ok (.aload_n 0, 1) := by decide +kernel
theorem dX3_skipBlanks_12 : decode cX3_skipBlanks 12 = .ok (.aload_n 0, 1) := by decide +kernel
theorem dX3_skipBlanks_13 : decode cX3_skipBlanks 13 = .ok (.getfield 59, 3) := by decide +kernel
theorem dX3_skipBlanks_16 : decode cX3_skipBlanks 16 = .ok (.invokevirtual 84, 3) := by decide +kernel
theorem dX3_skipBlanks_19 : decode cX3_skipBlanks 19 = .ok (.bipush 10, 2) := by decide +kernel
theorem dX3_skipBlanks_21 : decode cX3_skipBlanks 21 = .ok (.if_icmp .eq 16, 3) := by decide +kernel
theorem dX3_skipBlanks_24 : decode cX3_skipBlanks 24 = .ok (.aload_n 0, 1) := by decide +kernel
theorem dX3_skipBlanks_25 : decode cX3_skipBlanks 25 = .ok (.aload_n 0, 1) := by decide +kernel
theorem dX3_skipBlanks_26 : decode cX3_skipBlanks 26 = .ok (.getfield 59, 3) := by decide +kernel
theorem dX3_skipBlanks_29 : decode cX3_skipBlanks 29 = .ok (.invokevirtual 84, 3) := by decide +kernel
theorem dX3_skipBlanks_32 : decode cX3_skipBlanks 32 = .ok (.bipush 32, 2) := by decide +kernel
theorem dX3_skipBlanks_34 : decode cX3_skipBlanks 34 = .ok (.if_icmp .ne 16, 3) := by decide +kernel
theorem dX3_skipBlanks_37 : decode cX3_skipBlanks 37 = .ok (.aload_n 0, 1) := by decide +kernel
theorem dX3_skipBlanks_38 : decode cX3_skipBlanks 38 = .ok (.dup, 1) := by decide +kernel
theorem dX3_skipBlanks_39 : decode cX3_skipBlanks 39 = .ok (.getfield 59, 3) := by decide +kernel
theorem dX3_skipBlanks_42 : decode cX3_skipBlanks 42 = .ok (.iconst 1, 1) := by decide +kernel
theorem dX3_skipBlanks_43 : decode cX3_skipBlanks 43 = .ok (.iadd, 1) := by decide +kernel
theorem dX3_skipBlanks_44 : decode cX3_skipBlanks 44 = .ok (.putfield 59, 3) := by decide +kernel
theorem dX3_skipBlanks_47 : decode cX3_skipBlanks 47 = .ok (.goto (-47), 3) := by decide +kernel
theorem dX3_skipBlanks_50 : decode cX3_skipBlanks 50 = .ok (.return_, 1) := by decide +kernel
theorem dX3_standsWord_0 : decode cX3_standsWord 0 = .ok (.aload_n 0, 1) := by decide +kernel
theorem dX3_standsWord_1 : decode cX3_standsWord 1 = .ok (.aload_n 0, 1) := by decide +kernel
theorem dX3_standsWord_2 : decode cX3_standsWord 2 = .ok (.getfield 59, 3) := by decide +kernel
theorem dX3_standsWord_5 : decode cX3_standsWord 5 = .ok (.invokevirtual 124, 3) := by decide +kernel
theorem dX3_standsWord_8 : decode cX3_standsWord 8 = .ok (.aload_n 0, 1) := by decide +kernel
theorem dX3_standsWord_9 : decode cX3_standsWord 9 = .ok (.getfield 59, 3) := by decide +kernel
theorem dX3_standsWord_12 : decode cX3_standsWord 12 = .ok (.isub, 1) := by decide +kernel
theorem dX3_standsWord_13 : decode cX3_standsWord 13 = .ok (.aload_n 1, 1) := by decide +kernel
theorem dX3_standsWord_14 : decode cX3_standsWord 14 = .ok (.invokevirtual 194, 3) := by decide +kernel
theorem dX3_standsWord_17 : decode cX3_standsWord 17 = .ok (.if_icmp .eq 5, 3) := by decide +kernel
theorem dX3_standsWord_20 : decode cX3_standsWord 20 = .ok (.iconst 0, 1) := by decide +kernel
theorem dX3_standsWord_21 : decode cX3_standsWord 21 = .ok (.ireturn, 1) := by decide +kernel
theorem dX3_standsWord_22 : decode cX3_standsWord 22 = .ok (.iconst 0, 1) := by decide +kernel
theorem dX3_standsWord_23 : decode cX3_standsWord 23 = .ok (.istore_n 2, 1) := by decide +kernel
theorem dX3_standsWord_24 : decode cX3_standsWord 24 = .ok (.iload_n 2, 1) := by decide +kernel
theorem dX3_standsWord_25 : decode cX3_standsWord 25 = .ok (.aload_n 1, 1) := by decide +kernel
theorem dX3_standsWord_26 : decode cX3_standsWord 26 = .ok (.invokevirtual 194, 3) := by decide +kernel
theorem dX3_standsWord_29 : decode cX3_standsWord 29 = .ok (.if_icmp .ge 29, 3) := by decide +kernel
theorem dX3_standsWord_32 : decode cX3_standsWord 32 = .ok (.aload_n 0, 1) := by decide +kernel
theorem dX3_standsWord_33 : decode cX3_standsWord 33 = .ok (.aload_n 0, 1) := by decide +kernel
theorem dX3_standsWord_34 : decode cX3_standsWord 34 = .ok (.getfield 59, 3) := by decide +kernel
theorem dX3_standsWord_37 : decode cX3_standsWord 37 = .ok (.iload_n 2, 1) := by decide +kernel
theorem dX3_standsWord_38 : decode cX3_standsWord 38 = .ok (.iadd, 1) := by decide +kernel
theorem dX3_standsWord_39 : decode cX3_standsWord 39 = .ok (.invokevirtual 84, 3) := by decide +kernel
theorem dX3_standsWord_42 : decode cX3_standsWord 42 = .ok (.aload_n 1, 1) := by decide +kernel
theorem dX3_standsWord_43 : decode cX3_standsWord 43 = .ok (.iload_n 2, 1) := by decide +kernel
theorem dX3_standsWord_44 : decode cX3_standsWord 44 = .ok (.invokevirtual 198, 3) := by decide +kernel
theorem dX3_standsWord_47 : decode cX3_standsWord 47 = .ok (.if_icmp .eq 5, 3) := by decide +kernel
theorem dX3_standsWord_50 : decode cX3_standsWord 50 = .ok (.iconst 0, 1) := by decide +kernel
theorem dX3_standsWord_51 : decode cX3_standsWord 51 = .ok (.ireturn, 1) := by decide +kernel
theorem dX3_standsWord_52 : decode cX3_standsWord 52 = .ok (.iinc 2 1, 3) := by decide +kernel
theorem dX3_standsWord_55 : decode cX3_standsWord 55 = .ok (.goto (-31), 3) := by decide +kernel
theorem dX3_standsWord_58 : decode cX3_standsWord 58 = .ok (.iconst 1, 1) := by decide +kernel
theorem dX3_standsWord_59 : decode cX3_standsWord 59 = .ok (.ireturn, 1) := by decide +kernel
theorem dX3_wordEnd_0 : decode cX3_wordEnd 0 = .ok (.iload_n 1, 1) := by decide +kernel
theorem dX3_wordEnd_1 : decode cX3_wordEnd 1 = .ok (.istore_n 2, 1) := by decide +kernel
theorem dX3_wordEnd_2 : decode cX3_wordEnd 2 = .ok (.iload_n 2, 1) := by decide +kernel
theorem dX3_wordEnd_3 : decode cX3_wordEnd 3 = .ok (.aload_n 0, 1) := by decide +kernel
theorem dX3_wordEnd_4 : decode cX3_wordEnd 4 = .ok (.getfield 9, 3) := by decide +kernel
theorem dX3_wordEnd_7 : decode cX3_wordEnd 7 = .ok (.if_icmp .ge 29, 3) := by decide +kernel
theorem dX3_wordEnd_10 : decode cX3_wordEnd 10 = .ok (.aload_n 0, 1) := by decide +kernel
theorem dX3_wordEnd_11 : decode cX3_wordEnd 11 = .ok (.iload_n 2, 1) := by decide +kernel
theorem dX3_wordEnd_12 : decode cX3_wordEnd 12 = .ok (.invokevirtual 84, 3) := by decide +kernel
theorem dX3_wordEnd_15 : decode cX3_wordEnd 15 = .ok (.bipush 97, 2) := by decide +kernel
theorem dX3_wordEnd_17 : decode cX3_wordEnd 17 = .ok (.if_icmp .lt 19, 3) := by decide +kernel
theorem dX3_wordEnd_20 : decode cX3_wordEnd 20 = .ok (.aload_n 0, 1) := by decide +kernel
theorem dX3_wordEnd_21 : decode cX3_wordEnd 21 = .ok (.iload_n 2, 1) := by decide +kernel
theorem dX3_wordEnd_22 : decode cX3_wordEnd 22 = .ok (.invokevirtual 84, 3) := by decide +kernel
theorem dX3_wordEnd_25 : decode cX3_wordEnd 25 = .ok (.bipush 122, 2) := by decide +kernel
theorem dX3_wordEnd_27 : decode cX3_wordEnd 27 = .ok (.if_icmp .gt 9, 3) := by decide +kernel
theorem dX3_wordEnd_30 : decode cX3_wordEnd 30 = .ok (.iinc 2 1, 3) := by decide +kernel
theorem dX3_wordEnd_33 : decode cX3_wordEnd 33 = .ok (.goto (-31), 3) := by decide +kernel
theorem dX3_wordEnd_36 : decode cX3_wordEnd 36 = .ok (.iload_n 2, 1) := by decide +kernel
theorem dX3_wordEnd_37 : decode cX3_wordEnd 37 = .ok (.ireturn, 1) := by decide +kernel
theorem dX3_isDigit_0 : decode cX3_isDigit 0 = .ok (.iload_n 0, 1) := by decide +kernel
theorem dX3_isDigit_1 : decode cX3_isDigit 1 = .ok (.bipush 48, 2) := by decide +kernel
theorem dX3_isDigit_3 : decode cX3_isDigit 3 = .ok (.if_icmp .lt 13, 3) := by decide +kernel
theorem dX3_isDigit_6 : decode cX3_isDigit 6 = .ok (.iload_n 0, 1) := by decide +kernel
theorem dX3_isDigit_7 : decode cX3_isDigit 7 = .ok (.bipush 57, 2) := by decide +kernel
theorem dX3_isDigit_9 : decode cX3_isDigit 9 = .ok (.if_icmp .gt 7, 3) := by decide +kernel
theorem dX3_isDigit_12 : decode cX3_isDigit 12 = .ok (.iconst 1, 1) := by decide +kernel
theorem dX3_isDigit_13 : decode cX3_isDigit 13 = .ok (.goto 4, 3) := by decide +kernel
theorem dX3_isDigit_16 : decode cX3_isDigit 16 = .ok (.iconst 0, 1) := by decide +kernel
theorem dX3_isDigit_17 : decode cX3_isDigit 17 = .ok (.ireturn, 1) := by decide +kernel
theorem dX3_byteAt_0 : decode cX3_byteAt 0 = .ok (.iload_n 1, 1) := by decide +kernel
theorem dX3_byteAt_1 : decode cX3_byteAt 1 = .ok (.ifCond .lt 27, 3) := by decide +kernel
theorem dX3_byteAt_4 : decode cX3_byteAt 4 = .ok (.iload_n 1, 1) := by decide +kernel
theorem dX3_byteAt_5 : decode cX3_byteAt 5 = .ok (.aload_n 0, 1) := by decide +kernel
theorem dX3_byteAt_6 : decode cX3_byteAt 6 = .ok (.getfield 9, 3) := by decide +kernel
theorem dX3_byteAt_9 : decode cX3_byteAt 9 = .ok (.if_icmp .ge 19, 3) := by decide +kernel
theorem dX3_byteAt_12 : decode cX3_byteAt 12 = .ok (.iload_n 1, 1) := by decide +kernel
theorem dX3_byteAt_13 : decode cX3_byteAt 13 = .ok (.sipush 1000, 3) := by decide +kernel
theorem dX3_byteAt_16 : decode cX3_byteAt 16 = .ok (.if_icmp .ge 12, 3) := by decide +kernel
theorem dX3_byteAt_19 : decode cX3_byteAt 19 = .ok (.aload_n 0, 1) := by decide +kernel
theorem dX3_byteAt_20 : decode cX3_byteAt 20 = .ok (.getfield 28, 3) := by decide +kernel
theorem dX3_byteAt_23 : decode cX3_byteAt 23 = .ok (.iload_n 1, 1) := by decide +kernel
theorem dX3_byteAt_24 : decode cX3_byteAt 24 = .ok (.iaload, 1) := by decide +kernel
theorem dX3_byteAt_25 : decode cX3_byteAt 25 = .ok (.goto 4, 3) := by decide +kernel
theorem dX3_byteAt_28 : decode cX3_byteAt 28 = .ok (.iconst (-1), 1) := by decide +kernel
theorem dX3_byteAt_29 : decode cX3_byteAt 29 = .ok (.ireturn, 1) := by decide +kernel
theorem dX4_init_0 : decode cX4_init 0 = .ok (.aload_n 0, 1) := by decide +kernel
theorem dX4_init_1 : decode cX4_init 1 = .ok (.invokespecial 5, 3) := by decide +kernel
theorem dX4_init_4 : decode cX4_init 4 = .ok (.aload_n 0, 1) := by decide +kernel
theorem dX4_init_5 : decode cX4_init 5 = .ok (.iconst 4, 1) := by decide +kernel
theorem dX4_init_6 : decode cX4_init 6 = .ok (.newarray .int, 2) := by decide +kernel
theorem dX4_init_8 : decode cX4_init 8 = .ok (.putfield 11, 3) := by decide +kernel
theorem dX4_init_11 : decode cX4_init 11 = .ok (.aload_n 0, 1) := by decide +kernel
theorem dX4_init_12 : decode cX4_init 12 = .ok (.sipush 2048, 3) := by decide +kernel
theorem dX4_init_15 : decode cX4_init 15 = .ok (.newarray .int, 2) := by decide +kernel
theorem dX4_init_17 : decode cX4_init 17 = .ok (.putfield 15, 3) := by decide +kernel
theorem dX4_init_20 : decode cX4_init 20 = .ok (.aload_n 0, 1) := by decide +kernel
theorem dX4_init_21 : decode cX4_init 21 = .ok (.iconst 0, 1) := by decide +kernel
theorem dX4_init_22 : decode cX4_init 22 = .ok (.putfield 18, 3) := by decide +kernel
theorem dX4_init_25 : decode cX4_init 25 = .ok (.aload_n 0, 1) := by decide +kernel
theorem dX4_init_26 : decode cX4_init 26 = .ok (.sipush 289, 3) := by decide +kernel
theorem dX4_init_29 : decode cX4_init 29 = .ok (.newarray .int, 2) := by decide +kernel
theorem dX4_init_31 : decode cX4_init 31 = .ok (.putfield 22, 3) := by decide +kernel
theorem dX4_init_34 : decode cX4_init 34 = .ok (.aload_n 0, 1) := by decide +kernel
theorem dX4_init_35 : decode cX4_init 35 = .ok (.sipush 289, 3) := by decide +kernel
theorem dX4_init_38 : decode cX4_init 38 = .ok (.newarray .int, 2) := by decide +kernel
theorem dX4_init_40 : decode cX4_init 40 = .ok (.putfield 25, 3) := by decide +kernel
theorem dX4_init_43 : decode cX4_init 43 = .ok (.aload_n 0, 1) := by decide +kernel
theorem dX4_init_44 : decode cX4_init 44 = .ok (.bipush 7, 2) := by decide +kernel
theorem dX4_init_46 : decode cX4_init 46 = .ok (.putfield 28, 3) := by decide +kernel
theorem dX4_init_49 : decode cX4_init 49 = .ok (.return_, 1) := by decide +kernel
theorem dX4_kindOf_0 : decode cX4_kindOf 0 = .ok (.iload_n 1, 1) := by decide +kernel
theorem dX4_kindOf_1 : decode cX4_kindOf 1 = .ok (.ifCond .lt 18, 3) := by decide +kernel
theorem dX4_kindOf_4 : decode cX4_kindOf 4 = .ok (.iload_n 1, 1) := by decide +kernel
theorem dX4_kindOf_5 : decode cX4_kindOf 5 = .ok (.aload_n 0, 1) := by decide +kernel
theorem dX4_kindOf_6 : decode cX4_kindOf 6 = .ok (.getfield 18, 3) := by decide +kernel
theorem dX4_kindOf_9 : decode cX4_kindOf 9 = .ok (.if_icmp .ge 10, 3) := by decide +kernel
theorem dX4_kindOf_12 : decode cX4_kindOf 12 = .ok (.iload_n 1, 1) := by decide +kernel
theorem dX4_kindOf_13 : decode cX4_kindOf 13 = .ok (.sipush 2048, 3) := by decide +kernel
theorem dX4_kindOf_16 : decode cX4_kindOf 16 = .ok (.if_icmp .lt 7, 3) := by decide +kernel
theorem dX4_kindOf_19 : decode cX4_kindOf 19 = .ok (.iconst (-1), 1) := by decide +kernel
theorem dX4_kindOf_20 : decode cX4_kindOf 20 = .ok (.goto 9, 3) := by decide +kernel
theorem dX4_kindOf_23 : decode cX4_kindOf 23 = .ok (.aload_n 0, 1) := by decide +kernel
theorem dX4_kindOf_24 : decode cX4_kindOf 24 = .ok (.getfield 15, 3) := by decide +kernel
theorem dX4_kindOf_27 : decode cX4_kindOf 27 = .ok (.iload_n 1, 1) := by decide +kernel
theorem dX4_kindOf_28 : decode cX4_kindOf 28 = .ok (.iaload, 1) := by decide +kernel
