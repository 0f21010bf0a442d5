theorem dX11_most_25 : decode cX11_most 25 = .ok (.aload 5, 2) := by decide +kernel
theorem dX11_most_27 : decode cX11_most 27 = .ok (.ifnull 12, 3) := by decide +kernel
theorem dX11_most_30 : decode cX11_most 30 = .ok (.iload_n 3, 1) := by decide +kernel
theorem dX11_most_31 : decode cX11_most 31 = .ok (.ifCond .lt 8, 3) := by decide +kernel
theorem dX11_most_34 : decode cX11_most 34 = .ok (.iload_n 3, 1) := by decide +kernel
theorem dX11_most_35 : decode cX11_most 35 = .ok (.iconst 1, 1) := by decide +kernel
theorem dX11_most_36 : decode cX11_most 36 = .ok (.if_icmp .le 5, 3) := by decide +kernel
theorem dX11_most_39 : decode cX11_most 39 = .ok (.iconst (-1), 1) := by decide +kernel
theorem dX11_most_40 : decode cX11_most 40 = .ok (.ireturn, 1) := by decide +kernel
theorem dX11_most_41 : decode cX11_most 41 = .ok (.aload_n 0, 1) := by decide +kernel
theorem dX11_most_42 : decode cX11_most 42 = .ok (.getfield 55, 3) := by decide +kernel
theorem dX11_most_45 : decode cX11_most 45 = .ok (.aload 4, 2) := by decide +kernel
theorem dX11_most_47 : decode cX11_most 47 = .ok (.aload 5, 2) := by decide +kernel
theorem dX11_most_49 : decode cX11_most 49 = .ok (.aload_n 0, 1) := by decide +kernel
theorem dX11_most_50 : decode cX11_most 50 = .ok (.getfield 22, 3) := by decide +kernel
theorem dX11_most_53 : decode cX11_most 53 = .ok (.getfield 123, 3) := by decide +kernel
theorem dX11_most_56 : decode cX11_most 56 = .ok (.invokevirtual 183, 3) := by decide +kernel
theorem dX11_most_59 : decode cX11_most 59 = .ok (.pop, 1) := by decide +kernel
theorem dX11_most_60 : decode cX11_most 60 = .ok (.iconst 0, 1) := by decide +kernel
theorem dX11_most_61 : decode cX11_most 61 = .ok (.istore 6, 2) := by decide +kernel
theorem dX11_most_63 : decode cX11_most 63 = .ok (.iconst (-1), 1) := by decide +kernel
theorem dX11_most_64 : decode cX11_most 64 = .ok (.istore 7, 2) := by decide +kernel
theorem dX11_most_66 : decode cX11_most 66 = .ok (.aload_n 0, 1) := by decide +kernel
theorem dX11_most_67 : decode cX11_most 67 = .ok (.getfield 22, 3) := by decide +kernel
theorem dX11_most_70 : decode cX11_most 70 = .ok (.getfield 123, 3) := by decide +kernel
theorem dX11_most_73 : decode cX11_most 73 = .ok (.invokestatic 126, 3) := by decide +kernel
theorem dX11_most_76 : decode cX11_most 76 = .ok (.istore 8, 2) := by decide +kernel
theorem dX11_most_78 : decode cX11_most 78 = .ok (.iconst 0, 1) := by decide +kernel
theorem dX11_most_79 : decode cX11_most 79 = .ok (.istore 9, 2) := by decide +kernel
theorem dX11_most_81 : decode cX11_most 81 = .ok (.iload 9, 2) := by decide +kernel
theorem dX11_most_83 : decode cX11_most 83 = .ok (.iload 8, 2) := by decide +kernel
theorem dX11_most_85 : decode cX11_most 85 = .ok (.if_icmp .ge 72, 3) := by decide +kernel
theorem dX11_most_88 : decode cX11_most 88 = .ok (.aload_n 0, 1) := by decide +kernel
theorem dX11_most_89 : decode cX11_most 89 = .ok (.aload 4, 2) := by decide +kernel
theorem dX11_most_91 : decode cX11_most 91 = .ok (.aload 5, 2) := by decide +kernel
theorem dX11_most_93 : decode cX11_most 93 = .ok (.iload 9, 2) := by decide +kernel
theorem dX11_most_95 : decode cX11_most 95 = .ok (.invokevirtual 213, 3) := by decide +kernel
theorem dX11_most_98 : decode cX11_most 98 = .ok (.ifCond .eq 16, 3) := by decide +kernel
theorem dX11_most_101 : decode cX11_most 101 = .ok (.aload_n 0, 1) := by decide +kernel
theorem dX11_most_102 : decode cX11_most 102 = .ok (.aload 4, 2) := by decide +kernel
theorem dX11_most_104 : decode cX11_most 104 = .ok (.aload 5, 2) := by decide +kernel
theorem dX11_most_106 : decode cX11_most 106 = .ok (.iload 9, 2) := by decide +kernel
theorem dX11_most_108 : decode cX11_most 108 = .ok (.invokevirtual 189, 3) := by decide +kernel
theorem dX11_most_111 : decode cX11_most 111 = .ok (.goto 4, 3) := by decide +kernel
theorem dX11_most_114 : decode cX11_most 114 = .ok (.iconst 0, 1) := by decide +kernel
theorem dX11_most_115 : decode cX11_most 115 = .ok (.istore 10, 2) := by decide +kernel
theorem dX11_most_117 : decode cX11_most 117 = .ok (.iload 10, 2) := by decide +kernel
theorem dX11_most_119 : decode cX11_most 119 = .ok (.bipush (-2), 2) := by decide +kernel
theorem dX11_most_121 : decode cX11_most 121 = .ok (.if_icmp .ne 15, 3) := by decide +kernel
theorem dX11_most_124 : decode cX11_most 124 = .ok (.iload_n 3, 1) := by decide +kernel
theorem dX11_most_125 : decode cX11_most 125 = .ok (.ifCond .ne 8, 3) := by decide +kernel
theorem dX11_most_128 : decode cX11_most 128 = .ok (.bipush (-2), 2) := by decide +kernel
theorem dX11_most_130 : decode cX11_most 130 = .ok (.goto 5, 3) := by decide +kernel
theorem dX11_most_133 : decode cX11_most 133 = .ok (.iload 9, 2) := by decide +kernel
theorem dX11_most_135 : decode cX11_most 135 = .ok (.ireturn, 1) := by decide +kernel
theorem dX11_most_136 : decode cX11_most 136 = .ok (.iload 10, 2) := by decide +kernel
theorem dX11_most_138 : decode cX11_most 138 = .ok (.iload 6, 2) := by decide +kernel
theorem dX11_most_140 : decode cX11_most 140 = .ok (.if_icmp .le 11, 3) := by decide +kernel
theorem dX11_most_143 : decode cX11_most 143 = .ok (.iload 10, 2) := by decide +kernel
theorem dX11_most_145 : decode cX11_most 145 = .ok (.istore 6, 2) := by decide +kernel
theorem dX11_most_147 : decode cX11_most 147 = .ok (.iload 9, 2) := by decide +kernel
theorem dX11_most_149 : decode cX11_most 149 = .ok (.istore 7, 2) := by decide +kernel
theorem dX11_most_151 : decode cX11_most 151 = .ok (.iinc 9 1, 3) := by decide +kernel
theorem dX11_most_154 : decode cX11_most 154 = .ok (.goto (-73), 3) := by decide +kernel
theorem dX11_most_157 : decode cX11_most 157 = .ok (.iload_n 3, 1) := by decide +kernel
theorem dX11_most_158 : decode cX11_most 158 = .ok (.ifCond .ne 8, 3) := by decide +kernel
theorem dX11_most_161 : decode cX11_most 161 = .ok (.iload 6, 2) := by decide +kernel
theorem dX11_most_163 : decode cX11_most 163 = .ok (.goto 5, 3) := by decide +kernel
theorem dX11_most_166 : decode cX11_most 166 = .ok (.iload 7, 2) := by decide +kernel
theorem dX11_most_168 : decode cX11_most 168 = .ok (.ireturn, 1) := by decide +kernel
theorem dX11_move_0 : decode cX11_move 0 = .ok (.aload_n 0, 1) := by decide +kernel
theorem dX11_move_1 : decode cX11_move 1 = .ok (.getfield 76, 3) := by decide +kernel
theorem dX11_move_4 : decode cX11_move 4 = .ok (.iload_n 1, 1) := by decide +kernel
theorem dX11_move_5 : decode cX11_move 5 = .ok (.iload_n 2, 1) := by decide +kernel
theorem dX11_move_6 : decode cX11_move 6 = .ok (.iload_n 3, 1) := by decide +kernel
theorem dX11_move_7 : decode cX11_move 7 = .ok (.iload 4, 2) := by decide +kernel
theorem dX11_move_9 : decode cX11_move 9 = .ok (.iload 5, 2) := by decide +kernel
theorem dX11_move_11 : decode cX11_move 11 = .ok (.iload 6, 2) := by decide +kernel
theorem dX11_move_13 : decode cX11_move 13 = .ok (.aload_n 0, 1) := by decide +kernel
theorem dX11_move_14 : decode cX11_move 14 = .ok (.getfield 22, 3) := by decide +kernel
theorem dX11_move_17 : decode cX11_move 17 = .ok (.getfield 123, 3) := by decide +kernel
theorem dX11_move_20 : decode cX11_move 20 = .ok (.invokevirtual 229, 3) := by decide +kernel
theorem dX11_move_23 : decode cX11_move 23 = .ok (.ifCond .ne 10, 3) := by decide +kernel
theorem dX11_move_26 : decode cX11_move 26 = .ok (.aload_n 0, 1) := by decide +kernel
theorem dX11_move_27 : decode cX11_move 27 = .ok (.iconst 2, 1) := by decide +kernel
theorem dX11_move_28 : decode cX11_move 28 = .ok (.invokevirtual 95, 3) := by decide +kernel
theorem dX11_move_31 : decode cX11_move 31 = .ok (.iconst 0, 1) := by decide +kernel
theorem dX11_move_32 : decode cX11_move 32 = .ok (.ireturn, 1) := by decide +kernel
theorem dX11_move_33 : decode cX11_move 33 = .ok (.aload_n 0, 1) := by decide +kernel
theorem dX11_move_34 : decode cX11_move 34 = .ok (.getfield 29, 3) := by decide +kernel
theorem dX11_move_37 : decode cX11_move 37 = .ok (.aload_n 0, 1) := by decide +kernel
theorem dX11_move_38 : decode cX11_move 38 = .ok (.getfield 22, 3) := by decide +kernel
theorem dX11_move_41 : decode cX11_move 41 = .ok (.invokevirtual 233, 3) := by decide +kernel
theorem dX11_move_44 : decode cX11_move 44 = .ok (.aload_n 0, 1) := by decide +kernel
theorem dX11_move_45 : decode cX11_move 45 = .ok (.getfield 76, 3) := by decide +kernel
theorem dX11_move_48 : decode cX11_move 48 = .ok (.aload_n 0, 1) := by decide +kernel
theorem dX11_move_49 : decode cX11_move 49 = .ok (.getfield 22, 3) := by decide +kernel
theorem dX11_move_52 : decode cX11_move 52 = .ok (.invokevirtual 236, 3) := by decide +kernel
theorem dX11_move_55 : decode cX11_move 55 = .ok (.iconst 1, 1) := by decide +kernel
theorem dX11_move_56 : decode cX11_move 56 = .ok (.ireturn, 1) := by decide +kernel
theorem dX11_moved_0 : decode cX11_moved 0 = .ok (.aload_n 0, 1) := by decide +kernel
theorem dX11_moved_1 : decode cX11_moved 1 = .ok (.getfield 36, 3) := by decide +kernel
theorem dX11_moved_4 : decode cX11_moved 4 = .ok (.iload_n 1, 1) := by decide +kernel
theorem dX11_moved_5 : decode cX11_moved 5 = .ok (.aload_n 0, 1) := by decide +kernel
theorem dX11_moved_6 : decode cX11_moved 6 = .ok (.getfield 22, 3) := by decide +kernel
theorem dX11_moved_9 : decode cX11_moved 9 = .ok (.getfield 123, 3) := by decide +kernel
theorem dX11_moved_12 : decode cX11_moved 12 = .ok (.invokevirtual 152, 3) := by decide +kernel
theorem dX11_moved_15 : decode cX11_moved 15 = .ok (.ifCond .eq 30, 3) := by decide +kernel
theorem dX11_moved_18 : decode cX11_moved 18 = .ok (.aload_n 0, 1) := by decide +kernel
theorem dX11_moved_19 : decode cX11_moved 19 = .ok (.getfield 76, 3) := by decide +kernel
theorem dX11_moved_22 : decode cX11_moved 22 = .ok (.iload_n 2, 1) := by decide +kernel
theorem dX11_moved_23 : decode cX11_moved 23 = .ok (.iload_n 3, 1) := by decide +kernel
theorem dX11_moved_24 : decode cX11_moved 24 = .ok (.iload 4, 2) := by decide +kernel
theorem dX11_moved_26 : decode cX11_moved 26 = .ok (.iload 5, 2) := by decide +kernel
theorem dX11_moved_28 : decode cX11_moved 28 = .ok (.iload 6, 2) := by decide +kernel
theorem dX11_moved_30 : decode cX11_moved 30 = .ok (.iload 7, 2) := by decide +kernel
theorem dX11_moved_32 : decode cX11_moved 32 = .ok (.aload_n 0, 1) := by decide +kernel
theorem dX11_moved_33 : decode cX11_moved 33 = .ok (.getfield 22, 3) := by decide +kernel
theorem dX11_moved_36 : decode cX11_moved 36 = .ok (.getfield 123, 3) := by decide +kernel
theorem dX11_moved_39 : decode cX11_moved 39 = .ok (.invokevirtual 229, 3) := by decide +kernel
theorem dX11_moved_42 : decode cX11_moved 42 = .ok (.ifCond .ne 5, 3) := by decide +kernel
theorem dX11_moved_45 : decode cX11_moved 45 = .ok (.iconst (-1), 1) := by decide +kernel
theorem dX11_moved_46 : decode cX11_moved 46 = .ok (.ireturn, 1) := by decide +kernel
theorem dX11_moved_47 : decode cX11_moved 47 = .ok (.aload_n 0, 1) := by decide +kernel
theorem dX11_moved_48 : decode cX11_moved 48 = .ok (.getfield 76, 3) := by decide +kernel
theorem dX11_moved_51 : decode cX11_moved 51 = .ok (.aload_n 0, 1) := by decide +kernel
theorem dX11_moved_52 : decode cX11_moved 52 = .ok (.getfield 36, 3) := by decide +kernel
theorem dX11_moved_55 : decode cX11_moved 55 = .ok (.invokevirtual 239, 3) := by decide +kernel
theorem dX11_moved_58 : decode cX11_moved 58 = .ok (.ireturn, 1) := by decide +kernel
theorem dX11_make_0 : decode cX11_make 0 = .ok (.aload_n 0, 1) := by decide +kernel
theorem dX11_make_1 : decode cX11_make 1 = .ok (.getfield 22, 3) := by decide +kernel
theorem dX11_make_4 : decode cX11_make 4 = .ok (.getfield 120, 3) := by decide +kernel
theorem dX11_make_7 : decode cX11_make 7 = .ok (.bipush 6, 2) := by decide +kernel
theorem dX11_make_9 : decode cX11_make 9 = .ok (.if_icmp .ge 29, 3) := by decide +kernel
theorem dX11_make_12 : decode cX11_make 12 = .ok (.aload_n 0, 1) := by decide +kernel
theorem dX11_make_13 : decode cX11_make 13 = .ok (.iload_n 1, 1) := by decide +kernel
theorem dX11_make_14 : decode cX11_make 14 = .ok (.iload_n 2, 1) := by decide +kernel
theorem dX11_make_15 : decode cX11_make 15 = .ok (.iload_n 3, 1) := by decide +kernel
theorem dX11_make_16 : decode cX11_make 16 = .ok (.iload 4, 2) := by decide +kernel
theorem dX11_make_18 : decode cX11_make 18 = .ok (.invokevirtual 243, 3) := by decide +kernel
theorem dX11_make_21 : decode cX11_make 21 = .ok (.ifCond .eq 17, 3) := by decide +kernel
theorem dX11_make_24 : decode cX11_make 24 = .ok (.aload_n 0, 1) := by decide +kernel
theorem dX11_make_25 : decode cX11_make 25 = .ok (.getfield 76, 3) := by decide +kernel
theorem dX11_make_28 : decode cX11_make 28 = .ok (.getfield 247, 3) := by decide +kernel
theorem dX11_make_31 : decode cX11_make 31 = .ok (.invokevirtual 148, 3) := by decide +kernel
theorem dX11_make_34 : decode cX11_make 34 = .ok (.iconst 1, 1) := by decide +kernel
theorem dX11_make_35 : decode cX11_make 35 = .ok (.if_icmp .ge 10, 3) := by decide +kernel
theorem dX11_make_38 : decode cX11_make 38 = .ok (.aload_n 0, 1) := by decide +kernel
theorem dX11_make_39 : decode cX11_make 39 = .ok (.iconst 3, 1) := by decide +kernel
theorem dX11_make_40 : decode cX11_make 40 = .ok (.invokevirtual 95, 3) := by decide +kernel
theorem dX11_make_43 : decode cX11_make 43 = .ok (.iconst (-1), 1) := by decide +kernel
theorem dX11_make_44 : decode cX11_make 44 = .ok (.ireturn, 1) := by decide +kernel
theorem dX11_make_45 : decode cX11_make 45 = .ok (.aload_n 0, 1) := by decide +kernel
theorem dX11_make_46 : decode cX11_make 46 = .ok (.getfield 29, 3) := by decide +kernel
theorem dX11_make_49 : decode cX11_make 49 = .ok (.aload_n 0, 1) := by decide +kernel
theorem dX11_make_50 : decode cX11_make 50 = .ok (.getfield 22, 3) := by decide +kernel
theorem dX11_make_53 : decode cX11_make 53 = .ok (.invokevirtual 233, 3) := by decide +kernel
theorem dX11_make_56 : decode cX11_make 56 = .ok (.aload_n 0, 1) := by decide +kernel
theorem dX11_make_57 : decode cX11_make 57 = .ok (.getfield 22, 3) := by decide +kernel
theorem dX11_make_60 : decode cX11_make 60 = .ok (.aload_n 0, 1) := by decide +kernel
theorem dX11_make_61 : decode cX11_make 61 = .ok (.getfield 76, 3) := by decide +kernel
theorem dX11_make_64 : decode cX11_make 64 = .ok (.getfield 247, 3) := by decide +kernel
theorem dX11_make_67 : decode cX11_make 67 = .ok (.invokevirtual 250, 3) := by decide +kernel
theorem dX11_make_70 : decode cX11_make 70 = .ok (.ireturn, 1) := by decide +kernel
theorem dX11_drop_0 : decode cX11_drop 0 = .ok (.aload_n 0, 1) := by decide +kernel
theorem dX11_drop_1 : decode cX11_drop 1 = .ok (.getfield 22, 3) := by decide +kernel
theorem dX11_drop_4 : decode cX11_drop 4 = .ok (.iload_n 1, 1) := by decide +kernel
theorem dX11_drop_5 : decode cX11_drop 5 = .ok (.invokevirtual 135, 3) := by decide +kernel
theorem dX11_drop_8 : decode cX11_drop 8 = .ok (.astore_n 2, 1) := by decide +kernel
theorem dX11_drop_9 : decode cX11_drop 9 = .ok (.aload_n 2, 1) := by decide +kernel
theorem dX11_drop_10 : decode cX11_drop 10 = .ok (.ifnonnull 10, 3) := by decide +kernel
theorem dX11_drop_13 : decode cX11_drop 13 = .ok (.aload_n 0, 1) := by decide +kernel
theorem dX11_drop_14 : decode cX11_drop 14 = .ok (.iconst 3, 1) := by decide +kernel
theorem dX11_drop_15 : decode cX11_drop 15 = .ok (.invokevirtual 95, 3) := by decide +kernel
theorem dX11_drop_18 : decode cX11_drop 18 = .ok (.iconst (-1), 1) := by decide +kernel
theorem dX11_drop_19 : decode cX11_drop 19 = .ok (.ireturn, 1) := by decide +kernel
theorem dX11_drop_20 : decode cX11_drop 20 = .ok (.aload_n 2, 1) := by decide +kernel
theorem dX11_drop_21 : decode cX11_drop 21 = .ok (.invokevirtual 148, 3) := by decide +kernel
theorem dX11_drop_24 : decode cX11_drop 24 = .ok (.istore_n 3, 1) := by decide +kernel
theorem dX11_drop_25 : decode cX11_drop 25 = .ok (.aload_n 0, 1) := by decide +kernel
theorem dX11_drop_26 : decode cX11_drop 26 = .ok (.getfield 29, 3) := by decide +kernel
theorem dX11_drop_29 : decode cX11_drop 29 = .ok (.aload_n 0, 1) := by decide +kernel
theorem dX11_drop_30 : decode cX11_drop 30 = .ok (.getfield 22, 3) := by decide +kernel
theorem dX11_drop_33 : decode cX11_drop 33 = .ok (.invokevirtual 233, 3) := by decide +kernel
theorem dX11_drop_36 : decode cX11_drop 36 = .ok (.aload_n 0, 1) := by decide +kernel
theorem dX11_drop_37 : decode cX11_drop 37 = .ok (.getfield 22, 3) := by decide +kernel
theorem dX11_drop_40 : decode cX11_drop 40 = .ok (.iload_n 1, 1) := by decide +kernel
theorem dX11_drop_41 : decode cX11_drop 41 = .ok (.invokevirtual 254, 3) := by decide +kernel
theorem dX11_drop_44 : decode cX11_drop 44 = .ok (.iload_n 3, 1) := by decide +kernel
theorem dX11_drop_45 : decode cX11_drop 45 = .ok (.ireturn, 1) := by decide +kernel
theorem dX11_undo_0 : decode cX11_undo 0 = .ok (.aload_n 0, 1) := by decide +kernel
theorem dX11_undo_1 : decode cX11_undo 1 = .ok (.getfield 29, 3) := by decide +kernel
theorem dX11_undo_4 : decode cX11_undo 4 = .ok (.aload_n 0, 1) := by decide +kernel
theorem dX11_undo_5 : decode cX11_undo 5 = .ok (.getfield 22, 3) := by decide +kernel
theorem dX11_undo_8 : decode cX11_undo 8 = .ok (.invokevirtual 257, 3) := by decide +kernel
theorem dX11_undo_11 : decode cX11_undo 11 = .ok (.ifCond .ne 10, 3) := by decide +kernel
theorem dX11_undo_14 : decode cX11_undo 14 = .ok (.aload_n 0, 1) := by decide +kernel
theorem dX11_undo_15 : decode cX11_undo 15 = .ok (.iconst 4, 1) := by decide +kernel
theorem dX11_undo_16 : decode cX11_undo 16 = .ok (.invokevirtual 95, 3) := by decide +kernel
theorem dX11_undo_19 : decode cX11_undo 19 = .ok (.iconst 0, 1) := by decide +kernel
theorem dX11_undo_20 : decode cX11_undo 20 = .ok (.ireturn, 1) := by decide +kernel
theorem dX11_undo_21 : decode cX11_undo 21 = .ok (.iconst 1, 1) := by decide +kernel
theorem dX11_undo_22 : decode cX11_undo 22 = .ok (.ireturn, 1) := by decide +kernel
theorem dX11_status_0 : decode cX11_status 0 = .ok (.iload_n 1, 1) := by decide +kernel
theorem dX11_status_1 : decode cX11_status 1 = .ok (.ifCond .lt 8, 3) := by decide +kernel
theorem dX11_status_4 : decode cX11_status 4 = .ok (.iload_n 1, 1) := by decide +kernel
theorem dX11_status_5 : decode cX11_status 5 = .ok (.iconst 5, 1) := by decide +kernel
theorem dX11_status_6 : decode cX11_status 6 = .ok (.if_icmp .lt 7, 3) := by decide +kernel
theorem dX11_status_9 : decode cX11_status 9 = .ok (.iconst (-1), 1) := by decide +kernel
theorem dX11_status_10 : decode cX11_status 10 = .ok (.goto 9, 3) := by decide +kernel
theorem dX11_status_13 : decode cX11_status 13 = .ok (.aload_n 0, 1) := by decide +kernel
theorem dX11_status_14 : decode cX11_status 14 = .ok (.getfield 80, 3) := by decide +kernel
theorem dX11_status_17 : decode cX11_status 17 = .ok (.iload_n 1, 1) := by decide +kernel
theorem dX11_status_18 : decode cX11_status 18 = .ok (.iaload, 1) := by decide +kernel
theorem dX11_status_19 : decode cX11_status 19 = .ok (.ireturn, 1) := by decide +kernel
theorem dX11_refuse_0 : decode cX11_refuse 0 = .ok (.iload_n 1, 1) := by decide +kernel
theorem dX11_refuse_1 : decode cX11_refuse 1 = .ok (.ifCond .lt 18, 3) := by decide +kernel
theorem dX11_refuse_4 : decode cX11_refuse 4 = .ok (.iload_n 1, 1) := by decide +kernel
theorem dX11_refuse_5 : decode cX11_refuse 5 = .ok (.iconst 5, 1) := by decide +kernel
theorem dX11_refuse_6 : decode cX11_refuse 6 = .ok (.if_icmp .ge 13, 3) := by decide +kernel
theorem dX11_refuse_9 : decode cX11_refuse 9 = .ok (.aload_n 0, 1) := by decide +kernel
theorem dX11_refuse_10 : decode cX11_refuse 10 = .ok (.getfield 80, 3) := by decide +kernel
theorem dX11_refuse_13 : decode cX11_refuse 13 = .ok (.iload_n 1, 1) := by decide +kernel
theorem dX11_refuse_14 : decode cX11_refuse 14 = .ok (.dup2, 1) := by decide +kernel
theorem dX11_refuse_15 : decode cX11_refuse 15 = .ok (.iaload, 1) := by decide +kernel
theorem dX11_refuse_16 : decode cX11_refuse 16 = .ok (.iconst 1, 1) := by decide +kernel
theorem dX11_refuse_17 : decode cX11_refuse 17 = .ok (.iadd, 1) := by decide +kernel
theorem dX11_refuse_18 : decode cX11_refuse 18 = .ok (.iastore, 1) := by decide +kernel
theorem dX11_refuse_19 : decode cX11_refuse 19 = .ok (.return_, 1) := by decide +kernel
theorem dX11_lookAt_0 : decode cX11_lookAt 0 = .ok (.aload_n 0, 1) := by decide +kernel
theorem dX11_lookAt_1 : decode cX11_lookAt 1 = .ok (.getfield 22, 3) := by decide +kernel
theorem dX11_lookAt_4 : decode cX11_lookAt 4 = .ok (.iload_n 1, 1) := by decide +kernel
theorem dX11_lookAt_5 : decode cX11_lookAt 5 = .ok (.invokevirtual 135, 3) := by decide +kernel
theorem dX11_lookAt_8 : decode cX11_lookAt 8 = .ok (.astore_n 3, 1) := by decide +kernel
theorem dX11_lookAt_9 : decode cX11_lookAt 9 = .ok (.aload_n 3, 1) := by decide +kernel
theorem dX11_lookAt_10 : decode cX11_lookAt 10 = .ok (.ifnull 21, 3) := by decide +kernel
theorem dX11_lookAt_13 : decode cX11_lookAt 13 = .ok (.aload_n 0, 1) := by decide +kernel
theorem dX11_lookAt_14 : decode cX11_lookAt 14 = .ok (.getfield 36, 3) := by decide +kernel
theorem dX11_lookAt_17 : decode cX11_lookAt 17 = .ok (.iload_n 2, 1) := by decide +kernel
theorem dX11_lookAt_18 : decode cX11_lookAt 18 = .ok (.aload_n 0, 1) := by decide +kernel
theorem dX11_lookAt_19 : decode cX11_lookAt 19 = .ok (.getfield 22, 3) := by decide +kernel
theorem dX11_lookAt_22 : decode cX11_lookAt 22 = .ok (.getfield 123, 3) := by decide +kernel
theorem dX11_lookAt_25 : decode cX11_lookAt 25 = .ok (.invokevirtual 152, 3) := by decide +kernel
theorem dX11_lookAt_28 : decode cX11_lookAt 28 = .ok (.ifCond .ne 5, 3) := by decide +kernel
theorem dX11_lookAt_31 : decode cX11_lookAt 31 = .ok (.iconst 0, 1) := by decide +kernel
theorem dX11_lookAt_32 : decode cX11_lookAt 32 = .ok (.ireturn, 1) := by decide +kernel
theorem dX11_lookAt_33 : decode cX11_lookAt 33 = .ok (.aload_n 0, 1) := by decide +kernel
theorem dX11_lookAt_34 : decode cX11_lookAt 34 = .ok (.getfield 43, 3) := by decide +kernel
theorem dX11_lookAt_37 : decode cX11_lookAt 37 = .ok (.aload_n 3, 1) := by decide +kernel
theorem dX11_lookAt_38 : decode cX11_lookAt 38 = .ok (.aload_n 0, 1) := by decide +kernel
theorem dX11_lookAt_39 : decode cX11_lookAt 39 = .ok (.getfield 36, 3) := by decide +kernel
theorem dX11_lookAt_42 : decode cX11_lookAt 42 = .ok (.aload_n 0, 1) := by decide +kernel
theorem dX11_lookAt_43 : decode cX11_lookAt 43 = .ok (.getfield 22, 3) := by decide +kernel
theorem dX11_lookAt_46 : decode cX11_lookAt 46 = .ok (.getfield 123, 3) := by decide +kernel
theorem dX11_lookAt_49 : decode cX11_lookAt 49 = .ok (.invokevirtual 202, 3) := by decide +kernel
theorem dX11_lookAt_52 : decode cX11_lookAt 52 = .ok (.iconst 1, 1) := by decide +kernel
theorem dX11_lookAt_53 : decode cX11_lookAt 53 = .ok (.ireturn, 1) := by decide +kernel
theorem dX11_choose_0 : decode cX11_choose 0 = .ok (.aload_n 0, 1) := by decide +kernel
theorem dX11_choose_1 : decode cX11_choose 1 = .ok (.getfield 22, 3) := by decide +kernel
theorem dX11_choose_4 : decode cX11_choose 4 = .ok (.iload_n 1, 1) := by decide +kernel
theorem dX11_choose_5 : decode cX11_choose 5 = .ok (.invokevirtual 135, 3) := by decide +kernel
theorem dX11_choose_8 : decode cX11_choose 8 = .ok (.astore 4, 2) := by decide +kernel
theorem dX11_choose_10 : decode cX11_choose 10 = .ok (.aload 4, 2) := by decide +kernel
theorem dX11_choose_12 : decode cX11_choose 12 = .ok (.ifnull 8, 3) := by decide +kernel
theorem dX11_choose_15 : decode cX11_choose 15 = .ok (.iload_n 2, 1) := by decide +kernel
theorem dX11_choose_16 : decode cX11_choose 16 = .ok (.iconst (-1), 1) := by decide +kernel
theorem dX11_choose_17 : decode cX11_choose 17 = .ok (.if_icmp .ge 5, 3) := by decide +kernel
theorem dX11_choose_20 : decode cX11_choose 20 = .ok (.iconst (-1), 1) := by decide +kernel
theorem dX11_choose_21 : decode cX11_choose 21 = .ok (.ireturn, 1) := by decide +kernel
theorem dX11_choose_22 : decode cX11_choose 22 = .ok (.aload_n 0, 1) := by decide +kernel
theorem dX11_choose_23 : decode cX11_choose 23 = .ok (.getfield 22, 3) := by decide +kernel
theorem dX11_choose_26 : decode cX11_choose 26 = .ok (.getfield 123, 3) := by decide +kernel
theorem dX11_choose_29 : decode cX11_choose 29 = .ok (.invokestatic 126, 3) := by decide +kernel
theorem dX11_choose_32 : decode cX11_choose 32 = .ok (.istore 5, 2) := by decide +kernel
theorem dX11_choose_34 : decode cX11_choose 34 = .ok (.iconst 0, 1) := by decide +kernel
theorem dX11_choose_35 : decode cX11_choose 35 = .ok (.istore 6, 2) := by decide +kernel
theorem dX11_choose_37 : decode cX11_choose 37 = .ok (.iconst 0, 1) := by decide +kernel
theorem dX11_choose_38 : decode cX11_choose 38 = .ok (.istore 7, 2) := by decide +kernel
theorem dX11_choose_40 : decode cX11_choose 40 = .ok (.iload 7, 2) := by decide +kernel
theorem dX11_choose_42 : decode cX11_choose 42 = .ok (.iload 5, 2) := by decide +kernel
theorem dX11_choose_44 : decode cX11_choose 44 = .ok (.if_icmp .ge 36, 3) := by decide +kernel
theorem dX11_choose_47 : decode cX11_choose 47 = .ok (.aload_n 0, 1) := by decide +kernel
theorem dX11_choose_48 : decode cX11_choose 48 = .ok (.aload 4, 2) := by decide +kernel
theorem dX11_choose_50 : decode cX11_choose 50 = .ok (.iload 7, 2) := by decide +kernel
theorem dX11_choose_52 : decode cX11_choose 52 = .ok (.iload_n 3, 1) := by decide +kernel
theorem dX11_choose_53 : decode cX11_choose 53 = .ok (.invokevirtual 179, 3) := by decide +kernel
theorem dX11_choose_56 : decode cX11_choose 56 = .ok (.ifCond .ne 6, 3) := by decide +kernel
theorem dX11_choose_59 : decode cX11_choose 59 = .ok (.goto 15, 3) := by decide +kernel
theorem dX11_choose_62 : decode cX11_choose 62 = .ok (.iload 6, 2) := by decide +kernel
theorem dX11_choose_64 : decode cX11_choose 64 = .ok (.iload_n 2, 1) := by decide +kernel
theorem dX11_choose_65 : decode cX11_choose 65 = .ok (.if_icmp .ne 6, 3) := by decide +kernel
theorem dX11_choose_68 : decode cX11_choose 68 = .ok (.iload 7, 2) := by decide +kernel
theorem dX11_choose_70 : decode cX11_choose 70 = .ok (.ireturn, 1) := by decide +kernel
theorem dX11_choose_71 : decode cX11_choose 71 = .ok (.iinc 6 1, 3) := by decide +kernel
theorem dX11_choose_74 : decode cX11_choose 74 = .ok (.iinc 7 1, 3) := by decide +kernel
theorem dX11_choose_77 : decode cX11_choose 77 = .ok (.goto (-37), 3) := by decide +kernel
theorem dX11_choose_80 : decode cX11_choose 80 = .ok (.iload_n 2, 1) := by decide +kernel
theorem dX11_choose_81 : decode cX11_choose 81 = .ok (.iconst (-1), 1) := by decide +kernel
theorem dX11_choose_82 : decode cX11_choose 82 = .ok (.if_icmp .ne 8, 3) := by decide +kernel
theorem dX11_choose_85 : decode cX11_choose 85 = .ok (.iload 6, 2) := by decide +kernel
theorem dX11_choose_87 : decode cX11_choose 87 = .ok (.goto 4, 3) := by decide +kernel
theorem dX11_choose_90 : decode cX11_choose 90 = .ok (.iconst (-1), 1) := by decide +kernel
theorem dX11_choose_91 : decode cX11_choose 91 = .ok (.ireturn, 1) := by decide +kernel
theorem dX11_hasTrait_0 : decode cX11_hasTrait 0 = .ok (.aload_n 0, 1) := by decide +kernel
theorem dX11_hasTrait_1 : decode cX11_hasTrait 1 = .ok (.getfield 36, 3) := by decide +kernel
theorem dX11_hasTrait_4 : decode cX11_hasTrait 4 = .ok (.iload_n 2, 1) := by decide +kernel
theorem dX11_hasTrait_5 : decode cX11_hasTrait 5 = .ok (.aload_n 0, 1) := by decide +kernel
theorem dX11_hasTrait_6 : decode cX11_hasTrait 6 = .ok (.getfield 22, 3) := by decide +kernel
theorem dX11_hasTrait_9 : decode cX11_hasTrait 9 = .ok (.getfield 123, 3) := by decide +kernel
theorem dX11_hasTrait_12 : decode cX11_hasTrait 12 = .ok (.invokevirtual 152, 3) := by decide +kernel
theorem dX11_hasTrait_15 : decode cX11_hasTrait 15 = .ok (.ifCond .eq 21, 3) := by decide +kernel
theorem dX11_hasTrait_18 : decode cX11_hasTrait 18 = .ok (.aload_n 0, 1) := by decide +kernel
theorem dX11_hasTrait_19 : decode cX11_hasTrait 19 = .ok (.getfield 36, 3) := by decide +kernel
theorem dX11_hasTrait_22 : decode cX11_hasTrait 22 = .ok (.aload_n 1, 1) := by decide +kernel
theorem dX11_hasTrait_23 : decode cX11_hasTrait 23 = .ok (.aload_n 0, 1) := by decide +kernel
theorem dX11_hasTrait_24 : decode cX11_hasTrait 24 = .ok (.getfield 22, 3) := by decide +kernel
theorem dX11_hasTrait_27 : decode cX11_hasTrait 27 = .ok (.getfield 123, 3) := by decide +kernel
theorem dX11_hasTrait_30 : decode cX11_hasTrait 30 = .ok (.invokevirtual 155, 3) := by decide +kernel
theorem dX11_hasTrait_33 : decode cX11_hasTrait 33 = .ok (.ifCond .eq 5, 3) := by decide +kernel
theorem dX11_hasTrait_36 : decode cX11_hasTrait 36 = .ok (.iconst 0, 1) := by decide +kernel
theorem dX11_hasTrait_37 : decode cX11_hasTrait 37 = .ok (.ireturn, 1) := by decide +kernel
theorem dX11_hasTrait_38 : decode cX11_hasTrait 38 = .ok (.iload_n 3, 1) := by decide +kernel
theorem dX11_hasTrait_39 : decode cX11_hasTrait 39 = .ok (.ifCond .ne 5, 3) := by decide +kernel
theorem dX11_hasTrait_42 : decode cX11_hasTrait 42 = .ok (.iconst 1, 1) := by decide +kernel
theorem dX11_hasTrait_43 : decode cX11_hasTrait 43 = .ok (.ireturn, 1) := by decide +kernel
theorem dX11_hasTrait_44 : decode cX11_hasTrait 44 = .ok (.aload_n 0, 1) := by decide +kernel
theorem dX11_hasTrait_45 : decode cX11_hasTrait 45 = .ok (.getfield 43, 3) := by decide +kernel
theorem dX11_hasTrait_48 : decode cX11_hasTrait 48 = .ok (.aload_n 1, 1) := by decide +kernel
theorem dX11_hasTrait_49 : decode cX11_hasTrait 49 = .ok (.aload_n 0, 1) := by decide +kernel
theorem dX11_hasTrait_50 : decode cX11_hasTrait 50 = .ok (.getfield 36, 3) := by decide +kernel
theorem dX11_hasTrait_53 : decode cX11_hasTrait 53 = .ok (.aload_n 0, 1) := by decide +kernel
theorem dX11_hasTrait_54 : decode cX11_hasTrait 54 = .ok (.getfield 22, 3) := by decide +kernel
theorem dX11_hasTrait_57 : decode cX11_hasTrait 57 = .ok (.getfield 123, 3) := by decide +kernel
theorem dX11_hasTrait_60 : decode cX11_hasTrait 60 = .ok (.invokevirtual 202, 3) := by decide +kernel
theorem dX11_hasTrait_63 : decode cX11_hasTrait 63 = .ok (.iload_n 3, 1) := by decide +kernel
theorem dX11_hasTrait_64 : decode cX11_hasTrait 64 = .ok (.iconst 1, 1) := by decide +kernel
theorem dX11_hasTrait_65 : decode cX11_hasTrait 65 = .ok (.if_icmp .ne 20, 3) := by decide +kernel
theorem dX11_hasTrait_68 : decode cX11_hasTrait 68 = .ok (.aload_n 0, 1) := by decide +kernel
theorem dX11_hasTrait_69 : decode cX11_hasTrait 69 = .ok (.getfield 43, 3) := by decide +kernel
theorem dX11_hasTrait_72 : decode cX11_hasTrait 72 = .ok (.invokevirtual 166, 3) := by decide +kernel
theorem dX11_hasTrait_75 : decode cX11_hasTrait 75 = .ok (.iconst 2, 1) := by decide +kernel
theorem dX11_hasTrait_76 : decode cX11_hasTrait 76 = .ok (.if_icmp .lt 7, 3) := by decide +kernel
theorem dX11_hasTrait_79 : decode cX11_hasTrait 79 = .ok (.iconst 1, 1) := by decide +kernel
theorem dX11_hasTrait_80 : decode cX11_hasTrait 80 = .ok (.goto 4, 3) := by decide +kernel
theorem dX11_hasTrait_83 : decode cX11_hasTrait 83 = .ok (.iconst 0, 1) := by decide +kernel
theorem dX11_hasTrait_84 : decode cX11_hasTrait 84 = .ok (.ireturn, 1) := by decide +kernel
theorem dX11_hasTrait_85 : decode cX11_hasTrait 85 = .ok (.aload_n 0, 1) := by decide +kernel
theorem dX11_hasTrait_86 : decode cX11_hasTrait 86 = .ok (.getfield 43, 3) := by decide +kernel
theorem dX11_hasTrait_89 : decode cX11_hasTrait 89 = .ok (.invokevirtual 176, 3) := by decide +kernel
theorem dX11_hasTrait_92 : decode cX11_hasTrait 92 = .ok (.istore 4, 2) := by decide +kernel
theorem dX11_hasTrait_94 : decode cX11_hasTrait 94 = .ok (.iload 4, 2) := by decide +kernel
theorem dX11_hasTrait_96 : decode cX11_hasTrait 96 = .ok (.bipush (-2), 2) := by decide +kernel
theorem dX11_hasTrait_98 : decode cX11_hasTrait 98 = .ok (.if_icmp .eq 9, 3) := by decide +kernel
theorem dX11_hasTrait_101 : decode cX11_hasTrait 101 = .ok (.iload 4, 2) := by decide +kernel
theorem dX11_hasTrait_103 : decode cX11_hasTrait 103 = .ok (.iconst 3, 1) := by decide +kernel
theorem dX11_hasTrait_104 : decode cX11_hasTrait 104 = .ok (.if_icmp .lt 7, 3) := by decide +kernel
theorem dX11_hasTrait_107 : decode cX11_hasTrait 107 = .ok (.iconst 1, 1) := by decide +kernel
theorem dX11_hasTrait_108 : decode cX11_hasTrait 108 = .ok (.goto 4, 3) := by decide +kernel
theorem dX11_hasTrait_111 : decode cX11_hasTrait 111 = .ok (.iconst 0, 1) := by decide +kernel
theorem dX11_hasTrait_112 : decode cX11_hasTrait 112 = .ok (.ireturn, 1) := by decide +kernel
theorem dX11_timesAt_0 : decode cX11_timesAt 0 = .ok (.aload_n 0, 1) := by decide +kernel
theorem dX11_timesAt_1 : decode cX11_timesAt 1 = .ok (.getfield 36, 3) := by decide +kernel
theorem dX11_timesAt_4 : decode cX11_timesAt 4 = .ok (.iload_n 3, 1) := by decide +kernel
theorem dX11_timesAt_5 : decode cX11_timesAt 5 = .ok (.aload_n 0, 1) := by decide +kernel
theorem dX11_timesAt_6 : decode cX11_timesAt 6 = .ok (.getfield 22, 3) := by decide +kernel
theorem dX11_timesAt_9 : decode cX11_timesAt 9 = .ok (.getfield 123, 3) := by decide +kernel
theorem dX11_timesAt_12 : decode cX11_timesAt 12 = .ok (.invokevirtual 152, 3) := by decide +kernel
theorem dX11_timesAt_15 : decode cX11_timesAt 15 = .ok (.ifCond .ne 5, 3) := by decide +kernel
theorem dX11_timesAt_18 : decode cX11_timesAt 18 = .ok (.iconst (-1), 1) := by decide +kernel
theorem dX11_timesAt_19 : decode cX11_timesAt 19 = .ok (.ireturn, 1) := by decide +kernel
theorem dX11_timesAt_20 : decode cX11_timesAt 20 = .ok (.aload_n 0, 1) := by decide +kernel
theorem dX11_timesAt_21 : decode cX11_timesAt 21 = .ok (.getfield 36, 3) := by decide +kernel
theorem dX11_timesAt_24 : decode cX11_timesAt 24 = .ok (.aload_n 0, 1) := by decide +kernel
theorem dX11_timesAt_25 : decode cX11_timesAt 25 = .ok (.getfield 55, 3) := by decide +kernel
theorem dX11_timesAt_28 : decode cX11_timesAt 28 = .ok (.getfield 261, 3) := by decide +kernel
theorem dX11_timesAt_31 : decode cX11_timesAt 31 = .ok (.aload_n 0, 1) := by decide +kernel
theorem dX11_timesAt_32 : decode cX11_timesAt 32 = .ok (.getfield 22, 3) := by decide +kernel
theorem dX11_timesAt_35 : decode cX11_timesAt 35 = .ok (.getfield 123, 3) := by decide +kernel
theorem dX11_timesAt_38 : decode cX11_timesAt 38 = .ok (.invokevirtual 155, 3) := by decide +kernel
theorem dX11_timesAt_41 : decode cX11_timesAt 41 = .ok (.ifCond .ne 6, 3) := by decide +kernel
theorem dX11_timesAt_44 : decode cX11_timesAt 44 = .ok (.bipush (-2), 2) := by decide +kernel
theorem dX11_timesAt_46 : decode cX11_timesAt 46 = .ok (.ireturn, 1) := by decide +kernel
theorem dX11_timesAt_47 : decode cX11_timesAt 47 = .ok (.aload_n 0, 1) := by decide +kernel
theorem dX11_timesAt_48 : decode cX11_timesAt 48 = .ok (.getfield 43, 3) := by decide +kernel
theorem dX11_timesAt_51 : decode cX11_timesAt 51 = .ok (.aload_n 1, 1) := by decide +kernel
theorem dX11_timesAt_52 : decode cX11_timesAt 52 = .ok (.aload_n 0, 1) := by decide +kernel
theorem dX11_timesAt_53 : decode cX11_timesAt 53 = .ok (.getfield 36, 3) := by decide +kernel
theorem dX11_timesAt_56 : decode cX11_timesAt 56 = .ok (.aload_n 0, 1) := by decide +kernel
theorem dX11_timesAt_57 : decode cX11_timesAt 57 = .ok (.getfield 22, 3) := by decide +kernel
theorem dX11_timesAt_60 : decode cX11_timesAt 60 = .ok (.getfield 123, 3) := by decide +kernel
theorem dX11_timesAt_63 : decode cX11_timesAt 63 = .ok (.invokevirtual 202, 3) := by decide +kernel
theorem dX11_timesAt_66 : decode cX11_timesAt 66 = .ok (.aload_n 0, 1) := by decide +kernel
theorem dX11_timesAt_67 : decode cX11_timesAt 67 = .ok (.getfield 47, 3) := by decide +kernel
theorem dX11_timesAt_70 : decode cX11_timesAt 70 = .ok (.aload_n 2, 1) := by decide +kernel
theorem dX11_timesAt_71 : decode cX11_timesAt 71 = .ok (.aload_n 0, 1) := by decide +kernel
theorem dX11_timesAt_72 : decode cX11_timesAt 72 = .ok (.getfield 36, 3) := by decide +kernel
theorem dX11_timesAt_75 : decode cX11_timesAt 75 = .ok (.aload_n 0, 1) := by decide +kernel
theorem dX11_timesAt_76 : decode cX11_timesAt 76 = .ok (.getfield 22, 3) := by decide +kernel
theorem dX11_timesAt_79 : decode cX11_timesAt 79 = .ok (.getfield 123, 3) := by decide +kernel
theorem dX11_timesAt_82 : decode cX11_timesAt 82 = .ok (.invokevirtual 202, 3) := by decide +kernel
theorem dX11_timesAt_85 : decode cX11_timesAt 85 = .ok (.aload_n 0, 1) := by decide +kernel
theorem dX11_timesAt_86 : decode cX11_timesAt 86 = .ok (.getfield 62, 3) := by decide +kernel
theorem dX11_timesAt_89 : decode cX11_timesAt 89 = .ok (.aload_n 0, 1) := by decide +kernel
theorem dX11_timesAt_90 : decode cX11_timesAt 90 = .ok (.getfield 43, 3) := by decide +kernel
theorem dX11_timesAt_93 : decode cX11_timesAt 93 = .ok (.getfield 169, 3) := by decide +kernel
theorem dX11_timesAt_96 : decode cX11_timesAt 96 = .ok (.aload_n 0, 1) := by decide +kernel
theorem dX11_timesAt_97 : decode cX11_timesAt 97 = .ok (.getfield 47, 3) := by decide +kernel
theorem dX11_timesAt_100 : decode cX11_timesAt 100 = .ok (.getfield 169, 3) := by decide +kernel
theorem dX11_timesAt_103 : decode cX11_timesAt 103 = .ok (.aload_n 0, 1) := by decide +kernel
theorem dX11_timesAt_104 : decode cX11_timesAt 104 = .ok (.getfield 22, 3) := by decide +kernel
theorem dX11_timesAt_107 : decode cX11_timesAt 107 = .ok (.getfield 123, 3) := by decide +kernel
theorem dX11_timesAt_110 : decode cX11_timesAt 110 = .ok (.invokevirtual 264, 3) := by decide +kernel
theorem dX11_timesAt_113 : decode cX11_timesAt 113 = .ok (.ireturn, 1) := by decide +kernel
theorem dX11_areBothOn_0 : decode cX11_areBothOn 0 = .ok (.aload_n 0, 1) := by decide +kernel
theorem dX11_areBothOn_1 : decode cX11_areBothOn 1 = .ok (.getfield 36, 3) := by decide +kernel
theorem dX11_areBothOn_4 : decode cX11_areBothOn 4 = .ok (.iload_n 3, 1) := by decide +kernel
theorem dX11_areBothOn_5 : decode cX11_areBothOn 5 = .ok (.aload_n 0, 1) := by decide +kernel
theorem dX11_areBothOn_6 : decode cX11_areBothOn 6 = .ok (.getfield 22, 3) := by decide +kernel
theorem dX11_areBothOn_9 : decode cX11_areBothOn 9 = .ok (.getfield 123, 3) := by decide +kernel
theorem dX11_areBothOn_12 : decode cX11_areBothOn 12 = .ok (.invokevirtual 152, 3) := by decide +kernel
theorem dX11_areBothOn_15 : decode cX11_areBothOn 15 = .ok (.ifCond .eq 43, 3) := by decide +kernel
theorem dX11_areBothOn_18 : decode cX11_areBothOn 18 = .ok (.aload_n 0, 1) := by decide +kernel
theorem dX11_areBothOn_19 : decode cX11_areBothOn 19 = .ok (.getfield 36, 3) := by decide +kernel
theorem dX11_areBothOn_22 : decode cX11_areBothOn 22 = .ok (.aload_n 1, 1) := by decide +kernel
theorem dX11_areBothOn_23 : decode cX11_areBothOn 23 = .ok (.aload_n 0, 1) := by decide +kernel
theorem dX11_areBothOn_24 : decode cX11_areBothOn 24 = .ok (.getfield 22, 3) := by decide +kernel
theorem dX11_areBothOn_27 : decode cX11_areBothOn 27 = .ok (.getfield 123, 3) := by decide +kernel
theorem dX11_areBothOn_30 : decode cX11_areBothOn 30 = .ok (.invokevirtual 155, 3) := by decide +kernel
theorem dX11_areBothOn_33 : decode cX11_areBothOn 33 = .ok (.ifCond .ne 25, 3) := by decide +kernel
theorem dX11_areBothOn_36 : decode cX11_areBothOn 36 = .ok (.aload_n 0, 1) := by decide +kernel
theorem dX11_areBothOn_37 : decode cX11_areBothOn 37 = .ok (.getfield 36, 3) := by decide +kernel
theorem dX11_areBothOn_40 : decode cX11_areBothOn 40 = .ok (.aload_n 2, 1) := by decide +kernel
theorem dX11_areBothOn_41 : decode cX11_areBothOn 41 = .ok (.aload_n 0, 1) := by decide +kernel
theorem dX11_areBothOn_42 : decode cX11_areBothOn 42 = .ok (.getfield 22, 3) := by decide +kernel
theorem dX11_areBothOn_45 : decode cX11_areBothOn 45 = .ok (.getfield 123, 3) := by decide +kernel
theorem dX11_areBothOn_48 : decode cX11_areBothOn 48 = .ok (.invokevirtual 155, 3) := by decide +kernel
theorem dX11_areBothOn_51 : decode cX11_areBothOn 51 = .ok (.ifCond .ne 7, 3) := by decide +kernel
theorem dX11_areBothOn_54 : decode cX11_areBothOn 54 = .ok (.iconst 1, 1) := by decide +kernel
theorem dX11_areBothOn_55 : decode cX11_areBothOn 55 = .ok (.goto 4, 3) := by decide +kernel
theorem dX11_areBothOn_58 : decode cX11_areBothOn 58 = .ok (.iconst 0, 1) := by decide +kernel
theorem dX11_areBothOn_59 : decode cX11_areBothOn 59 = .ok (.ireturn, 1) := by decide +kernel
theorem dX11_timesBetween_0 : decode cX11_timesBetween 0 = .ok (.iconst 0, 1) := by decide +kernel
theorem dX11_timesBetween_1 : decode cX11_timesBetween 1 = .ok (.istore 5, 2) := by decide +kernel
theorem dX11_timesBetween_3 : decode cX11_timesBetween 3 = .ok (.iload_n 3, 1) := by decide +kernel
theorem dX11_timesBetween_4 : decode cX11_timesBetween 4 = .ok (.istore 6, 2) := by decide +kernel
theorem dX11_timesBetween_6 : decode cX11_timesBetween 6 = .ok (.iload 6, 2) := by decide +kernel
theorem dX11_timesBetween_8 : decode cX11_timesBetween 8 = .ok (.iload 4, 2) := by decide +kernel
theorem dX11_timesBetween_10 : decode cX11_timesBetween 10 = .ok (.if_icmp .ge 50, 3) := by decide +kernel
theorem dX11_timesBetween_13 : decode cX11_timesBetween 13 = .ok (.aload_n 0, 1) := by decide +kernel
theorem dX11_timesBetween_14 : decode cX11_timesBetween 14 = .ok (.aload_n 1, 1) := by decide +kernel
theorem dX11_timesBetween_15 : decode cX11_timesBetween 15 = .ok (.aload_n 2, 1) := by decide +kernel
theorem dX11_timesBetween_16 : decode cX11_timesBetween 16 = .ok (.iload 6, 2) := by decide +kernel
theorem dX11_timesBetween_18 : decode cX11_timesBetween 18 = .ok (.invokevirtual 213, 3) := by decide +kernel
theorem dX11_timesBetween_21 : decode cX11_timesBetween 21 = .ok (.ifCond .ne 6, 3) := by decide +kernel
theorem dX11_timesBetween_24 : decode cX11_timesBetween 24 = .ok (.goto 30, 3) := by decide +kernel
theorem dX11_timesBetween_27 : decode cX11_timesBetween 27 = .ok (.aload_n 0, 1) := by decide +kernel
theorem dX11_timesBetween_28 : decode cX11_timesBetween 28 = .ok (.aload_n 1, 1) := by decide +kernel
theorem dX11_timesBetween_29 : decode cX11_timesBetween 29 = .ok (.aload_n 2, 1) := by decide +kernel
theorem dX11_timesBetween_30 : decode cX11_timesBetween 30 = .ok (.iload 6, 2) := by decide +kernel
theorem dX11_timesBetween_32 : decode cX11_timesBetween 32 = .ok (.invokevirtual 189, 3) := by decide +kernel
theorem dX11_timesBetween_35 : decode cX11_timesBetween 35 = .ok (.istore 7, 2) := by decide +kernel
theorem dX11_timesBetween_37 : decode cX11_timesBetween 37 = .ok (.iload 7, 2) := by decide +kernel
theorem dX11_timesBetween_39 : decode cX11_timesBetween 39 = .ok (.bipush (-2), 2) := by decide +kernel
theorem dX11_timesBetween_41 : decode cX11_timesBetween 41 = .ok (.if_icmp .ne 6, 3) := by decide +kernel
theorem dX11_timesBetween_44 : decode cX11_timesBetween 44 = .ok (.bipush (-2), 2) := by decide +kernel
theorem dX11_timesBetween_46 : decode cX11_timesBetween 46 = .ok (.ireturn, 1) := by decide +kernel
theorem dX11_timesBetween_47 : decode cX11_timesBetween 47 = .ok (.iload 5, 2) := by decide +kernel
theorem dX11_timesBetween_49 : decode cX11_timesBetween 49 = .ok (.iload 7, 2) := by decide +kernel
theorem dX11_timesBetween_51 : decode cX11_timesBetween 51 = .ok (.iadd, 1) := by decide +kernel
theorem dX11_timesBetween_52 : decode cX11_timesBetween 52 = .ok (.istore 5, 2) := by decide +kernel
theorem dX11_timesBetween_54 : decode cX11_timesBetween 54 = .ok (.iinc 6 1, 3) := by decide +kernel
theorem dX11_timesBetween_57 : decode cX11_timesBetween 57 = .ok (.goto (-51), 3) := by decide +kernel
theorem dX11_timesBetween_60 : decode cX11_timesBetween 60 = .ok (.iload 5, 2) := by decide +kernel
theorem dX11_timesBetween_62 : decode cX11_timesBetween 62 = .ok (.ireturn, 1) := by decide +kernel
theorem dX11_countOn_0 : decode cX11_countOn 0 = .ok (.iconst 0, 1) := by decide +kernel
theorem dX11_countOn_1 : decode cX11_countOn 1 = .ok (.istore_n 2, 1) := by decide +kernel
theorem dX11_countOn_2 : decode cX11_countOn 2 = .ok (.iconst 0, 1) := by decide +kernel
theorem dX11_countOn_3 : decode cX11_countOn 3 = .ok (.istore_n 3, 1) := by decide +kernel
theorem dX11_countOn_4 : decode cX11_countOn 4 = .ok (.iload_n 3, 1) := by decide +kernel
theorem dX11_countOn_5 : decode cX11_countOn 5 = .ok (.aload_n 0, 1) := by decide +kernel
theorem dX11_countOn_6 : decode cX11_countOn 6 = .ok (.getfield 22, 3) := by decide +kernel
theorem dX11_countOn_9 : decode cX11_countOn 9 = .ok (.getfield 120, 3) := by decide +kernel
theorem dX11_countOn_12 : decode cX11_countOn 12 = .ok (.if_icmp .ge 21, 3) := by decide +kernel
theorem dX11_countOn_15 : decode cX11_countOn 15 = .ok (.aload_n 0, 1) := by decide +kernel
theorem dX11_countOn_16 : decode cX11_countOn 16 = .ok (.iload_n 3, 1) := by decide +kernel
theorem dX11_countOn_17 : decode cX11_countOn 17 = .ok (.iload_n 1, 1) := by decide +kernel
theorem dX11_countOn_18 : decode cX11_countOn 18 = .ok (.invokevirtual 267, 3) := by decide +kernel
theorem dX11_countOn_21 : decode cX11_countOn 21 = .ok (.ifCond .ne 6, 3) := by decide +kernel
theorem dX11_countOn_24 : decode cX11_countOn 24 = .ok (.iinc 2 1, 3) := by decide +kernel
theorem dX11_countOn_27 : decode cX11_countOn 27 = .ok (.iinc 3 1, 3) := by decide +kernel
theorem dX11_countOn_30 : decode cX11_countOn 30 = .ok (.goto (-26), 3) := by decide +kernel
theorem dX11_countOn_33 : decode cX11_countOn 33 = .ok (.iload_n 2, 1) := by decide +kernel
theorem dX11_countOn_34 : decode cX11_countOn 34 = .ok (.ireturn, 1) := by decide +kernel
theorem dX11_coupleTimes_0 : decode cX11_coupleTimes 0 = .ok (.iconst 0, 1) := by decide +kernel
theorem dX11_coupleTimes_1 : decode cX11_coupleTimes 1 = .ok (.istore_n 2, 1) := by decide +kernel
theorem dX11_coupleTimes_2 : decode cX11_coupleTimes 2 = .ok (.iconst 0, 1) := by decide +kernel
theorem dX11_coupleTimes_3 : decode cX11_coupleTimes 3 = .ok (.istore_n 3, 1) := by decide +kernel
theorem dX11_coupleTimes_4 : decode cX11_coupleTimes 4 = .ok (.iload_n 3, 1) := by decide +kernel
theorem dX11_coupleTimes_5 : decode cX11_coupleTimes 5 = .ok (.aload_n 0, 1) := by decide +kernel
theorem dX11_coupleTimes_6 : decode cX11_coupleTimes 6 = .ok (.getfield 22, 3) := by decide +kernel
theorem dX11_coupleTimes_9 : decode cX11_coupleTimes 9 = .ok (.getfield 120, 3) := by decide +kernel
theorem dX11_coupleTimes_12 : decode cX11_coupleTimes 12 = .ok (.if_icmp .ge 123, 3) := by decide +kernel
theorem dX11_coupleTimes_15 : decode cX11_coupleTimes 15 = .ok (.iload_n 3, 1) := by decide +kernel
theorem dX11_coupleTimes_16 : decode cX11_coupleTimes 16 = .ok (.iconst 1, 1) := by decide +kernel
theorem dX11_coupleTimes_17 : decode cX11_coupleTimes 17 = .ok (.iadd, 1) := by decide +kernel
theorem dX11_coupleTimes_18 : decode cX11_coupleTimes 18 = .ok (.istore 4, 2) := by decide +kernel
theorem dX11_coupleTimes_20 : decode cX11_coupleTimes 20 = .ok (.iload 4, 2) := by decide +kernel
theorem dX11_coupleTimes_22 : decode cX11_coupleTimes 22 = .ok (.aload_n 0, 1) := by decide +kernel
theorem dX11_coupleTimes_23 : decode cX11_coupleTimes 23 = .ok (.getfield 22, 3) := by decide +kernel
theorem dX11_coupleTimes_26 : decode cX11_coupleTimes 26 = .ok (.getfield 120, 3) := by decide +kernel
theorem dX11_coupleTimes_29 : decode cX11_coupleTimes 29 = .ok (.if_icmp .ge 100, 3) := by decide +kernel
theorem dX11_coupleTimes_32 : decode cX11_coupleTimes 32 = .ok (.aload_n 0, 1) := by decide +kernel
theorem dX11_coupleTimes_33 : decode cX11_coupleTimes 33 = .ok (.getfield 22, 3) := by decide +kernel
theorem dX11_coupleTimes_36 : decode cX11_coupleTimes 36 = .ok (.iload_n 3, 1) := by decide +kernel
theorem dX11_coupleTimes_37 : decode cX11_coupleTimes 37 = .ok (.invokevirtual 135, 3) := by decide +kernel
theorem dX11_coupleTimes_40 : decode cX11_coupleTimes 40 = .ok (.astore 5, 2) := by decide +kernel
theorem dX11_coupleTimes_42 : decode cX11_coupleTimes 42 = .ok (.aload_n 0, 1) := by decide +kernel
theorem dX11_coupleTimes_43 : decode cX11_coupleTimes 43 = .ok (.getfield 22, 3) := by decide +kernel
theorem dX11_coupleTimes_46 : decode cX11_coupleTimes 46 = .ok (.iload 4, 2) := by decide +kernel
theorem dX11_coupleTimes_48 : decode cX11_coupleTimes 48 = .ok (.invokevirtual 135, 3) := by decide +kernel
theorem dX11_coupleTimes_51 : decode cX11_coupleTimes 51 = .ok (.astore 6, 2) := by decide +kernel
theorem dX11_coupleTimes_53 : decode cX11_coupleTimes 53 = .ok (.aload 5, 2) := by decide +kernel
theorem dX11_coupleTimes_55 : decode cX11_coupleTimes 55 = .ok (.ifnull 68, 3) := by decide +kernel
theorem dX11_coupleTimes_58 : decode cX11_coupleTimes 58 = .ok (.aload 6, 2) := by decide +kernel
theorem dX11_coupleTimes_60 : decode cX11_coupleTimes 60 = .ok (.ifnull 63, 3) := by decide +kernel
theorem dX11_coupleTimes_63 : decode cX11_coupleTimes 63 = .ok (.aload_n 0, 1) := by decide +kernel
theorem dX11_coupleTimes_64 : decode cX11_coupleTimes 64 = .ok (.aload 5, 2) := by decide +kernel
theorem dX11_coupleTimes_66 : decode cX11_coupleTimes 66 = .ok (.aload 6, 2) := by decide +kernel
theorem dX11_coupleTimes_68 : decode cX11_coupleTimes 68 = .ok (.iload_n 1, 1) := by decide +kernel
theorem dX11_coupleTimes_69 : decode cX11_coupleTimes 69 = .ok (.invokevirtual 213, 3) := by decide +kernel
theorem dX11_coupleTimes_72 : decode cX11_coupleTimes 72 = .ok (.ifCond .ne 6, 3) := by decide +kernel
theorem dX11_coupleTimes_75 : decode cX11_coupleTimes 75 = .ok (.goto 48, 3) := by decide +kernel
theorem dX11_coupleTimes_78 : decode cX11_coupleTimes 78 = .ok (.aload_n 0, 1) := by decide +kernel
theorem dX11_coupleTimes_79 : decode cX11_coupleTimes 79 = .ok (.getfield 55, 3) := by decide +kernel
theorem dX11_coupleTimes_82 : decode cX11_coupleTimes 82 = .ok (.aload 5, 2) := by decide +kernel
theorem dX11_coupleTimes_84 : decode cX11_coupleTimes 84 = .ok (.aload 6, 2) := by decide +kernel
theorem dX11_coupleTimes_86 : decode cX11_coupleTimes 86 = .ok (.aload_n 0, 1) := by decide +kernel
theorem dX11_coupleTimes_87 : decode cX11_coupleTimes 87 = .ok (.getfield 22, 3) := by decide +kernel
theorem dX11_coupleTimes_90 : decode cX11_coupleTimes 90 = .ok (.getfield 123, 3) := by decide +kernel
theorem dX11_coupleTimes_93 : decode cX11_coupleTimes 93 = .ok (.invokevirtual 183, 3) := by decide +kernel
theorem dX11_coupleTimes_96 : decode cX11_coupleTimes 96 = .ok (.pop, 1) := by decide +kernel
theorem dX11_coupleTimes_97 : decode cX11_coupleTimes 97 = .ok (.aload_n 0, 1) := by decide +kernel
theorem dX11_coupleTimes_98 : decode cX11_coupleTimes 98 = .ok (.aload 5, 2) := by decide +kernel
theorem dX11_coupleTimes_100 : decode cX11_coupleTimes 100 = .ok (.aload 6, 2) := by decide +kernel
theorem dX11_coupleTimes_102 : decode cX11_coupleTimes 102 = .ok (.iload_n 1, 1) := by decide +kernel
theorem dX11_coupleTimes_103 : decode cX11_coupleTimes 103 = .ok (.invokevirtual 189, 3) := by decide +kernel
theorem dX11_coupleTimes_106 : decode cX11_coupleTimes 106 = .ok (.istore 7, 2) := by decide +kernel
theorem dX11_coupleTimes_108 : decode cX11_coupleTimes 108 = .ok (.iload 7, 2) := by decide +kernel
theorem dX11_coupleTimes_110 : decode cX11_coupleTimes 110 = .ok (.bipush (-2), 2) := by decide +kernel
theorem dX11_coupleTimes_112 : decode cX11_coupleTimes 112 = .ok (.if_icmp .ne 6, 3) := by decide +kernel
theorem dX11_coupleTimes_115 : decode cX11_coupleTimes 115 = .ok (.bipush (-2), 2) := by decide +kernel
theorem dX11_coupleTimes_117 : decode cX11_coupleTimes 117 = .ok (.ireturn, 1) := by decide +kernel
theorem dX11_coupleTimes_118 : decode cX11_coupleTimes 118 = .ok (.iload_n 2, 1) := by decide +kernel
theorem dX11_coupleTimes_119 : decode cX11_coupleTimes 119 = .ok (.iload 7, 2) := by decide +kernel
theorem dX11_coupleTimes_121 : decode cX11_coupleTimes 121 = .ok (.iadd, 1) := by decide +kernel
theorem dX11_coupleTimes_122 : decode cX11_coupleTimes 122 = .ok (.istore_n 2, 1) := by decide +kernel
theorem dX11_coupleTimes_123 : decode cX11_coupleTimes 123 = .ok (.iinc 4 1, 3) := by decide +kernel
theorem dX11_coupleTimes_126 : decode cX11_coupleTimes 126 = .ok (.goto (-106), 3) := by decide +kernel
theorem dX11_coupleTimes_129 : decode cX11_coupleTimes 129 = .ok (.iinc 3 1, 3) := by decide +kernel
theorem dX11_coupleTimes_132 : decode cX11_coupleTimes 132 = .ok (.goto (-128), 3) := by decide +kernel
theorem dX11_coupleTimes_135 : decode cX11_coupleTimes 135 = .ok (.iload_n 2, 1) := by decide +kernel
theorem dX11_coupleTimes_136 : decode cX11_coupleTimes 136 = .ok (.ireturn, 1) := by decide +kernel
theorem dX11_forms_0 : decode cX11_forms 0 = .ok (.iload_n 0, 1) := by decide +kernel
theorem dX11_forms_1 : decode cX11_forms 1 = .ok (.ifCond .ge 7, 3) := by decide +kernel
theorem dX11_forms_4 : decode cX11_forms 4 = .ok (.iconst 0, 1) := by decide +kernel
theorem dX11_forms_5 : decode cX11_forms 5 = .ok (.goto 12, 3) := by decide +kernel
theorem dX11_forms_8 : decode cX11_forms 8 = .ok (.iload_n 0, 1) := by decide +kernel
theorem dX11_forms_9 : decode cX11_forms 9 = .ok (.iconst 1, 1) := by decide +kernel
theorem dX11_forms_10 : decode cX11_forms 10 = .ok (.iadd, 1) := by decide +kernel
theorem dX11_forms_11 : decode cX11_forms 11 = .ok (.iload_n 0, 1) := by decide +kernel
theorem dX11_forms_12 : decode cX11_forms 12 = .ok (.iconst 2, 1) := by decide +kernel
theorem dX11_forms_13 : decode cX11_forms 13 = .ok (.iadd, 1) := by decide +kernel
theorem dX11_forms_14 : decode cX11_forms 14 = .ok (.imul, 1) := by decide +kernel
theorem dX11_forms_15 : decode cX11_forms 15 = .ok (.iconst 2, 1) := by decide +kernel
theorem dX11_forms_16 : decode cX11_forms 16 = .ok (.idiv, 1) := by decide +kernel
theorem dX11_forms_17 : decode cX11_forms 17 = .ok (.ireturn, 1) := by decide +kernel
theorem dX11_build_0 : decode cX11_build 0 = .ok (.iload_n 3, 1) := by decide +kernel
theorem dX11_build_1 : decode cX11_build 1 = .ok (.tableswitch 189 0 5 #[39, 60, 83, 104, 121, 175], 39) := by decide +kernel
theorem dX11_build_40 : decode cX11_build 40 = .ok (.aload_n 0, 1) := by decide +kernel
theorem dX11_build_41 : decode cX11_build 41 = .ok (.aload_n 0, 1) := by decide +kernel
theorem dX11_build_42 : decode cX11_build 42 = .ok (.getfield 22, 3) := by decide +kernel
theorem dX11_build_45 : decode cX11_build 45 = .ok (.iload_n 1, 1) := by decide +kernel
theorem dX11_build_46 : decode cX11_build 46 = .ok (.invokevirtual 135, 3) := by decide +kernel
theorem dX11_build_49 : decode cX11_build 49 = .ok (.aload_n 0, 1) := by decide +kernel
theorem dX11_build_50 : decode cX11_build 50 = .ok (.getfield 22, 3) := by decide +kernel
theorem dX11_build_53 : decode cX11_build 53 = .ok (.iload_n 2, 1) := by decide +kernel
theorem dX11_build_54 : decode cX11_build 54 = .ok (.invokevirtual 135, 3) := by decide +kernel
theorem dX11_build_57 : decode cX11_build 57 = .ok (.invokevirtual 270, 3) := by decide +kernel
theorem dX11_build_60 : decode cX11_build 60 = .ok (.ireturn, 1) := by decide +kernel
theorem dX11_build_61 : decode cX11_build 61 = .ok (.aload_n 0, 1) := by decide +kernel
theorem dX11_build_62 : decode cX11_build 62 = .ok (.aload_n 0, 1) := by decide +kernel
theorem dX11_build_63 : decode cX11_build 63 = .ok (.getfield 22, 3) := by decide +kernel
theorem dX11_build_66 : decode cX11_build 66 = .ok (.iload_n 1, 1) := by decide +kernel
theorem dX11_build_67 : decode cX11_build 67 = .ok (.invokevirtual 135, 3) := by decide +kernel
theorem dX11_build_70 : decode cX11_build 70 = .ok (.aload_n 0, 1) := by decide +kernel
theorem dX11_build_71 : decode cX11_build 71 = .ok (.getfield 22, 3) := by decide +kernel
theorem dX11_build_74 : decode cX11_build 74 = .ok (.iload_n 2, 1) := by decide +kernel
theorem dX11_build_75 : decode cX11_build 75 = .ok (.invokevirtual 135, 3) := by decide +kernel
theorem dX11_build_78 : decode cX11_build 78 = .ok (.iload 4, 2) := by decide +kernel
theorem dX11_build_80 : decode cX11_build 80 = .ok (.invokevirtual 274, 3) := by decide +kernel
theorem dX11_build_83 : decode cX11_build 83 = .ok (.ireturn, 1) := by decide +kernel
theorem dX11_build_84 : decode cX11_build 84 = .ok (.aload_n 0, 1) := by decide +kernel
theorem dX11_build_85 : decode cX11_build 85 = .ok (.aload_n 0, 1) := by decide +kernel
theorem dX11_build_86 : decode cX11_build 86 = .ok (.getfield 22, 3) := by decide +kernel
theorem dX11_build_89 : decode cX11_build 89 = .ok (.iload_n 1, 1) := by decide +kernel
theorem dX11_build_90 : decode cX11_build 90 = .ok (.invokevirtual 135, 3) := by decide +kernel
theorem dX11_build_93 : decode cX11_build 93 = .ok (.aload_n 0, 1) := by decide +kernel
theorem dX11_build_94 : decode cX11_build 94 = .ok (.getfield 22, 3) := by decide +kernel
theorem dX11_build_97 : decode cX11_build 97 = .ok (.iload_n 2, 1) := by decide +kernel
theorem dX11_build_98 : decode cX11_build 98 = .ok (.invokevirtual 135, 3) := by decide +kernel
theorem dX11_build_101 : decode cX11_build 101 = .ok (.invokevirtual 277, 3) := by decide +kernel
theorem dX11_build_104 : decode cX11_build 104 = .ok (.ireturn, 1) := by decide +kernel
theorem dX11_build_105 : decode cX11_build 105 = .ok (.aload_n 0, 1) := by decide +kernel
theorem dX11_build_106 : decode cX11_build 106 = .ok (.getfield 76, 3) := by decide +kernel
theorem dX11_build_109 : decode cX11_build 109 = .ok (.iload_n 1, 1) := by decide +kernel
theorem dX11_build_110 : decode cX11_build 110 = .ok (.iload_n 2, 1) := by decide +kernel
theorem dX11_build_111 : decode cX11_build 111 = .ok (.aload_n 0, 1) := by decide +kernel
theorem dX11_build_112 : decode cX11_build 112 = .ok (.getfield 22, 3) := by decide +kernel
theorem dX11_build_115 : decode cX11_build 115 = .ok (.getfield 123, 3) := by decide +kernel
theorem dX11_build_118 : decode cX11_build 118 = .ok (.invokevirtual 280, 3) := by decide +kernel
theorem dX11_build_121 : decode cX11_build 121 = .ok (.ireturn, 1) := by decide +kernel
theorem dX11_build_122 : decode cX11_build 122 = .ok (.aload_n 0, 1) := by decide +kernel
theorem dX11_build_123 : decode cX11_build 123 = .ok (.iload_n 1, 1) := by decide +kernel
theorem dX11_build_124 : decode cX11_build 124 = .ok (.iload_n 2, 1) := by decide +kernel
theorem dX11_build_125 : decode cX11_build 125 = .ok (.invokevirtual 163, 3) := by decide +kernel
theorem dX11_build_128 : decode cX11_build 128 = .ok (.ifCond .eq 46, 3) := by decide +kernel
theorem dX11_build_131 : decode cX11_build 131 = .ok (.aload_n 0, 1) := by decide +kernel
theorem dX11_build_132 : decode cX11_build 132 = .ok (.getfield 43, 3) := by decide +kernel
theorem dX11_build_135 : decode cX11_build 135 = .ok (.invokevirtual 166, 3) := by decide +kernel
theorem dX11_build_138 : decode cX11_build 138 = .ok (.iconst 1, 1) := by decide +kernel
theorem dX11_build_139 : decode cX11_build 139 = .ok (.if_icmp .ne 35, 3) := by decide +kernel
theorem dX11_build_142 : decode cX11_build 142 = .ok (.aload_n 0, 1) := by decide +kernel
theorem dX11_build_143 : decode cX11_build 143 = .ok (.getfield 76, 3) := by decide +kernel
theorem dX11_build_146 : decode cX11_build 146 = .ok (.aload_n 0, 1) := by decide +kernel
theorem dX11_build_147 : decode cX11_build 147 = .ok (.getfield 43, 3) := by decide +kernel
theorem dX11_build_150 : decode cX11_build 150 = .ok (.getfield 169, 3) := by decide +kernel
theorem dX11_build_153 : decode cX11_build 153 = .ok (.aload_n 0, 1) := by decide +kernel
theorem dX11_build_154 : decode cX11_build 154 = .ok (.getfield 36, 3) := by decide +kernel
theorem dX11_build_157 : decode cX11_build 157 = .ok (.aload_n 0, 1) := by decide +kernel
theorem dX11_build_158 : decode cX11_build 158 = .ok (.getfield 22, 3) := by decide +kernel
theorem dX11_build_161 : decode cX11_build 161 = .ok (.getfield 123, 3) := by decide +kernel
theorem dX11_build_164 : decode cX11_build 164 = .ok (.invokevirtual 284, 3) := by decide +kernel
theorem dX11_build_167 : decode cX11_build 167 = .ok (.ifCond .eq 7, 3) := by decide +kernel
theorem dX11_build_170 : decode cX11_build 170 = .ok (.iconst 1, 1) := by decide +kernel
theorem dX11_build_171 : decode cX11_build 171 = .ok (.goto 4, 3) := by decide +kernel
theorem dX11_build_174 : decode cX11_build 174 = .ok (.iconst 0, 1) := by decide +kernel
theorem dX11_build_175 : decode cX11_build 175 = .ok (.ireturn, 1) := by decide +kernel
theorem dX11_build_176 : decode cX11_build 176 = .ok (.aload_n 0, 1) := by decide +kernel
theorem dX11_build_177 : decode cX11_build 177 = .ok (.aload_n 0, 1) := by decide +kernel
theorem dX11_build_178 : decode cX11_build 178 = .ok (.getfield 22, 3) := by decide +kernel
theorem dX11_build_181 : decode cX11_build 181 = .ok (.iload_n 1, 1) := by decide +kernel
theorem dX11_build_182 : decode cX11_build 182 = .ok (.invokevirtual 135, 3) := by decide +kernel
theorem dX11_build_185 : decode cX11_build 185 = .ok (.iload_n 2, 1) := by decide +kernel
theorem dX11_build_186 : decode cX11_build 186 = .ok (.invokevirtual 288, 3) := by decide +kernel
theorem dX11_build_189 : decode cX11_build 189 = .ok (.ireturn, 1) := by decide +kernel
theorem dX11_build_190 : decode cX11_build 190 = .ok (.iconst 0, 1) := by decide +kernel
theorem dX11_build_191 : decode cX11_build 191 = .ok (.ireturn, 1) := by decide +kernel
theorem dX11_buildProduct_0 : decode cX11_buildProduct 0 = .ok (.aload_n 1, 1) := by decide +kernel
theorem dX11_buildProduct_1 : decode cX11_buildProduct 1 = .ok (.ifnull 20, 3) := by decide +kernel
theorem dX11_buildProduct_4 : decode cX11_buildProduct 4 = .ok (.aload_n 2, 1) := by decide +kernel
theorem dX11_buildProduct_5 : decode cX11_buildProduct 5 = .ok (.ifnull 16, 3) := by decide +kernel
theorem dX11_buildProduct_8 : decode cX11_buildProduct 8 = .ok (.aload_n 1, 1) := by decide +kernel
theorem dX11_buildProduct_9 : decode cX11_buildProduct 9 = .ok (.invokevirtual 148, 3) := by decide +kernel
theorem dX11_buildProduct_12 : decode cX11_buildProduct 12 = .ok (.aload_n 2, 1) := by decide +kernel
theorem dX11_buildProduct_13 : decode cX11_buildProduct 13 = .ok (.invokevirtual 148, 3) := by decide +kernel
theorem dX11_buildProduct_16 : decode cX11_buildProduct 16 = .ok (.iadd, 1) := by decide +kernel
theorem dX11_buildProduct_17 : decode cX11_buildProduct 17 = .ok (.iconst 4, 1) := by decide +kernel
theorem dX11_buildProduct_18 : decode cX11_buildProduct 18 = .ok (.if_icmp .le 5, 3) := by decide +kernel
theorem dX11_buildProduct_21 : decode cX11_buildProduct 21 = .ok (.iconst 0, 1) := by decide +kernel
theorem dX11_buildProduct_22 : decode cX11_buildProduct 22 = .ok (.ireturn, 1) := by decide +kernel
theorem dX11_buildProduct_23 : decode cX11_buildProduct 23 = .ok (.aload_n 0, 1) := by decide +kernel
theorem dX11_buildProduct_24 : decode cX11_buildProduct 24 = .ok (.getfield 76, 3) := by decide +kernel
theorem dX11_buildProduct_27 : decode cX11_buildProduct 27 = .ok (.getfield 247, 3) := by decide +kernel
theorem dX11_buildProduct_30 : decode cX11_buildProduct 30 = .ok (.aload_n 1, 1) := by decide +kernel
theorem dX11_buildProduct_31 : decode cX11_buildProduct 31 = .ok (.aload_n 2, 1) := by decide +kernel
theorem dX11_buildProduct_32 : decode cX11_buildProduct 32 = .ok (.aload_n 0, 1) := by decide +kernel
theorem dX11_buildProduct_33 : decode cX11_buildProduct 33 = .ok (.getfield 22, 3) := by decide +kernel
theorem dX11_buildProduct_36 : decode cX11_buildProduct 36 = .ok (.getfield 123, 3) := by decide +kernel
theorem dX11_buildProduct_39 : decode cX11_buildProduct 39 = .ok (.invokevirtual 292, 3) := by decide +kernel
theorem dX11_buildProduct_42 : decode cX11_buildProduct 42 = .ok (.iconst 1, 1) := by decide +kernel
theorem dX11_buildProduct_43 : decode cX11_buildProduct 43 = .ok (.ireturn, 1) := by decide +kernel
theorem dX11_buildMix_0 : decode cX11_buildMix 0 = .ok (.aload_n 1, 1) := by decide +kernel
theorem dX11_buildMix_1 : decode cX11_buildMix 1 = .ok (.ifnull 7, 3) := by decide +kernel
theorem dX11_buildMix_4 : decode cX11_buildMix 4 = .ok (.aload_n 2, 1) := by decide +kernel
theorem dX11_buildMix_5 : decode cX11_buildMix 5 = .ok (.ifnonnull 5, 3) := by decide +kernel
theorem dX11_buildMix_8 : decode cX11_buildMix 8 = .ok (.iconst 0, 1) := by decide +kernel
theorem dX11_buildMix_9 : decode cX11_buildMix 9 = .ok (.ireturn, 1) := by decide +kernel
theorem dX11_buildMix_10 : decode cX11_buildMix 10 = .ok (.aload_n 0, 1) := by decide +kernel
theorem dX11_buildMix_11 : decode cX11_buildMix 11 = .ok (.getfield 76, 3) := by decide +kernel
theorem dX11_buildMix_14 : decode cX11_buildMix 14 = .ok (.getfield 247, 3) := by decide +kernel
theorem dX11_buildMix_17 : decode cX11_buildMix 17 = .ok (.aload_n 1, 1) := by decide +kernel
theorem dX11_buildMix_18 : decode cX11_buildMix 18 = .ok (.invokevirtual 296, 3) := by decide +kernel
theorem dX11_buildMix_21 : decode cX11_buildMix 21 = .ok (.aload_n 0, 1) := by decide +kernel
theorem dX11_buildMix_22 : decode cX11_buildMix 22 = .ok (.getfield 76, 3) := by decide +kernel
theorem dX11_buildMix_25 : decode cX11_buildMix 25 = .ok (.getfield 247, 3) := by decide +kernel
theorem dX11_buildMix_28 : decode cX11_buildMix 28 = .ok (.aload_n 2, 1) := by decide +kernel
theorem dX11_buildMix_29 : decode cX11_buildMix 29 = .ok (.iload_n 3, 1) := by decide +kernel
theorem dX11_buildMix_30 : decode cX11_buildMix 30 = .ok (.aload_n 0, 1) := by decide +kernel
theorem dX11_buildMix_31 : decode cX11_buildMix 31 = .ok (.getfield 22, 3) := by decide +kernel
theorem dX11_buildMix_34 : decode cX11_buildMix 34 = .ok (.getfield 123, 3) := by decide +kernel
theorem dX11_buildMix_37 : decode cX11_buildMix 37 = .ok (.invokestatic 299, 3) := by decide +kernel
theorem dX11_buildMix_40 : decode cX11_buildMix 40 = .ok (.aload_n 0, 1) := by decide +kernel
theorem dX11_buildMix_41 : decode cX11_buildMix 41 = .ok (.getfield 22, 3) := by decide +kernel
theorem dX11_buildMix_44 : decode cX11_buildMix 44 = .ok (.getfield 123, 3) := by decide +kernel
theorem dX11_buildMix_47 : decode cX11_buildMix 47 = .ok (.invokevirtual 302, 3) := by decide +kernel
theorem dX11_buildMix_50 : decode cX11_buildMix 50 = .ok (.iconst 1, 1) := by decide +kernel
theorem dX11_buildMix_51 : decode cX11_buildMix 51 = .ok (.ireturn, 1) := by decide +kernel
theorem dX11_buildCommon_0 : decode cX11_buildCommon 0 = .ok (.aload_n 1, 1) := by decide +kernel
theorem dX11_buildCommon_1 : decode cX11_buildCommon 1 = .ok (.ifnull 7, 3) := by decide +kernel
theorem dX11_buildCommon_4 : decode cX11_buildCommon 4 = .ok (.aload_n 2, 1) := by decide +kernel
theorem dX11_buildCommon_5 : decode cX11_buildCommon 5 = .ok (.ifnonnull 5, 3) := by decide +kernel
theorem dX11_buildCommon_8 : decode cX11_buildCommon 8 = .ok (.iconst 0, 1) := by decide +kernel
theorem dX11_buildCommon_9 : decode cX11_buildCommon 9 = .ok (.ireturn, 1) := by decide +kernel
theorem dX11_buildCommon_10 : decode cX11_buildCommon 10 = .ok (.aload_n 0, 1) := by decide +kernel
theorem dX11_buildCommon_11 : decode cX11_buildCommon 11 = .ok (.getfield 76, 3) := by decide +kernel
theorem dX11_buildCommon_14 : decode cX11_buildCommon 14 = .ok (.getfield 247, 3) := by decide +kernel
theorem dX11_buildCommon_17 : decode cX11_buildCommon 17 = .ok (.aload_n 0, 1) := by decide +kernel
theorem dX11_buildCommon_18 : decode cX11_buildCommon 18 = .ok (.getfield 55, 3) := by decide +kernel
theorem dX11_buildCommon_21 : decode cX11_buildCommon 21 = .ok (.aload_n 1, 1) := by decide +kernel
theorem dX11_buildCommon_22 : decode cX11_buildCommon 22 = .ok (.aload_n 2, 1) := by decide +kernel
theorem dX11_buildCommon_23 : decode cX11_buildCommon 23 = .ok (.aload_n 0, 1) := by decide +kernel
theorem dX11_buildCommon_24 : decode cX11_buildCommon 24 = .ok (.getfield 22, 3) := by decide +kernel
theorem dX11_buildCommon_27 : decode cX11_buildCommon 27 = .ok (.getfield 123, 3) := by decide +kernel
theorem dX11_buildCommon_30 : decode cX11_buildCommon 30 = .ok (.invokevirtual 183, 3) := by decide +kernel
theorem dX11_buildCommon_33 : decode cX11_buildCommon 33 = .ok (.invokevirtual 296, 3) := by decide +kernel
theorem dX11_buildCommon_36 : decode cX11_buildCommon 36 = .ok (.iconst 1, 1) := by decide +kernel
theorem dX11_buildCommon_37 : decode cX11_buildCommon 37 = .ok (.ireturn, 1) := by decide +kernel
theorem dX11_buildDerivative_0 : decode cX11_buildDerivative 0 = .ok (.aload_n 1, 1) := by decide +kernel
theorem dX11_buildDerivative_1 : decode cX11_buildDerivative 1 = .ok (.ifnull 12, 3) := by decide +kernel
theorem dX11_buildDerivative_4 : decode cX11_buildDerivative 4 = .ok (.iload_n 2, 1) := by decide +kernel
theorem dX11_buildDerivative_5 : decode cX11_buildDerivative 5 = .ok (.ifCond .lt 8, 3) := by decide +kernel
theorem dX11_buildDerivative_8 : decode cX11_buildDerivative 8 = .ok (.iload_n 2, 1) := by decide +kernel
theorem dX11_buildDerivative_9 : decode cX11_buildDerivative 9 = .ok (.iconst 1, 1) := by decide +kernel
theorem dX11_buildDerivative_10 : decode cX11_buildDerivative 10 = .ok (.if_icmp .le 5, 3) := by decide +kernel
theorem dX11_buildDerivative_13 : decode cX11_buildDerivative 13 = .ok (.iconst 0, 1) := by decide +kernel
theorem dX11_buildDerivative_14 : decode cX11_buildDerivative 14 = .ok (.ireturn, 1) := by decide +kernel
theorem dX11_buildDerivative_15 : decode cX11_buildDerivative 15 = .ok (.aload_n 0, 1) := by decide +kernel
theorem dX11_buildDerivative_16 : decode cX11_buildDerivative 16 = .ok (.getfield 76, 3) := by decide +kernel
theorem dX11_buildDerivative_19 : decode cX11_buildDerivative 19 = .ok (.aload_n 1, 1) := by decide +kernel
theorem dX11_buildDerivative_20 : decode cX11_buildDerivative 20 = .ok (.iload_n 2, 1) := by decide +kernel
theorem dX11_buildDerivative_21 : decode cX11_buildDerivative 21 = .ok (.ifCond .ne 7, 3) := by decide +kernel
theorem dX11_buildDerivative_24 : decode cX11_buildDerivative 24 = .ok (.iconst 1, 1) := by decide +kernel
theorem dX11_buildDerivative_25 : decode cX11_buildDerivative 25 = .ok (.goto 4, 3) := by decide +kernel
theorem dX11_buildDerivative_28 : decode cX11_buildDerivative 28 = .ok (.iconst 0, 1) := by decide +kernel
theorem dX11_buildDerivative_29 : decode cX11_buildDerivative 29 = .ok (.aload_n 0, 1) := by decide +kernel
theorem dX11_buildDerivative_30 : decode cX11_buildDerivative 30 = .ok (.getfield 22, 3) := by decide +kernel
theorem dX11_buildDerivative_33 : decode cX11_buildDerivative 33 = .ok (.getfield 123, 3) := by decide +kernel
theorem dX11_buildDerivative_36 : decode cX11_buildDerivative 36 = .ok (.invokevirtual 305, 3) := by decide +kernel
theorem dX11_buildDerivative_39 : decode cX11_buildDerivative 39 = .ok (.iconst 1, 1) := by decide +kernel
theorem dX11_buildDerivative_40 : decode cX11_buildDerivative 40 = .ok (.ireturn, 1) := by decide +kernel
theorem dX11_mod_0 : decode cX11_mod 0 = .ok (.iload_n 1, 1) := by decide +kernel
theorem dX11_mod_1 : decode cX11_mod 1 = .ok (.iconst 2, 1) := by decide +kernel
theorem dX11_mod_2 : decode cX11_mod 2 = .ok (.if_icmp .ge 5, 3) := by decide +kernel
theorem dX11_mod_5 : decode cX11_mod 5 = .ok (.iconst 0, 1) := by decide +kernel
theorem dX11_mod_6 : decode cX11_mod 6 = .ok (.ireturn, 1) := by decide +kernel
theorem dX11_mod_7 : decode cX11_mod 7 = .ok (.iload_n 0, 1) := by decide +kernel
theorem dX11_mod_8 : decode cX11_mod 8 = .ok (.iload_n 1, 1) := by decide +kernel
theorem dX11_mod_9 : decode cX11_mod 9 = .ok (.irem, 1) := by decide +kernel
theorem dX11_mod_10 : decode cX11_mod 10 = .ok (.istore_n 2, 1) := by decide +kernel
theorem dX11_mod_11 : decode cX11_mod 11 = .ok (.iload_n 2, 1) := by decide +kernel
theorem dX11_mod_12 : decode cX11_mod 12 = .ok (.ifCond .ge 9, 3) := by decide +kernel
theorem dX11_mod_15 : decode cX11_mod 15 = .ok (.iload_n 2, 1) := by decide +kernel
theorem dX11_mod_16 : decode cX11_mod 16 = .ok (.iload_n 1, 1) := by decide +kernel
theorem dX11_mod_17 : decode cX11_mod 17 = .ok (.iadd, 1) := by decide +kernel
theorem dX11_mod_18 : decode cX11_mod 18 = .ok (.goto 4, 3) := by decide +kernel
theorem dX11_mod_21 : decode cX11_mod 21 = .ok (.iload_n 2, 1) := by decide +kernel
theorem dX11_mod_22 : decode cX11_mod 22 = .ok (.ireturn, 1) := by decide +kernel
theorem dX11_power_0 : decode cX11_power 0 = .ok (.iconst 1, 1) := by decide +kernel
theorem dX11_power_1 : decode cX11_power 1 = .ok (.istore_n 3, 1) := by decide +kernel
theorem dX11_power_2 : decode cX11_power 2 = .ok (.iconst 0, 1) := by decide +kernel
theorem dX11_power_3 : decode cX11_power 3 = .ok (.istore 4, 2) := by decide +kernel
theorem dX11_power_5 : decode cX11_power 5 = .ok (.iload 4, 2) := by decide +kernel
theorem dX11_power_7 : decode cX11_power 7 = .ok (.iload_n 1, 1) := by decide +kernel
theorem dX11_power_8 : decode cX11_power 8 = .ok (.if_icmp .ge 23, 3) := by decide +kernel
theorem dX11_power_11 : decode cX11_power 11 = .ok (.iload 4, 2) := by decide +kernel
theorem dX11_power_13 : decode cX11_power 13 = .ok (.iconst 4, 1) := by decide +kernel
theorem dX11_power_14 : decode cX11_power 14 = .ok (.if_icmp .ge 17, 3) := by decide +kernel
theorem dX11_power_17 : decode cX11_power 17 = .ok (.iload_n 3, 1) := by decide +kernel
theorem dX11_power_18 : decode cX11_power 18 = .ok (.iload_n 0, 1) := by decide +kernel
theorem dX11_power_19 : decode cX11_power 19 = .ok (.imul, 1) := by decide +kernel
theorem dX11_power_20 : decode cX11_power 20 = .ok (.iload_n 2, 1) := by decide +kernel
theorem dX11_power_21 : decode cX11_power 21 = .ok (.invokestatic 299, 3) := by decide +kernel
theorem dX11_power_24 : decode cX11_power 24 = .ok (.istore_n 3, 1) := by decide +kernel
theorem dX11_power_25 : decode cX11_power 25 = .ok (.iinc 4 1, 3) := by decide +kernel
theorem dX11_power_28 : decode cX11_power 28 = .ok (.goto (-23), 3) := by decide +kernel
theorem dX11_power_31 : decode cX11_power 31 = .ok (.iload_n 3, 1) := by decide +kernel
theorem dX11_power_32 : decode cX11_power 32 = .ok (.ireturn, 1) := by decide +kernel
theorem dX11_inverse_0 : decode cX11_inverse 0 = .ok (.iconst 1, 1) := by decide +kernel
theorem dX11_inverse_1 : decode cX11_inverse 1 = .ok (.istore_n 2, 1) := by decide +kernel
theorem dX11_inverse_2 : decode cX11_inverse 2 = .ok (.iload_n 2, 1) := by decide +kernel
theorem dX11_inverse_3 : decode cX11_inverse 3 = .ok (.iload_n 1, 1) := by decide +kernel
theorem dX11_inverse_4 : decode cX11_inverse 4 = .ok (.if_icmp .ge 25, 3) := by decide +kernel
theorem dX11_inverse_7 : decode cX11_inverse 7 = .ok (.iload_n 1, 1) := by decide +kernel
theorem dX11_inverse_8 : decode cX11_inverse 8 = .ok (.iconst 1, 1) := by decide +kernel
theorem dX11_inverse_9 : decode cX11_inverse 9 = .ok (.if_icmp .le 20, 3) := by decide +kernel
theorem dX11_inverse_12 : decode cX11_inverse 12 = .ok (.iload_n 0, 1) := by decide +kernel
theorem dX11_inverse_13 : decode cX11_inverse 13 = .ok (.iload_n 2, 1) := by decide +kernel
theorem dX11_inverse_14 : decode cX11_inverse 14 = .ok (.imul, 1) := by decide +kernel
theorem dX11_inverse_15 : decode cX11_inverse 15 = .ok (.iload_n 1, 1) := by decide +kernel
theorem dX11_inverse_16 : decode cX11_inverse 16 = .ok (.irem, 1) := by decide +kernel
theorem dX11_inverse_17 : decode cX11_inverse 17 = .ok (.iconst 1, 1) := by decide +kernel
theorem dX11_inverse_18 : decode cX11_inverse 18 = .ok (.if_icmp .ne 5, 3) := by decide +kernel
theorem dX11_inverse_21 : decode cX11_inverse 21 = .ok (.iload_n 2, 1) := by decide +kernel
theorem dX11_inverse_22 : decode cX11_inverse 22 = .ok (.ireturn, 1) := by decide +kernel
theorem dX11_inverse_23 : decode cX11_inverse 23 = .ok (.iinc 2 1, 3) := by decide +kernel
theorem dX11_inverse_26 : decode cX11_inverse 26 = .ok (.goto (-24), 3) := by decide +kernel
theorem dX11_inverse_29 : decode cX11_inverse 29 = .ok (.iconst 0, 1) := by decide +kernel
theorem dX11_inverse_30 : decode cX11_inverse 30 = .ok (.ireturn, 1) := by decide +kernel
theorem dJ9_max_7cf53_0 : decode cJ9_max_7cf53 0 = .ok (.iload_n 0, 1) := by decide +kernel
theorem dJ9_max_7cf53_1 : decode cJ9_max_7cf53 1 = .ok (.iload_n 1, 1) := by decide +kernel
theorem dJ9_max_7cf53_2 : decode cJ9_max_7cf53 2 = .ok (.if_icmp .lt 7, 3) := by decide +kernel
theorem dJ9_max_7cf53_5 : decode cJ9_max_7cf53 5 = .ok (.iload_n 0, 1) := by decide +kernel
theorem dJ9_max_7cf53_6 : decode cJ9_max_7cf53 6 = .ok (.goto 4, 3) := by decide +kernel
theorem dJ9_max_7cf53_9 : decode cJ9_max_7cf53 9 = .ok (.iload_n 1, 1) := by decide +kernel
theorem dJ9_max_7cf53_10 : decode cJ9_max_7cf53 10 = .ok (.ireturn, 1) := by decide +kernel
theorem dJ9_min_7cf53_0 : decode cJ9_min_7cf53 0 = .ok (.iload_n 0, 1) := by decide +kernel
theorem dJ9_min_7cf53_1 : decode cJ9_min_7cf53 1 = .ok (.iload_n 1, 1) := by decide +kernel
theorem dJ9_min_7cf53_2 : decode cJ9_min_7cf53 2 = .ok (.if_icmp .gt 7, 3) := by decide +kernel
theorem dJ9_min_7cf53_5 : decode cJ9_min_7cf53 5 = .ok (.iload_n 0, 1) := by decide +kernel
theorem dJ9_min_7cf53_6 : decode cJ9_min_7cf53 6 = .ok (.goto 4, 3) := by decide +kernel
theorem dJ9_min_7cf53_9 : decode cJ9_min_7cf53 9 = .ok (.iload_n 1, 1) := by decide +kernel
theorem dJ9_min_7cf53_10 : decode cJ9_min_7cf53 10 = .ok (.ireturn, 1) := by decide +kernel
theorem dJ9_min_f86c9_0 : decode cJ9_min_f86c9 0 = .ok (.lload_n 0, 1) := by decide +kernel
theorem dJ9_min_f86c9_1 : decode cJ9_min_f86c9 1 = .ok (.lload_n 2, 1) := by decide +kernel
theorem dJ9_min_f86c9_2 : decode cJ9_min_f86c9 2 = .ok (.lcmp, 1) := by decide +kernel
theorem dJ9_min_f86c9_3 : decode cJ9_min_f86c9 3 = .ok (.ifCond .gt 7, 3) := by decide +kernel
theorem dJ9_min_f86c9_6 : decode cJ9_min_f86c9 6 = .ok (.lload_n 0, 1) := by decide +kernel
theorem dJ9_min_f86c9_7 : decode cJ9_min_f86c9 7 = .ok (.goto 4, 3) := by decide +kernel
theorem dJ9_min_f86c9_10 : decode cJ9_min_f86c9 10 = .ok (.lload_n 2, 1) := by decide +kernel
theorem dJ9_min_f86c9_11 : decode cJ9_min_f86c9 11 = .ok (.lreturn, 1) := by decide +kernel
theorem dJ0_length_8abf5_0 : decode cJ0_length_8abf5 0 = .ok (.aload_n 0, 1) := by decide +kernel
theorem dJ0_length_8abf5_1 : decode cJ0_length_8abf5 1 = .ok (.getfield 9, 3) := by decide +kernel
theorem dJ0_length_8abf5_4 : decode cJ0_length_8abf5 4 = .ok (.arraylength, 1) := by decide +kernel
theorem dJ0_length_8abf5_5 : decode cJ0_length_8abf5 5 = .ok (.aload_n 0, 1) := by decide +kernel
theorem dJ0_length_8abf5_6 : decode cJ0_length_8abf5 6 = .ok (.invokevirtual 335, 3) := by decide +kernel
theorem dJ0_length_8abf5_9 : decode cJ0_length_8abf5 9 = .ok (.ishr, 1) := by decide +kernel
theorem dJ0_length_8abf5_10 : decode cJ0_length_8abf5 10 = .ok (.ireturn, 1) := by decide +kernel
theorem dJ0_charAt_5068e_0 : decode cJ0_charAt_5068e 0 = .ok (.aload_n 0, 1) := by decide +kernel
theorem dJ0_charAt_5068e_1 : decode cJ0_charAt_5068e 1 = .ok (.invokevirtual 492, 3) := by decide +kernel
theorem dJ0_charAt_5068e_4 : decode cJ0_charAt_5068e 4 = .ok (.ifCond .eq 12, 3) := by decide +kernel
theorem dJ0_charAt_5068e_7 : decode cJ0_charAt_5068e 7 = .ok (.aload_n 0, 1) := by decide +kernel
theorem dJ0_charAt_5068e_8 : decode cJ0_charAt_5068e 8 = .ok (.getfield 9, 3) := by decide +kernel
theorem dJ0_charAt_5068e_11 : decode cJ0_charAt_5068e 11 = .ok (.iload_n 1, 1) := by decide +kernel
theorem dJ0_charAt_5068e_12 : decode cJ0_charAt_5068e 12 = .ok (.invokestatic 495, 3) := by decide +kernel
theorem dJ0_charAt_5068e_15 : decode cJ0_charAt_5068e 15 = .ok (.ireturn, 1) := by decide +kernel
theorem dJ0_charAt_5068e_16 : decode cJ0_charAt_5068e 16 = .ok (.aload_n 0, 1) := by decide +kernel
theorem dJ0_charAt_5068e_17 : decode cJ0_charAt_5068e 17 = .ok (.getfield 9, 3) := by decide +kernel
theorem dJ0_charAt_5068e_20 : decode cJ0_charAt_5068e 20 = .ok (.iload_n 1, 1) := by decide +kernel
theorem dJ0_charAt_5068e_21 : decode cJ0_charAt_5068e 21 = .ok (.invokestatic 498, 3) := by decide +kernel
theorem dJ0_charAt_5068e_24 : decode cJ0_charAt_5068e 24 = .ok (.ireturn, 1) := by decide +kernel
theorem dJ0_coder_7d493_0 : decode cJ0_coder_7d493 0 = .ok (.getstatic 38, 3) := by decide +kernel
theorem dJ0_coder_7d493_3 : decode cJ0_coder_7d493 3 = .ok (.ifCond .eq 10, 3) := by decide +kernel
theorem dJ0_coder_7d493_6 : decode cJ0_coder_7d493 6 = .ok (.aload_n 0, 1) := by decide +kernel
theorem dJ0_coder_7d493_7 : decode cJ0_coder_7d493 7 = .ok (.getfield 15, 3) := by decide +kernel
theorem dJ0_coder_7d493_10 : decode cJ0_coder_7d493 10 = .ok (.goto 4, 3) := by decide +kernel
theorem dJ0_coder_7d493_13 : decode cJ0_coder_7d493 13 = .ok (.iconst 1, 1) := by decide +kernel
theorem dJ0_coder_7d493_14 : decode cJ0_coder_7d493 14 = .ok (.ireturn, 1) := by decide +kernel
theorem dJ0_isLatin1_aae02_0 : decode cJ0_isLatin1_aae02 0 = .ok (.getstatic 38, 3) := by decide +kernel
theorem dJ0_isLatin1_aae02_3 : decode cJ0_isLatin1_aae02 3 = .ok (.ifCond .eq 14, 3) := by decide +kernel
theorem dJ0_isLatin1_aae02_6 : decode cJ0_isLatin1_aae02 6 = .ok (.aload_n 0, 1) := by decide +kernel
theorem dJ0_isLatin1_aae02_7 : decode cJ0_isLatin1_aae02 7 = .ok (.getfield 15, 3) := by decide +kernel
theorem dJ0_isLatin1_aae02_10 : decode cJ0_isLatin1_aae02 10 = .ok (.ifCond .ne 7, 3) := by decide +kernel
theorem dJ0_isLatin1_aae02_13 : decode cJ0_isLatin1_aae02 13 = .ok (.iconst 1, 1) := by decide +kernel
theorem dJ0_isLatin1_aae02_14 : decode cJ0_isLatin1_aae02 14 = .ok (.goto 4, 3) := by decide +kernel
theorem dJ0_isLatin1_aae02_17 : decode cJ0_isLatin1_aae02 17 = .ok (.iconst 0, 1) := by decide +kernel
theorem dJ0_isLatin1_aae02_18 : decode cJ0_isLatin1_aae02 18 = .ok (.ireturn, 1) := by decide +kernel
theorem dJ0_checkIndex_df160_0 : decode cJ0_checkIndex_df160 0 = .ok (.iload_n 0, 1) := by decide +kernel
theorem dJ0_checkIndex_df160_1 : decode cJ0_checkIndex_df160 1 = .ok (.iload_n 1, 1) := by decide +kernel
theorem dJ0_checkIndex_df160_2 : decode cJ0_checkIndex_df160 2 = .ok (.getstatic 1053, 3) := by decide +kernel
theorem dJ0_checkIndex_df160_5 : decode cJ0_checkIndex_df160 5 = .ok (.invokestatic 1059, 3) := by decide +kernel
theorem dJ0_checkIndex_df160_8 : decode cJ0_checkIndex_df160 8 = .ok (.pop, 1) := by decide +kernel
theorem dJ0_checkIndex_df160_9 : decode cJ0_checkIndex_df160 9 = .ok (.return_, 1) := by decide +kernel
theorem dJ1_charAt_3b067_0 : decode cJ1_charAt_3b067 0 = .ok (.iload_n 1, 1) := by decide +kernel
theorem dJ1_charAt_3b067_1 : decode cJ1_charAt_3b067 1 = .ok (.aload_n 0, 1) := by decide +kernel
theorem dJ1_charAt_3b067_2 : decode cJ1_charAt_3b067 2 = .ok (.arraylength, 1) := by decide +kernel
theorem dJ1_charAt_3b067_3 : decode cJ1_charAt_3b067 3 = .ok (.invokestatic 9, 3) := by decide +kernel
theorem dJ1_charAt_3b067_6 : decode cJ1_charAt_3b067 6 = .ok (.aload_n 0, 1) := by decide +kernel
theorem dJ1_charAt_3b067_7 : decode cJ1_charAt_3b067 7 = .ok (.iload_n 1, 1) := by decide +kernel
theorem dJ1_charAt_3b067_8 : decode cJ1_charAt_3b067 8 = .ok (.baload, 1) := by decide +kernel
theorem dJ1_charAt_3b067_9 : decode cJ1_charAt_3b067 9 = .ok (.sipush 255, 3) := by decide +kernel
theorem dJ1_charAt_3b067_12 : decode cJ1_charAt_3b067 12 = .ok (.iand, 1) := by decide +kernel
theorem dJ1_charAt_3b067_13 : decode cJ1_charAt_3b067 13 = .ok (.i2c, 1) := by decide +kernel
theorem dJ1_charAt_3b067_14 : decode cJ1_charAt_3b067 14 = .ok (.ireturn, 1) := by decide +kernel
theorem dJ2_getChar_3b067_0 : decode cJ2_getChar_3b067 0 = .ok (.getstatic 44, 3) := by decide +kernel
theorem dJ2_getChar_3b067_3 : decode cJ2_getChar_3b067 3 = .ok (.ifCond .ne 25, 3) := by decide +kernel
theorem dJ2_getChar_3b067_6 : decode cJ2_getChar_3b067 6 = .ok (.iload_n 1, 1) := by decide +kernel
theorem dJ2_getChar_3b067_7 : decode cJ2_getChar_3b067 7 = .ok (.ifCond .lt 11, 3) := by decide +kernel
theorem dJ2_getChar_3b067_10 : decode cJ2_getChar_3b067 10 = .ok (.iload_n 1, 1) := by decide +kernel
theorem dJ2_getChar_3b067_11 : decode cJ2_getChar_3b067 11 = .ok (.aload_n 0, 1) := by decide +kernel
theorem dJ2_getChar_3b067_12 : decode cJ2_getChar_3b067 12 = .ok (.invokestatic 48, 3) := by decide +kernel
theorem dJ2_getChar_3b067_15 : decode cJ2_getChar_3b067 15 = .ok (.if_icmp .lt 13, 3) := by decide +kernel
theorem dJ2_getChar_3b067_18 : decode cJ2_getChar_3b067 18 = .ok (.new 52, 3) := by decide +kernel
theorem dJ2_getChar_3b067_21 : decode cJ2_getChar_3b067 21 = .ok (.dup, 1) := by decide +kernel
theorem dJ2_getChar_3b067_22 : decode cJ2_getChar_3b067 22 = .ok (.ldc 54, 2) := by decide +kernel
theorem dJ2_getChar_3b067_24 : decode cJ2_getChar_3b067 24 = .ok (.invokespecial 56, 3) := by decide +kernel
theorem dJ2_getChar_3b067_27 : decode cJ2_getChar_3b067 27 = .ok (.athrow, 1) := by decide +kernel
theorem dJ2_getChar_3b067_28 : decode cJ2_getChar_3b067 28 = .ok (.iload_n 1, 1) := by decide +kernel
theorem dJ2_getChar_3b067_29 : decode cJ2_getChar_3b067 29 = .ok (.iconst 1, 1) := by decide +kernel
theorem dJ2_getChar_3b067_30 : decode cJ2_getChar_3b067 30 = .ok (.ishl, 1) := by decide +kernel
theorem dJ2_getChar_3b067_31 : decode cJ2_getChar_3b067 31 = .ok (.istore_n 1, 1) := by decide +kernel
theorem dJ2_getChar_3b067_32 : decode cJ2_getChar_3b067 32 = .ok (.aload_n 0, 1) := by decide +kernel
theorem dJ2_getChar_3b067_33 : decode cJ2_getChar_3b067 33 = .ok (.iload_n 1, 1) := by decide +kernel
theorem dJ2_getChar_3b067_34 : decode cJ2_getChar_3b067 34 = .ok (.iinc 1 1, 3) := by decide +kernel
theorem dJ2_getChar_3b067_37 : decode cJ2_getChar_3b067 37 = .ok (.baload, 1) := by decide +kernel
theorem dJ2_getChar_3b067_38 : decode cJ2_getChar_3b067 38 = .ok (.sipush 255, 3) := by decide +kernel
theorem dJ2_getChar_3b067_41 : decode cJ2_getChar_3b067 41 = .ok (.iand, 1) := by decide +kernel
theorem dJ2_getChar_3b067_42 : decode cJ2_getChar_3b067 42 = .ok (.getstatic 59, 3) := by decide +kernel
theorem dJ2_getChar_3b067_45 : decode cJ2_getChar_3b067 45 = .ok (.ishl, 1) := by decide +kernel
theorem dJ2_getChar_3b067_46 : decode cJ2_getChar_3b067 46 = .ok (.aload_n 0, 1) := by decide +kernel
theorem dJ2_getChar_3b067_47 : decode cJ2_getChar_3b067 47 = .ok (.iload_n 1, 1) := by decide +kernel
theorem dJ2_getChar_3b067_48 : decode cJ2_getChar_3b067 48 = .ok (.baload, 1) := by decide +kernel
theorem dJ2_getChar_3b067_49 : decode cJ2_getChar_3b067 49 = .ok (.sipush 255, 3) := by decide +kernel
theorem dJ2_getChar_3b067_52 : decode cJ2_getChar_3b067 52 = .ok (.iand, 1) := by decide +kernel
theorem dJ2_getChar_3b067_53 : decode cJ2_getChar_3b067 53 = .ok (.getstatic 63, 3) := by decide +kernel
theorem dJ2_getChar_3b067_56 : decode cJ2_getChar_3b067 56 = .ok (.ishl, 1) := by decide +kernel
theorem dJ2_getChar_3b067_57 : decode cJ2_getChar_3b067 57 = .ok (.ior, 1) := by decide +kernel
theorem dJ2_getChar_3b067_58 : decode cJ2_getChar_3b067 58 = .ok (.i2c, 1) := by decide +kernel
theorem dJ2_getChar_3b067_59 : decode cJ2_getChar_3b067 59 = .ok (.ireturn, 1) := by decide +kernel
theorem dJ2_length_9d52b_0 : decode cJ2_length_9d52b 0 = .ok (.aload_n 0, 1) := by decide +kernel
theorem dJ2_length_9d52b_1 : decode cJ2_length_9d52b 1 = .ok (.arraylength, 1) := by decide +kernel
theorem dJ2_length_9d52b_2 : decode cJ2_length_9d52b 2 = .ok (.iconst 1, 1) := by decide +kernel
theorem dJ2_length_9d52b_3 : decode cJ2_length_9d52b 3 = .ok (.ishr, 1) := by decide +kernel
theorem dJ2_length_9d52b_4 : decode cJ2_length_9d52b 4 = .ok (.ireturn, 1) := by decide +kernel
theorem dJ2_charAt_3b067_0 : decode cJ2_charAt_3b067 0 = .ok (.iload_n 1, 1) := by decide +kernel
theorem dJ2_charAt_3b067_1 : decode cJ2_charAt_3b067 1 = .ok (.aload_n 0, 1) := by decide +kernel
theorem dJ2_charAt_3b067_2 : decode cJ2_charAt_3b067 2 = .ok (.invokestatic 67, 3) := by decide +kernel
theorem dJ2_charAt_3b067_5 : decode cJ2_charAt_3b067 5 = .ok (.aload_n 0, 1) := by decide +kernel
theorem dJ2_charAt_3b067_6 : decode cJ2_charAt_3b067 6 = .ok (.iload_n 1, 1) := by decide +kernel
theorem dJ2_charAt_3b067_7 : decode cJ2_charAt_3b067 7 = .ok (.invokestatic 71, 3) := by decide +kernel
theorem dJ2_charAt_3b067_10 : decode cJ2_charAt_3b067 10 = .ok (.ireturn, 1) := by decide +kernel
theorem dJ2_checkIndex_2214a_0 : decode cJ2_checkIndex_2214a 0 = .ok (.iload_n 0, 1) := by decide +kernel
theorem dJ2_checkIndex_2214a_1 : decode cJ2_checkIndex_2214a 1 = .ok (.aload_n 1, 1) := by decide +kernel
theorem dJ2_checkIndex_2214a_2 : decode cJ2_checkIndex_2214a 2 = .ok (.invokestatic 48, 3) := by decide +kernel
theorem dJ2_checkIndex_2214a_5 : decode cJ2_checkIndex_2214a 5 = .ok (.invokestatic 414, 3) := by decide +kernel
theorem dJ2_checkIndex_2214a_8 : decode cJ2_checkIndex_2214a 8 = .ok (.return_, 1) := by decide +kernel
theorem dJ3_checkIndex_8e157_0 : decode cJ3_checkIndex_8e157 0 = .ok (.iload_n 0, 1) := by decide +kernel
theorem dJ3_checkIndex_8e157_1 : decode cJ3_checkIndex_8e157 1 = .ok (.ifCond .lt 8, 3) := by decide +kernel
theorem dJ3_checkIndex_8e157_4 : decode cJ3_checkIndex_8e157 4 = .ok (.iload_n 0, 1) := by decide +kernel
theorem dJ3_checkIndex_8e157_5 : decode cJ3_checkIndex_8e157 5 = .ok (.iload_n 1, 1) := by decide +kernel
theorem dJ3_checkIndex_8e157_6 : decode cJ3_checkIndex_8e157 6 = .ok (.if_icmp .lt 10, 3) := by decide +kernel
theorem dJ3_checkIndex_8e157_9 : decode cJ3_checkIndex_8e157 9 = .ok (.aload_n 2, 1) := by decide +kernel
theorem dJ3_checkIndex_8e157_10 : decode cJ3_checkIndex_8e157 10 = .ok (.iload_n 0, 1) := by decide +kernel
theorem dJ3_checkIndex_8e157_11 : decode cJ3_checkIndex_8e157 11 = .ok (.iload_n 1, 1) := by decide +kernel
theorem dJ3_checkIndex_8e157_12 : decode cJ3_checkIndex_8e157 12 = .ok (.invokestatic 95, 3) := by decide +kernel
theorem dJ3_checkIndex_8e157_15 : decode cJ3_checkIndex_8e157 15 = .ok (.athrow, 1) := by decide +kernel
theorem dJ3_checkIndex_8e157_16 : decode cJ3_checkIndex_8e157 16 = .ok (.iload_n 0, 1) := by decide +kernel
theorem dJ3_checkIndex_8e157_17 : decode cJ3_checkIndex_8e157 17 = .ok (.ireturn, 1) := by decide +kernel
