theorem dX5_nearOf_6 : decode cX5_nearOf 6 = .ok (.invokevirtual 54, 3) := by decide +kernel
theorem dX5_nearOf_9 : decode cX5_nearOf 9 = .ok (.aload_n 0, 1) := by decide +kernel
theorem dX5_nearOf_10 : decode cX5_nearOf 10 = .ok (.aload_n 2, 1) := by decide +kernel
theorem dX5_nearOf_11 : decode cX5_nearOf 11 = .ok (.bipush 24, 2) := by decide +kernel
theorem dX5_nearOf_13 : decode cX5_nearOf 13 = .ok (.aload_n 2, 1) := by decide +kernel
theorem dX5_nearOf_14 : decode cX5_nearOf 14 = .ok (.invokevirtual 62, 3) := by decide +kernel
theorem dX5_nearOf_17 : decode cX5_nearOf 17 = .ok (.isub, 1) := by decide +kernel
theorem dX5_nearOf_18 : decode cX5_nearOf 18 = .ok (.invokevirtual 58, 3) := by decide +kernel
theorem dX5_nearOf_21 : decode cX5_nearOf 21 = .ok (.pop, 1) := by decide +kernel
theorem dX5_nearOf_22 : decode cX5_nearOf 22 = .ok (.iconst 0, 1) := by decide +kernel
theorem dX5_nearOf_23 : decode cX5_nearOf 23 = .ok (.istore 4, 2) := by decide +kernel
theorem dX5_nearOf_25 : decode cX5_nearOf 25 = .ok (.iconst 0, 1) := by decide +kernel
theorem dX5_nearOf_26 : decode cX5_nearOf 26 = .ok (.istore 5, 2) := by decide +kernel
theorem dX5_nearOf_28 : decode cX5_nearOf 28 = .ok (.iload 5, 2) := by decide +kernel
theorem dX5_nearOf_30 : decode cX5_nearOf 30 = .ok (.bipush 8, 2) := by decide +kernel
theorem dX5_nearOf_32 : decode cX5_nearOf 32 = .ok (.if_icmp .gt 84, 3) := by decide +kernel
theorem dX5_nearOf_35 : decode cX5_nearOf 35 = .ok (.iconst 0, 1) := by decide +kernel
theorem dX5_nearOf_36 : decode cX5_nearOf 36 = .ok (.istore 6, 2) := by decide +kernel
theorem dX5_nearOf_38 : decode cX5_nearOf 38 = .ok (.iload 6, 2) := by decide +kernel
theorem dX5_nearOf_40 : decode cX5_nearOf 40 = .ok (.bipush 8, 2) := by decide +kernel
theorem dX5_nearOf_42 : decode cX5_nearOf 42 = .ok (.iload 5, 2) := by decide +kernel
theorem dX5_nearOf_44 : decode cX5_nearOf 44 = .ok (.isub, 1) := by decide +kernel
theorem dX5_nearOf_45 : decode cX5_nearOf 45 = .ok (.if_icmp .gt 65, 3) := by decide +kernel
theorem dX5_nearOf_48 : decode cX5_nearOf 48 = .ok (.aload_n 0, 1) := by decide +kernel
theorem dX5_nearOf_49 : decode cX5_nearOf 49 = .ok (.getfield 15, 3) := by decide +kernel
theorem dX5_nearOf_52 : decode cX5_nearOf 52 = .ok (.iload 5, 2) := by decide +kernel
theorem dX5_nearOf_54 : decode cX5_nearOf 54 = .ok (.bipush 25, 2) := by decide +kernel
theorem dX5_nearOf_56 : decode cX5_nearOf 56 = .ok (.imul, 1) := by decide +kernel
theorem dX5_nearOf_57 : decode cX5_nearOf 57 = .ok (.iload 6, 2) := by decide +kernel
theorem dX5_nearOf_59 : decode cX5_nearOf 59 = .ok (.iadd, 1) := by decide +kernel
theorem dX5_nearOf_60 : decode cX5_nearOf 60 = .ok (.iaload, 1) := by decide +kernel
theorem dX5_nearOf_61 : decode cX5_nearOf 61 = .ok (.istore 7, 2) := by decide +kernel
theorem dX5_nearOf_63 : decode cX5_nearOf 63 = .ok (.iload 7, 2) := by decide +kernel
theorem dX5_nearOf_65 : decode cX5_nearOf 65 = .ok (.ifCond .lt 39, 3) := by decide +kernel
theorem dX5_nearOf_68 : decode cX5_nearOf 68 = .ok (.aload_n 0, 1) := by decide +kernel
theorem dX5_nearOf_69 : decode cX5_nearOf 69 = .ok (.invokevirtual 65, 3) := by decide +kernel
theorem dX5_nearOf_72 : decode cX5_nearOf 72 = .ok (.aload_n 0, 1) := by decide +kernel
theorem dX5_nearOf_73 : decode cX5_nearOf 73 = .ok (.getfield 20, 3) := by decide +kernel
theorem dX5_nearOf_76 : decode cX5_nearOf 76 = .ok (.iload 7, 2) := by decide +kernel
theorem dX5_nearOf_78 : decode cX5_nearOf 78 = .ok (.iconst 1, 1) := by decide +kernel
theorem dX5_nearOf_79 : decode cX5_nearOf 79 = .ok (.iastore, 1) := by decide +kernel
theorem dX5_nearOf_80 : decode cX5_nearOf 80 = .ok (.iload 4, 2) := by decide +kernel
theorem dX5_nearOf_82 : decode cX5_nearOf 82 = .ok (.aload_n 0, 1) := by decide +kernel
theorem dX5_nearOf_83 : decode cX5_nearOf 83 = .ok (.getfield 50, 3) := by decide +kernel
theorem dX5_nearOf_86 : decode cX5_nearOf 86 = .ok (.aload_n 0, 1) := by decide +kernel
theorem dX5_nearOf_87 : decode cX5_nearOf 87 = .ok (.getfield 20, 3) := by decide +kernel
theorem dX5_nearOf_90 : decode cX5_nearOf 90 = .ok (.invokevirtual 68, 3) := by decide +kernel
theorem dX5_nearOf_93 : decode cX5_nearOf 93 = .ok (.ifCond .eq 7, 3) := by decide +kernel
theorem dX5_nearOf_96 : decode cX5_nearOf 96 = .ok (.iconst 1, 1) := by decide +kernel
theorem dX5_nearOf_97 : decode cX5_nearOf 97 = .ok (.goto 4, 3) := by decide +kernel
theorem dX5_nearOf_100 : decode cX5_nearOf 100 = .ok (.iconst 0, 1) := by decide +kernel
theorem dX5_nearOf_101 : decode cX5_nearOf 101 = .ok (.iadd, 1) := by decide +kernel
theorem dX5_nearOf_102 : decode cX5_nearOf 102 = .ok (.istore 4, 2) := by decide +kernel
theorem dX5_nearOf_104 : decode cX5_nearOf 104 = .ok (.iinc 6 1, 3) := by decide +kernel
theorem dX5_nearOf_107 : decode cX5_nearOf 107 = .ok (.goto (-69), 3) := by decide +kernel
theorem dX5_nearOf_110 : decode cX5_nearOf 110 = .ok (.iinc 5 1, 3) := by decide +kernel
theorem dX5_nearOf_113 : decode cX5_nearOf 113 = .ok (.goto (-85), 3) := by decide +kernel
theorem dX5_nearOf_116 : decode cX5_nearOf 116 = .ok (.iload 4, 2) := by decide +kernel
theorem dX5_nearOf_118 : decode cX5_nearOf 118 = .ok (.ireturn, 1) := by decide +kernel
theorem dX5_begin_0 : decode cX5_begin 0 = .ok (.aload_n 0, 1) := by decide +kernel
theorem dX5_begin_1 : decode cX5_begin 1 = .ok (.aload_n 1, 1) := by decide +kernel
theorem dX5_begin_2 : decode cX5_begin 2 = .ok (.putfield 26, 3) := by decide +kernel
theorem dX5_begin_5 : decode cX5_begin 5 = .ok (.aload_n 0, 1) := by decide +kernel
theorem dX5_begin_6 : decode cX5_begin 6 = .ok (.iload_n 2, 1) := by decide +kernel
theorem dX5_begin_7 : decode cX5_begin 7 = .ok (.putfield 34, 3) := by decide +kernel
theorem dX5_begin_10 : decode cX5_begin 10 = .ok (.aload_n 0, 1) := by decide +kernel
theorem dX5_begin_11 : decode cX5_begin 11 = .ok (.iload_n 3, 1) := by decide +kernel
theorem dX5_begin_12 : decode cX5_begin 12 = .ok (.putfield 37, 3) := by decide +kernel
theorem dX5_begin_15 : decode cX5_begin 15 = .ok (.aload_n 0, 1) := by decide +kernel
theorem dX5_begin_16 : decode cX5_begin 16 = .ok (.iload 4, 2) := by decide +kernel
theorem dX5_begin_18 : decode cX5_begin 18 = .ok (.putfield 30, 3) := by decide +kernel
theorem dX5_begin_21 : decode cX5_begin 21 = .ok (.aload_n 0, 1) := by decide +kernel
theorem dX5_begin_22 : decode cX5_begin 22 = .ok (.invokevirtual 72, 3) := by decide +kernel
theorem dX5_begin_25 : decode cX5_begin 25 = .ok (.aload_n 0, 1) := by decide +kernel
theorem dX5_begin_26 : decode cX5_begin 26 = .ok (.iconst 0, 1) := by decide +kernel
theorem dX5_begin_27 : decode cX5_begin 27 = .ok (.putfield 47, 3) := by decide +kernel
theorem dX5_begin_30 : decode cX5_begin 30 = .ok (.iconst 0, 1) := by decide +kernel
theorem dX5_begin_31 : decode cX5_begin 31 = .ok (.istore 5, 2) := by decide +kernel
theorem dX5_begin_33 : decode cX5_begin 33 = .ok (.iload 5, 2) := by decide +kernel
theorem dX5_begin_35 : decode cX5_begin 35 = .ok (.bipush 24, 2) := by decide +kernel
theorem dX5_begin_37 : decode cX5_begin 37 = .ok (.if_icmp .gt 119, 3) := by decide +kernel
theorem dX5_begin_40 : decode cX5_begin 40 = .ok (.iconst 0, 1) := by decide +kernel
theorem dX5_begin_41 : decode cX5_begin 41 = .ok (.istore 6, 2) := by decide +kernel
theorem dX5_begin_43 : decode cX5_begin 43 = .ok (.iload 6, 2) := by decide +kernel
theorem dX5_begin_45 : decode cX5_begin 45 = .ok (.bipush 24, 2) := by decide +kernel
theorem dX5_begin_47 : decode cX5_begin 47 = .ok (.iload 5, 2) := by decide +kernel
theorem dX5_begin_49 : decode cX5_begin 49 = .ok (.isub, 1) := by decide +kernel
theorem dX5_begin_50 : decode cX5_begin 50 = .ok (.if_icmp .gt 100, 3) := by decide +kernel
theorem dX5_begin_53 : decode cX5_begin 53 = .ok (.iload 5, 2) := by decide +kernel
theorem dX5_begin_55 : decode cX5_begin 55 = .ok (.iload 6, 2) := by decide +kernel
theorem dX5_begin_57 : decode cX5_begin 57 = .ok (.iadd, 1) := by decide +kernel
theorem dX5_begin_58 : decode cX5_begin 58 = .ok (.aload_n 0, 1) := by decide +kernel
theorem dX5_begin_59 : decode cX5_begin 59 = .ok (.getfield 34, 3) := by decide +kernel
theorem dX5_begin_62 : decode cX5_begin 62 = .ok (.if_icmp .gt 34, 3) := by decide +kernel
theorem dX5_begin_65 : decode cX5_begin 65 = .ok (.iload 5, 2) := by decide +kernel
theorem dX5_begin_67 : decode cX5_begin 67 = .ok (.aload_n 0, 1) := by decide +kernel
theorem dX5_begin_68 : decode cX5_begin 68 = .ok (.getfield 41, 3) := by decide +kernel
theorem dX5_begin_71 : decode cX5_begin 71 = .ok (.if_icmp .lt 12, 3) := by decide +kernel
theorem dX5_begin_74 : decode cX5_begin 74 = .ok (.iload 6, 2) := by decide +kernel
theorem dX5_begin_76 : decode cX5_begin 76 = .ok (.aload_n 0, 1) := by decide +kernel
theorem dX5_begin_77 : decode cX5_begin 77 = .ok (.getfield 44, 3) := by decide +kernel
theorem dX5_begin_80 : decode cX5_begin 80 = .ok (.if_icmp .ge 16, 3) := by decide +kernel
theorem dX5_begin_83 : decode cX5_begin 83 = .ok (.aload_n 0, 1) := by decide +kernel
theorem dX5_begin_84 : decode cX5_begin 84 = .ok (.getfield 47, 3) := by decide +kernel
theorem dX5_begin_87 : decode cX5_begin 87 = .ok (.bipush 94, 2) := by decide +kernel
theorem dX5_begin_89 : decode cX5_begin 89 = .ok (.if_icmp .ge 7, 3) := by decide +kernel
theorem dX5_begin_92 : decode cX5_begin 92 = .ok (.iconst 1, 1) := by decide +kernel
theorem dX5_begin_93 : decode cX5_begin 93 = .ok (.goto 4, 3) := by decide +kernel
theorem dX5_begin_96 : decode cX5_begin 96 = .ok (.iconst 0, 1) := by decide +kernel
theorem dX5_begin_97 : decode cX5_begin 97 = .ok (.istore 7, 2) := by decide +kernel
theorem dX5_begin_99 : decode cX5_begin 99 = .ok (.aload_n 0, 1) := by decide +kernel
theorem dX5_begin_100 : decode cX5_begin 100 = .ok (.getfield 15, 3) := by decide +kernel
theorem dX5_begin_103 : decode cX5_begin 103 = .ok (.iload 5, 2) := by decide +kernel
theorem dX5_begin_105 : decode cX5_begin 105 = .ok (.bipush 25, 2) := by decide +kernel
theorem dX5_begin_107 : decode cX5_begin 107 = .ok (.imul, 1) := by decide +kernel
theorem dX5_begin_108 : decode cX5_begin 108 = .ok (.iload 6, 2) := by decide +kernel
theorem dX5_begin_110 : decode cX5_begin 110 = .ok (.iadd, 1) := by decide +kernel
theorem dX5_begin_111 : decode cX5_begin 111 = .ok (.iload 7, 2) := by decide +kernel
theorem dX5_begin_113 : decode cX5_begin 113 = .ok (.ifCond .eq 10, 3) := by decide +kernel
theorem dX5_begin_116 : decode cX5_begin 116 = .ok (.aload_n 0, 1) := by decide +kernel
theorem dX5_begin_117 : decode cX5_begin 117 = .ok (.getfield 47, 3) := by decide +kernel
theorem dX5_begin_120 : decode cX5_begin 120 = .ok (.goto 4, 3) := by decide +kernel
theorem dX5_begin_123 : decode cX5_begin 123 = .ok (.iconst (-1), 1) := by decide +kernel
theorem dX5_begin_124 : decode cX5_begin 124 = .ok (.iastore, 1) := by decide +kernel
theorem dX5_begin_125 : decode cX5_begin 125 = .ok (.aload_n 0, 1) := by decide +kernel
theorem dX5_begin_126 : decode cX5_begin 126 = .ok (.dup, 1) := by decide +kernel
theorem dX5_begin_127 : decode cX5_begin 127 = .ok (.getfield 47, 3) := by decide +kernel
theorem dX5_begin_130 : decode cX5_begin 130 = .ok (.iload 7, 2) := by decide +kernel
theorem dX5_begin_132 : decode cX5_begin 132 = .ok (.ifCond .eq 7, 3) := by decide +kernel
theorem dX5_begin_135 : decode cX5_begin 135 = .ok (.iconst 1, 1) := by decide +kernel
theorem dX5_begin_136 : decode cX5_begin 136 = .ok (.goto 4, 3) := by decide +kernel
theorem dX5_begin_139 : decode cX5_begin 139 = .ok (.iconst 0, 1) := by decide +kernel
theorem dX5_begin_140 : decode cX5_begin 140 = .ok (.iadd, 1) := by decide +kernel
theorem dX5_begin_141 : decode cX5_begin 141 = .ok (.putfield 47, 3) := by decide +kernel
theorem dX5_begin_144 : decode cX5_begin 144 = .ok (.iinc 6 1, 3) := by decide +kernel
theorem dX5_begin_147 : decode cX5_begin 147 = .ok (.goto (-104), 3) := by decide +kernel
theorem dX5_begin_150 : decode cX5_begin 150 = .ok (.iinc 5 1, 3) := by decide +kernel
theorem dX5_begin_153 : decode cX5_begin 153 = .ok (.goto (-120), 3) := by decide +kernel
theorem dX5_begin_156 : decode cX5_begin 156 = .ok (.aload_n 0, 1) := by decide +kernel
theorem dX5_begin_157 : decode cX5_begin 157 = .ok (.getfield 50, 3) := by decide +kernel
theorem dX5_begin_160 : decode cX5_begin 160 = .ok (.aload_n 0, 1) := by decide +kernel
theorem dX5_begin_161 : decode cX5_begin 161 = .ok (.getfield 47, 3) := by decide +kernel
theorem dX5_begin_164 : decode cX5_begin 164 = .ok (.aload_n 0, 1) := by decide +kernel
theorem dX5_begin_165 : decode cX5_begin 165 = .ok (.getfield 47, 3) := by decide +kernel
theorem dX5_begin_168 : decode cX5_begin 168 = .ok (.aload_n 0, 1) := by decide +kernel
theorem dX5_begin_169 : decode cX5_begin 169 = .ok (.getfield 30, 3) := by decide +kernel
theorem dX5_begin_172 : decode cX5_begin 172 = .ok (.invokevirtual 75, 3) := by decide +kernel
theorem dX5_begin_175 : decode cX5_begin 175 = .ok (.return_, 1) := by decide +kernel
theorem dX5_findLead_0 : decode cX5_findLead 0 = .ok (.aload_n 0, 1) := by decide +kernel
theorem dX5_findLead_1 : decode cX5_findLead 1 = .ok (.iconst 0, 1) := by decide +kernel
theorem dX5_findLead_2 : decode cX5_findLead 2 = .ok (.putfield 41, 3) := by decide +kernel
theorem dX5_findLead_5 : decode cX5_findLead 5 = .ok (.aload_n 0, 1) := by decide +kernel
theorem dX5_findLead_6 : decode cX5_findLead 6 = .ok (.iconst 0, 1) := by decide +kernel
theorem dX5_findLead_7 : decode cX5_findLead 7 = .ok (.putfield 44, 3) := by decide +kernel
theorem dX5_findLead_10 : decode cX5_findLead 10 = .ok (.iconst 0, 1) := by decide +kernel
theorem dX5_findLead_11 : decode cX5_findLead 11 = .ok (.istore_n 1, 1) := by decide +kernel
theorem dX5_findLead_12 : decode cX5_findLead 12 = .ok (.iload_n 1, 1) := by decide +kernel
theorem dX5_findLead_13 : decode cX5_findLead 13 = .ok (.iconst 4, 1) := by decide +kernel
theorem dX5_findLead_14 : decode cX5_findLead 14 = .ok (.if_icmp .gt 50, 3) := by decide +kernel
theorem dX5_findLead_17 : decode cX5_findLead 17 = .ok (.aload_n 0, 1) := by decide +kernel
theorem dX5_findLead_18 : decode cX5_findLead 18 = .ok (.getfield 37, 3) := by decide +kernel
theorem dX5_findLead_21 : decode cX5_findLead 21 = .ok (.ifCond .eq 7, 3) := by decide +kernel
theorem dX5_findLead_24 : decode cX5_findLead 24 = .ok (.iload_n 1, 1) := by decide +kernel
theorem dX5_findLead_25 : decode cX5_findLead 25 = .ok (.goto 6, 3) := by decide +kernel
theorem dX5_findLead_28 : decode cX5_findLead 28 = .ok (.iconst 4, 1) := by decide +kernel
theorem dX5_findLead_29 : decode cX5_findLead 29 = .ok (.iload_n 1, 1) := by decide +kernel
theorem dX5_findLead_30 : decode cX5_findLead 30 = .ok (.isub, 1) := by decide +kernel
theorem dX5_findLead_31 : decode cX5_findLead 31 = .ok (.istore_n 2, 1) := by decide +kernel
theorem dX5_findLead_32 : decode cX5_findLead 32 = .ok (.aload_n 0, 1) := by decide +kernel
theorem dX5_findLead_33 : decode cX5_findLead 33 = .ok (.getfield 26, 3) := by decide +kernel
theorem dX5_findLead_36 : decode cX5_findLead 36 = .ok (.iload_n 2, 1) := by decide +kernel
theorem dX5_findLead_37 : decode cX5_findLead 37 = .ok (.invokevirtual 78, 3) := by decide +kernel
theorem dX5_findLead_40 : decode cX5_findLead 40 = .ok (.istore_n 3, 1) := by decide +kernel
theorem dX5_findLead_41 : decode cX5_findLead 41 = .ok (.iload_n 3, 1) := by decide +kernel
theorem dX5_findLead_42 : decode cX5_findLead 42 = .ok (.ifCond .lt 16, 3) := by decide +kernel
theorem dX5_findLead_45 : decode cX5_findLead 45 = .ok (.aload_n 0, 1) := by decide +kernel
theorem dX5_findLead_46 : decode cX5_findLead 46 = .ok (.iload_n 3, 1) := by decide +kernel
theorem dX5_findLead_47 : decode cX5_findLead 47 = .ok (.putfield 41, 3) := by decide +kernel
theorem dX5_findLead_50 : decode cX5_findLead 50 = .ok (.aload_n 0, 1) := by decide +kernel
theorem dX5_findLead_51 : decode cX5_findLead 51 = .ok (.iload_n 2, 1) := by decide +kernel
theorem dX5_findLead_52 : decode cX5_findLead 52 = .ok (.iload_n 3, 1) := by decide +kernel
theorem dX5_findLead_53 : decode cX5_findLead 53 = .ok (.isub, 1) := by decide +kernel
theorem dX5_findLead_54 : decode cX5_findLead 54 = .ok (.putfield 44, 3) := by decide +kernel
theorem dX5_findLead_57 : decode cX5_findLead 57 = .ok (.return_, 1) := by decide +kernel
theorem dX5_findLead_58 : decode cX5_findLead 58 = .ok (.iinc 1 1, 3) := by decide +kernel
theorem dX5_findLead_61 : decode cX5_findLead 61 = .ok (.goto (-49), 3) := by decide +kernel
theorem dX5_findLead_64 : decode cX5_findLead 64 = .ok (.return_, 1) := by decide +kernel
theorem dX5_addMultiples_0 : decode cX5_addMultiples 0 = .ok (.iconst 0, 1) := by decide +kernel
theorem dX5_addMultiples_1 : decode cX5_addMultiples 1 = .ok (.istore_n 3, 1) := by decide +kernel
theorem dX5_addMultiples_2 : decode cX5_addMultiples 2 = .ok (.iconst 0, 1) := by decide +kernel
theorem dX5_addMultiples_3 : decode cX5_addMultiples 3 = .ok (.istore 4, 2) := by decide +kernel
theorem dX5_addMultiples_5 : decode cX5_addMultiples 5 = .ok (.iload 4, 2) := by decide +kernel
theorem dX5_addMultiples_7 : decode cX5_addMultiples 7 = .ok (.iload_n 2, 1) := by decide +kernel
theorem dX5_addMultiples_8 : decode cX5_addMultiples 8 = .ok (.if_icmp .gt 88, 3) := by decide +kernel
theorem dX5_addMultiples_11 : decode cX5_addMultiples 11 = .ok (.iconst 0, 1) := by decide +kernel
theorem dX5_addMultiples_12 : decode cX5_addMultiples 12 = .ok (.istore 5, 2) := by decide +kernel
theorem dX5_addMultiples_14 : decode cX5_addMultiples 14 = .ok (.iload 5, 2) := by decide +kernel
theorem dX5_addMultiples_16 : decode cX5_addMultiples 16 = .ok (.iload_n 2, 1) := by decide +kernel
theorem dX5_addMultiples_17 : decode cX5_addMultiples 17 = .ok (.iload 4, 2) := by decide +kernel
theorem dX5_addMultiples_19 : decode cX5_addMultiples 19 = .ok (.isub, 1) := by decide +kernel
theorem dX5_addMultiples_20 : decode cX5_addMultiples 20 = .ok (.if_icmp .gt 70, 3) := by decide +kernel
theorem dX5_addMultiples_23 : decode cX5_addMultiples 23 = .ok (.iload 4, 2) := by decide +kernel
theorem dX5_addMultiples_25 : decode cX5_addMultiples 25 = .ok (.bipush 24, 2) := by decide +kernel
theorem dX5_addMultiples_27 : decode cX5_addMultiples 27 = .ok (.if_icmp .gt 63, 3) := by decide +kernel
theorem dX5_addMultiples_30 : decode cX5_addMultiples 30 = .ok (.iload 5, 2) := by decide +kernel
theorem dX5_addMultiples_32 : decode cX5_addMultiples 32 = .ok (.bipush 24, 2) := by decide +kernel
theorem dX5_addMultiples_34 : decode cX5_addMultiples 34 = .ok (.iload 4, 2) := by decide +kernel
theorem dX5_addMultiples_36 : decode cX5_addMultiples 36 = .ok (.isub, 1) := by decide +kernel
theorem dX5_addMultiples_37 : decode cX5_addMultiples 37 = .ok (.if_icmp .gt 53, 3) := by decide +kernel
theorem dX5_addMultiples_40 : decode cX5_addMultiples 40 = .ok (.aload_n 0, 1) := by decide +kernel
theorem dX5_addMultiples_41 : decode cX5_addMultiples 41 = .ok (.getfield 15, 3) := by decide +kernel
theorem dX5_addMultiples_44 : decode cX5_addMultiples 44 = .ok (.iload 4, 2) := by decide +kernel
theorem dX5_addMultiples_46 : decode cX5_addMultiples 46 = .ok (.bipush 25, 2) := by decide +kernel
theorem dX5_addMultiples_48 : decode cX5_addMultiples 48 = .ok (.imul, 1) := by decide +kernel
theorem dX5_addMultiples_49 : decode cX5_addMultiples 49 = .ok (.iload 5, 2) := by decide +kernel
theorem dX5_addMultiples_51 : decode cX5_addMultiples 51 = .ok (.iadd, 1) := by decide +kernel
theorem dX5_addMultiples_52 : decode cX5_addMultiples 52 = .ok (.iaload, 1) := by decide +kernel
theorem dX5_addMultiples_53 : decode cX5_addMultiples 53 = .ok (.ifCond .lt 31, 3) := by decide +kernel
theorem dX5_addMultiples_56 : decode cX5_addMultiples 56 = .ok (.aload_n 0, 1) := by decide +kernel
theorem dX5_addMultiples_57 : decode cX5_addMultiples 57 = .ok (.aload_n 1, 1) := by decide +kernel
theorem dX5_addMultiples_58 : decode cX5_addMultiples 58 = .ok (.iload 4, 2) := by decide +kernel
theorem dX5_addMultiples_60 : decode cX5_addMultiples 60 = .ok (.iload 5, 2) := by decide +kernel
theorem dX5_addMultiples_62 : decode cX5_addMultiples 62 = .ok (.invokevirtual 82, 3) := by decide +kernel
theorem dX5_addMultiples_65 : decode cX5_addMultiples 65 = .ok (.aload_n 0, 1) := by decide +kernel
theorem dX5_addMultiples_66 : decode cX5_addMultiples 66 = .ok (.invokevirtual 86, 3) := by decide +kernel
theorem dX5_addMultiples_69 : decode cX5_addMultiples 69 = .ok (.iload_n 3, 1) := by decide +kernel
theorem dX5_addMultiples_70 : decode cX5_addMultiples 70 = .ok (.aload_n 0, 1) := by decide +kernel
theorem dX5_addMultiples_71 : decode cX5_addMultiples 71 = .ok (.invokevirtual 89, 3) := by decide +kernel
theorem dX5_addMultiples_74 : decode cX5_addMultiples 74 = .ok (.ifCond .eq 7, 3) := by decide +kernel
theorem dX5_addMultiples_77 : decode cX5_addMultiples 77 = .ok (.iconst 1, 1) := by decide +kernel
theorem dX5_addMultiples_78 : decode cX5_addMultiples 78 = .ok (.goto 4, 3) := by decide +kernel
theorem dX5_addMultiples_81 : decode cX5_addMultiples 81 = .ok (.iconst 0, 1) := by decide +kernel
theorem dX5_addMultiples_82 : decode cX5_addMultiples 82 = .ok (.iadd, 1) := by decide +kernel
theorem dX5_addMultiples_83 : decode cX5_addMultiples 83 = .ok (.istore_n 3, 1) := by decide +kernel
theorem dX5_addMultiples_84 : decode cX5_addMultiples 84 = .ok (.iinc 5 1, 3) := by decide +kernel
theorem dX5_addMultiples_87 : decode cX5_addMultiples 87 = .ok (.goto (-73), 3) := by decide +kernel
theorem dX5_addMultiples_90 : decode cX5_addMultiples 90 = .ok (.iinc 4 1, 3) := by decide +kernel
theorem dX5_addMultiples_93 : decode cX5_addMultiples 93 = .ok (.goto (-88), 3) := by decide +kernel
theorem dX5_addMultiples_96 : decode cX5_addMultiples 96 = .ok (.iload_n 3, 1) := by decide +kernel
theorem dX5_addMultiples_97 : decode cX5_addMultiples 97 = .ok (.ireturn, 1) := by decide +kernel
theorem dX5_setRow_0 : decode cX5_setRow 0 = .ok (.iconst 0, 1) := by decide +kernel
theorem dX5_setRow_1 : decode cX5_setRow 1 = .ok (.istore 4, 2) := by decide +kernel
theorem dX5_setRow_3 : decode cX5_setRow 3 = .ok (.iload 4, 2) := by decide +kernel
theorem dX5_setRow_5 : decode cX5_setRow 5 = .ok (.aload_n 0, 1) := by decide +kernel
theorem dX5_setRow_6 : decode cX5_setRow 6 = .ok (.getfield 11, 3) := by decide +kernel
theorem dX5_setRow_9 : decode cX5_setRow 9 = .ok (.arraylength, 1) := by decide +kernel
theorem dX5_setRow_10 : decode cX5_setRow 10 = .ok (.if_icmp .ge 17, 3) := by decide +kernel
theorem dX5_setRow_13 : decode cX5_setRow 13 = .ok (.aload_n 0, 1) := by decide +kernel
theorem dX5_setRow_14 : decode cX5_setRow 14 = .ok (.getfield 11, 3) := by decide +kernel
theorem dX5_setRow_17 : decode cX5_setRow 17 = .ok (.iload 4, 2) := by decide +kernel
theorem dX5_setRow_19 : decode cX5_setRow 19 = .ok (.iconst 0, 1) := by decide +kernel
theorem dX5_setRow_20 : decode cX5_setRow 20 = .ok (.iastore, 1) := by decide +kernel
theorem dX5_setRow_21 : decode cX5_setRow 21 = .ok (.iinc 4 1, 3) := by decide +kernel
theorem dX5_setRow_24 : decode cX5_setRow 24 = .ok (.goto (-21), 3) := by decide +kernel
theorem dX5_setRow_27 : decode cX5_setRow 27 = .ok (.aload_n 0, 1) := by decide +kernel
theorem dX5_setRow_28 : decode cX5_setRow 28 = .ok (.aload_n 1, 1) := by decide +kernel
theorem dX5_setRow_29 : decode cX5_setRow 29 = .ok (.iload_n 2, 1) := by decide +kernel
theorem dX5_setRow_30 : decode cX5_setRow 30 = .ok (.iload_n 3, 1) := by decide +kernel
theorem dX5_setRow_31 : decode cX5_setRow 31 = .ok (.iconst 1, 1) := by decide +kernel
theorem dX5_setRow_32 : decode cX5_setRow 32 = .ok (.invokevirtual 93, 3) := by decide +kernel
theorem dX5_setRow_35 : decode cX5_setRow 35 = .ok (.return_, 1) := by decide +kernel
theorem dX5_addToRow_0 : decode cX5_addToRow 0 = .ok (.aload_n 0, 1) := by decide +kernel
theorem dX5_addToRow_1 : decode cX5_addToRow 1 = .ok (.getfield 30, 3) := by decide +kernel
theorem dX5_addToRow_4 : decode cX5_addToRow 4 = .ok (.iconst 2, 1) := by decide +kernel
theorem dX5_addToRow_5 : decode cX5_addToRow 5 = .ok (.if_icmp .lt 11, 3) := by decide +kernel
theorem dX5_addToRow_8 : decode cX5_addToRow 8 = .ok (.iload_n 2, 1) := by decide +kernel
theorem dX5_addToRow_9 : decode cX5_addToRow 9 = .ok (.ifCond .lt 7, 3) := by decide +kernel
theorem dX5_addToRow_12 : decode cX5_addToRow 12 = .ok (.iload_n 3, 1) := by decide +kernel
theorem dX5_addToRow_13 : decode cX5_addToRow 13 = .ok (.ifCond .ge 4, 3) := by decide +kernel
theorem dX5_addToRow_16 : decode cX5_addToRow 16 = .ok (.return_, 1) := by decide +kernel
theorem dX5_addToRow_17 : decode cX5_addToRow 17 = .ok (.iconst 0, 1) := by decide +kernel
theorem dX5_addToRow_18 : decode cX5_addToRow 18 = .ok (.istore 5, 2) := by decide +kernel
theorem dX5_addToRow_20 : decode cX5_addToRow 20 = .ok (.iload 5, 2) := by decide +kernel
theorem dX5_addToRow_22 : decode cX5_addToRow 22 = .ok (.iconst 4, 1) := by decide +kernel
theorem dX5_addToRow_23 : decode cX5_addToRow 23 = .ok (.if_icmp .gt 112, 3) := by decide +kernel
theorem dX5_addToRow_26 : decode cX5_addToRow 26 = .ok (.iload 5, 2) := by decide +kernel
theorem dX5_addToRow_28 : decode cX5_addToRow 28 = .ok (.iload_n 2, 1) := by decide +kernel
theorem dX5_addToRow_29 : decode cX5_addToRow 29 = .ok (.iadd, 1) := by decide +kernel
theorem dX5_addToRow_30 : decode cX5_addToRow 30 = .ok (.aload_n 0, 1) := by decide +kernel
theorem dX5_addToRow_31 : decode cX5_addToRow 31 = .ok (.getfield 34, 3) := by decide +kernel
theorem dX5_addToRow_34 : decode cX5_addToRow 34 = .ok (.if_icmp .gt 101, 3) := by decide +kernel
theorem dX5_addToRow_37 : decode cX5_addToRow 37 = .ok (.iconst 0, 1) := by decide +kernel
theorem dX5_addToRow_38 : decode cX5_addToRow 38 = .ok (.istore 6, 2) := by decide +kernel
theorem dX5_addToRow_40 : decode cX5_addToRow 40 = .ok (.iload 6, 2) := by decide +kernel
theorem dX5_addToRow_42 : decode cX5_addToRow 42 = .ok (.iconst 4, 1) := by decide +kernel
theorem dX5_addToRow_43 : decode cX5_addToRow 43 = .ok (.iload 5, 2) := by decide +kernel
theorem dX5_addToRow_45 : decode cX5_addToRow 45 = .ok (.isub, 1) := by decide +kernel
theorem dX5_addToRow_46 : decode cX5_addToRow 46 = .ok (.if_icmp .gt 83, 3) := by decide +kernel
theorem dX5_addToRow_49 : decode cX5_addToRow 49 = .ok (.iload 5, 2) := by decide +kernel
theorem dX5_addToRow_51 : decode cX5_addToRow 51 = .ok (.iload_n 2, 1) := by decide +kernel
theorem dX5_addToRow_52 : decode cX5_addToRow 52 = .ok (.iadd, 1) := by decide +kernel
theorem dX5_addToRow_53 : decode cX5_addToRow 53 = .ok (.iload 6, 2) := by decide +kernel
theorem dX5_addToRow_55 : decode cX5_addToRow 55 = .ok (.iadd, 1) := by decide +kernel
theorem dX5_addToRow_56 : decode cX5_addToRow 56 = .ok (.iload_n 3, 1) := by decide +kernel
theorem dX5_addToRow_57 : decode cX5_addToRow 57 = .ok (.iadd, 1) := by decide +kernel
theorem dX5_addToRow_58 : decode cX5_addToRow 58 = .ok (.aload_n 0, 1) := by decide +kernel
theorem dX5_addToRow_59 : decode cX5_addToRow 59 = .ok (.getfield 34, 3) := by decide +kernel
theorem dX5_addToRow_62 : decode cX5_addToRow 62 = .ok (.if_icmp .gt 67, 3) := by decide +kernel
theorem dX5_addToRow_65 : decode cX5_addToRow 65 = .ok (.aload_n 1, 1) := by decide +kernel
theorem dX5_addToRow_66 : decode cX5_addToRow 66 = .ok (.getfield 97, 3) := by decide +kernel
theorem dX5_addToRow_69 : decode cX5_addToRow 69 = .ok (.iload 5, 2) := by decide +kernel
theorem dX5_addToRow_71 : decode cX5_addToRow 71 = .ok (.iconst 5, 1) := by decide +kernel
theorem dX5_addToRow_72 : decode cX5_addToRow 72 = .ok (.imul, 1) := by decide +kernel
theorem dX5_addToRow_73 : decode cX5_addToRow 73 = .ok (.iload 6, 2) := by decide +kernel
theorem dX5_addToRow_75 : decode cX5_addToRow 75 = .ok (.iadd, 1) := by decide +kernel
theorem dX5_addToRow_76 : decode cX5_addToRow 76 = .ok (.iaload, 1) := by decide +kernel
theorem dX5_addToRow_77 : decode cX5_addToRow 77 = .ok (.istore 7, 2) := by decide +kernel
theorem dX5_addToRow_79 : decode cX5_addToRow 79 = .ok (.iload 7, 2) := by decide +kernel
theorem dX5_addToRow_81 : decode cX5_addToRow 81 = .ok (.ifCond .eq 42, 3) := by decide +kernel
theorem dX5_addToRow_84 : decode cX5_addToRow 84 = .ok (.iload 5, 2) := by decide +kernel
theorem dX5_addToRow_86 : decode cX5_addToRow 86 = .ok (.iload_n 2, 1) := by decide +kernel
theorem dX5_addToRow_87 : decode cX5_addToRow 87 = .ok (.iadd, 1) := by decide +kernel
theorem dX5_addToRow_88 : decode cX5_addToRow 88 = .ok (.bipush 25, 2) := by decide +kernel
theorem dX5_addToRow_90 : decode cX5_addToRow 90 = .ok (.imul, 1) := by decide +kernel
theorem dX5_addToRow_91 : decode cX5_addToRow 91 = .ok (.iload 6, 2) := by decide +kernel
theorem dX5_addToRow_93 : decode cX5_addToRow 93 = .ok (.iadd, 1) := by decide +kernel
theorem dX5_addToRow_94 : decode cX5_addToRow 94 = .ok (.iload_n 3, 1) := by decide +kernel
theorem dX5_addToRow_95 : decode cX5_addToRow 95 = .ok (.iadd, 1) := by decide +kernel
theorem dX5_addToRow_96 : decode cX5_addToRow 96 = .ok (.istore 8, 2) := by decide +kernel
theorem dX5_addToRow_98 : decode cX5_addToRow 98 = .ok (.aload_n 0, 1) := by decide +kernel
theorem dX5_addToRow_99 : decode cX5_addToRow 99 = .ok (.getfield 11, 3) := by decide +kernel
theorem dX5_addToRow_102 : decode cX5_addToRow 102 = .ok (.iload 8, 2) := by decide +kernel
theorem dX5_addToRow_104 : decode cX5_addToRow 104 = .ok (.aload_n 0, 1) := by decide +kernel
theorem dX5_addToRow_105 : decode cX5_addToRow 105 = .ok (.getfield 11, 3) := by decide +kernel
theorem dX5_addToRow_108 : decode cX5_addToRow 108 = .ok (.iload 8, 2) := by decide +kernel
theorem dX5_addToRow_110 : decode cX5_addToRow 110 = .ok (.iaload, 1) := by decide +kernel
theorem dX5_addToRow_111 : decode cX5_addToRow 111 = .ok (.iload 4, 2) := by decide +kernel
theorem dX5_addToRow_113 : decode cX5_addToRow 113 = .ok (.iload 7, 2) := by decide +kernel
theorem dX5_addToRow_115 : decode cX5_addToRow 115 = .ok (.imul, 1) := by decide +kernel
theorem dX5_addToRow_116 : decode cX5_addToRow 116 = .ok (.iadd, 1) := by decide +kernel
theorem dX5_addToRow_117 : decode cX5_addToRow 117 = .ok (.aload_n 0, 1) := by decide +kernel
theorem dX5_addToRow_118 : decode cX5_addToRow 118 = .ok (.getfield 30, 3) := by decide +kernel
theorem dX5_addToRow_121 : decode cX5_addToRow 121 = .ok (.irem, 1) := by decide +kernel
theorem dX5_addToRow_122 : decode cX5_addToRow 122 = .ok (.iastore, 1) := by decide +kernel
theorem dX5_addToRow_123 : decode cX5_addToRow 123 = .ok (.iinc 6 1, 3) := by decide +kernel
theorem dX5_addToRow_126 : decode cX5_addToRow 126 = .ok (.goto (-86), 3) := by decide +kernel
theorem dX5_addToRow_129 : decode cX5_addToRow 129 = .ok (.iinc 5 1, 3) := by decide +kernel
theorem dX5_addToRow_132 : decode cX5_addToRow 132 = .ok (.goto (-112), 3) := by decide +kernel
theorem dX5_addToRow_135 : decode cX5_addToRow 135 = .ok (.return_, 1) := by decide +kernel
theorem dX5_reduceRow_0 : decode cX5_reduceRow 0 = .ok (.aload_n 0, 1) := by decide +kernel
theorem dX5_reduceRow_1 : decode cX5_reduceRow 1 = .ok (.getfield 26, 3) := by decide +kernel
theorem dX5_reduceRow_4 : decode cX5_reduceRow 4 = .ok (.aload_n 0, 1) := by decide +kernel
theorem dX5_reduceRow_5 : decode cX5_reduceRow 5 = .ok (.getfield 41, 3) := by decide +kernel
theorem dX5_reduceRow_8 : decode cX5_reduceRow 8 = .ok (.aload_n 0, 1) := by decide +kernel
theorem dX5_reduceRow_9 : decode cX5_reduceRow 9 = .ok (.getfield 44, 3) := by decide +kernel
theorem dX5_reduceRow_12 : decode cX5_reduceRow 12 = .ok (.invokevirtual 100, 3) := by decide +kernel
theorem dX5_reduceRow_15 : decode cX5_reduceRow 15 = .ok (.aload_n 0, 1) := by decide +kernel
theorem dX5_reduceRow_16 : decode cX5_reduceRow 16 = .ok (.getfield 30, 3) := by decide +kernel
theorem dX5_reduceRow_19 : decode cX5_reduceRow 19 = .ok (.invokestatic 104, 3) := by decide +kernel
theorem dX5_reduceRow_22 : decode cX5_reduceRow 22 = .ok (.istore_n 1, 1) := by decide +kernel
theorem dX5_reduceRow_23 : decode cX5_reduceRow 23 = .ok (.iconst 0, 1) := by decide +kernel
theorem dX5_reduceRow_24 : decode cX5_reduceRow 24 = .ok (.istore_n 2, 1) := by decide +kernel
theorem dX5_reduceRow_25 : decode cX5_reduceRow 25 = .ok (.iload_n 2, 1) := by decide +kernel
theorem dX5_reduceRow_26 : decode cX5_reduceRow 26 = .ok (.aload_n 0, 1) := by decide +kernel
theorem dX5_reduceRow_27 : decode cX5_reduceRow 27 = .ok (.getfield 34, 3) := by decide +kernel
theorem dX5_reduceRow_30 : decode cX5_reduceRow 30 = .ok (.if_icmp .gt 112, 3) := by decide +kernel
theorem dX5_reduceRow_33 : decode cX5_reduceRow 33 = .ok (.aload_n 0, 1) := by decide +kernel
theorem dX5_reduceRow_34 : decode cX5_reduceRow 34 = .ok (.getfield 37, 3) := by decide +kernel
theorem dX5_reduceRow_37 : decode cX5_reduceRow 37 = .ok (.ifCond .eq 7, 3) := by decide +kernel
theorem dX5_reduceRow_40 : decode cX5_reduceRow 40 = .ok (.iload_n 2, 1) := by decide +kernel
theorem dX5_reduceRow_41 : decode cX5_reduceRow 41 = .ok (.goto 9, 3) := by decide +kernel
theorem dX5_reduceRow_44 : decode cX5_reduceRow 44 = .ok (.aload_n 0, 1) := by decide +kernel
theorem dX5_reduceRow_45 : decode cX5_reduceRow 45 = .ok (.getfield 34, 3) := by decide +kernel
theorem dX5_reduceRow_48 : decode cX5_reduceRow 48 = .ok (.iload_n 2, 1) := by decide +kernel
theorem dX5_reduceRow_49 : decode cX5_reduceRow 49 = .ok (.isub, 1) := by decide +kernel
theorem dX5_reduceRow_50 : decode cX5_reduceRow 50 = .ok (.istore_n 3, 1) := by decide +kernel
theorem dX5_reduceRow_51 : decode cX5_reduceRow 51 = .ok (.iload_n 3, 1) := by decide +kernel
theorem dX5_reduceRow_52 : decode cX5_reduceRow 52 = .ok (.aload_n 0, 1) := by decide +kernel
theorem dX5_reduceRow_53 : decode cX5_reduceRow 53 = .ok (.getfield 44, 3) := by decide +kernel
theorem dX5_reduceRow_56 : decode cX5_reduceRow 56 = .ok (.isub, 1) := by decide +kernel
theorem dX5_reduceRow_57 : decode cX5_reduceRow 57 = .ok (.istore 4, 2) := by decide +kernel
theorem dX5_reduceRow_59 : decode cX5_reduceRow 59 = .ok (.iload 4, 2) := by decide +kernel
theorem dX5_reduceRow_61 : decode cX5_reduceRow 61 = .ok (.aload_n 0, 1) := by decide +kernel
theorem dX5_reduceRow_62 : decode cX5_reduceRow 62 = .ok (.getfield 41, 3) := by decide +kernel
theorem dX5_reduceRow_65 : decode cX5_reduceRow 65 = .ok (.if_icmp .lt 71, 3) := by decide +kernel
theorem dX5_reduceRow_68 : decode cX5_reduceRow 68 = .ok (.aload_n 0, 1) := by decide +kernel
theorem dX5_reduceRow_69 : decode cX5_reduceRow 69 = .ok (.getfield 11, 3) := by decide +kernel
theorem dX5_reduceRow_72 : decode cX5_reduceRow 72 = .ok (.iload 4, 2) := by decide +kernel
theorem dX5_reduceRow_74 : decode cX5_reduceRow 74 = .ok (.bipush 25, 2) := by decide +kernel
theorem dX5_reduceRow_76 : decode cX5_reduceRow 76 = .ok (.imul, 1) := by decide +kernel
theorem dX5_reduceRow_77 : decode cX5_reduceRow 77 = .ok (.iload_n 3, 1) := by decide +kernel
theorem dX5_reduceRow_78 : decode cX5_reduceRow 78 = .ok (.iadd, 1) := by decide +kernel
theorem dX5_reduceRow_79 : decode cX5_reduceRow 79 = .ok (.iload 4, 2) := by decide +kernel
theorem dX5_reduceRow_81 : decode cX5_reduceRow 81 = .ok (.isub, 1) := by decide +kernel
theorem dX5_reduceRow_82 : decode cX5_reduceRow 82 = .ok (.iaload, 1) := by decide +kernel
theorem dX5_reduceRow_83 : decode cX5_reduceRow 83 = .ok (.istore 5, 2) := by decide +kernel
theorem dX5_reduceRow_85 : decode cX5_reduceRow 85 = .ok (.iload 5, 2) := by decide +kernel
theorem dX5_reduceRow_87 : decode cX5_reduceRow 87 = .ok (.ifCond .eq 43, 3) := by decide +kernel
theorem dX5_reduceRow_90 : decode cX5_reduceRow 90 = .ok (.iload 5, 2) := by decide +kernel
theorem dX5_reduceRow_92 : decode cX5_reduceRow 92 = .ok (.ineg, 1) := by decide +kernel
theorem dX5_reduceRow_93 : decode cX5_reduceRow 93 = .ok (.iload_n 1, 1) := by decide +kernel
theorem dX5_reduceRow_94 : decode cX5_reduceRow 94 = .ok (.imul, 1) := by decide +kernel
theorem dX5_reduceRow_95 : decode cX5_reduceRow 95 = .ok (.aload_n 0, 1) := by decide +kernel
theorem dX5_reduceRow_96 : decode cX5_reduceRow 96 = .ok (.getfield 30, 3) := by decide +kernel
theorem dX5_reduceRow_99 : decode cX5_reduceRow 99 = .ok (.invokestatic 107, 3) := by decide +kernel
theorem dX5_reduceRow_102 : decode cX5_reduceRow 102 = .ok (.istore 6, 2) := by decide +kernel
theorem dX5_reduceRow_104 : decode cX5_reduceRow 104 = .ok (.aload_n 0, 1) := by decide +kernel
theorem dX5_reduceRow_105 : decode cX5_reduceRow 105 = .ok (.aload_n 0, 1) := by decide +kernel
theorem dX5_reduceRow_106 : decode cX5_reduceRow 106 = .ok (.getfield 26, 3) := by decide +kernel
theorem dX5_reduceRow_109 : decode cX5_reduceRow 109 = .ok (.iload 4, 2) := by decide +kernel
theorem dX5_reduceRow_111 : decode cX5_reduceRow 111 = .ok (.aload_n 0, 1) := by decide +kernel
theorem dX5_reduceRow_112 : decode cX5_reduceRow 112 = .ok (.getfield 41, 3) := by decide +kernel
theorem dX5_reduceRow_115 : decode cX5_reduceRow 115 = .ok (.isub, 1) := by decide +kernel
theorem dX5_reduceRow_116 : decode cX5_reduceRow 116 = .ok (.iload_n 3, 1) := by decide +kernel
theorem dX5_reduceRow_117 : decode cX5_reduceRow 117 = .ok (.iload 4, 2) := by decide +kernel
theorem dX5_reduceRow_119 : decode cX5_reduceRow 119 = .ok (.isub, 1) := by decide +kernel
theorem dX5_reduceRow_120 : decode cX5_reduceRow 120 = .ok (.aload_n 0, 1) := by decide +kernel
theorem dX5_reduceRow_121 : decode cX5_reduceRow 121 = .ok (.getfield 44, 3) := by decide +kernel
theorem dX5_reduceRow_124 : decode cX5_reduceRow 124 = .ok (.isub, 1) := by decide +kernel
theorem dX5_reduceRow_125 : decode cX5_reduceRow 125 = .ok (.iload 6, 2) := by decide +kernel
theorem dX5_reduceRow_127 : decode cX5_reduceRow 127 = .ok (.invokevirtual 93, 3) := by decide +kernel
theorem dX5_reduceRow_130 : decode cX5_reduceRow 130 = .ok (.iinc 4 (-1), 3) := by decide +kernel
theorem dX5_reduceRow_133 : decode cX5_reduceRow 133 = .ok (.goto (-74), 3) := by decide +kernel
theorem dX5_reduceRow_136 : decode cX5_reduceRow 136 = .ok (.iinc 2 1, 3) := by decide +kernel
theorem dX5_reduceRow_139 : decode cX5_reduceRow 139 = .ok (.goto (-114), 3) := by decide +kernel
theorem dX5_reduceRow_142 : decode cX5_reduceRow 142 = .ok (.return_, 1) := by decide +kernel
theorem dX5_addRow_0 : decode cX5_addRow 0 = .ok (.aload_n 0, 1) := by decide +kernel
theorem dX5_addRow_1 : decode cX5_addRow 1 = .ok (.invokevirtual 65, 3) := by decide +kernel
theorem dX5_addRow_4 : decode cX5_addRow 4 = .ok (.iconst 0, 1) := by decide +kernel
theorem dX5_addRow_5 : decode cX5_addRow 5 = .ok (.istore_n 1, 1) := by decide +kernel
theorem dX5_addRow_6 : decode cX5_addRow 6 = .ok (.iload_n 1, 1) := by decide +kernel
theorem dX5_addRow_7 : decode cX5_addRow 7 = .ok (.aload_n 0, 1) := by decide +kernel
theorem dX5_addRow_8 : decode cX5_addRow 8 = .ok (.getfield 34, 3) := by decide +kernel
theorem dX5_addRow_11 : decode cX5_addRow 11 = .ok (.if_icmp .gt 60, 3) := by decide +kernel
theorem dX5_addRow_14 : decode cX5_addRow 14 = .ok (.iconst 0, 1) := by decide +kernel
theorem dX5_addRow_15 : decode cX5_addRow 15 = .ok (.istore_n 2, 1) := by decide +kernel
theorem dX5_addRow_16 : decode cX5_addRow 16 = .ok (.iload_n 2, 1) := by decide +kernel
theorem dX5_addRow_17 : decode cX5_addRow 17 = .ok (.aload_n 0, 1) := by decide +kernel
theorem dX5_addRow_18 : decode cX5_addRow 18 = .ok (.getfield 34, 3) := by decide +kernel
theorem dX5_addRow_21 : decode cX5_addRow 21 = .ok (.iload_n 1, 1) := by decide +kernel
theorem dX5_addRow_22 : decode cX5_addRow 22 = .ok (.isub, 1) := by decide +kernel
theorem dX5_addRow_23 : decode cX5_addRow 23 = .ok (.if_icmp .gt 42, 3) := by decide +kernel
theorem dX5_addRow_26 : decode cX5_addRow 26 = .ok (.aload_n 0, 1) := by decide +kernel
theorem dX5_addRow_27 : decode cX5_addRow 27 = .ok (.getfield 15, 3) := by decide +kernel
theorem dX5_addRow_30 : decode cX5_addRow 30 = .ok (.iload_n 1, 1) := by decide +kernel
theorem dX5_addRow_31 : decode cX5_addRow 31 = .ok (.bipush 25, 2) := by decide +kernel
theorem dX5_addRow_33 : decode cX5_addRow 33 = .ok (.imul, 1) := by decide +kernel
theorem dX5_addRow_34 : decode cX5_addRow 34 = .ok (.iload_n 2, 1) := by decide +kernel
theorem dX5_addRow_35 : decode cX5_addRow 35 = .ok (.iadd, 1) := by decide +kernel
theorem dX5_addRow_36 : decode cX5_addRow 36 = .ok (.iaload, 1) := by decide +kernel
theorem dX5_addRow_37 : decode cX5_addRow 37 = .ok (.istore_n 3, 1) := by decide +kernel
theorem dX5_addRow_38 : decode cX5_addRow 38 = .ok (.iload_n 3, 1) := by decide +kernel
theorem dX5_addRow_39 : decode cX5_addRow 39 = .ok (.ifCond .lt 20, 3) := by decide +kernel
theorem dX5_addRow_42 : decode cX5_addRow 42 = .ok (.aload_n 0, 1) := by decide +kernel
theorem dX5_addRow_43 : decode cX5_addRow 43 = .ok (.getfield 20, 3) := by decide +kernel
theorem dX5_addRow_46 : decode cX5_addRow 46 = .ok (.iload_n 3, 1) := by decide +kernel
theorem dX5_addRow_47 : decode cX5_addRow 47 = .ok (.aload_n 0, 1) := by decide +kernel
theorem dX5_addRow_48 : decode cX5_addRow 48 = .ok (.getfield 11, 3) := by decide +kernel
theorem dX5_addRow_51 : decode cX5_addRow 51 = .ok (.iload_n 1, 1) := by decide +kernel
theorem dX5_addRow_52 : decode cX5_addRow 52 = .ok (.bipush 25, 2) := by decide +kernel
theorem dX5_addRow_54 : decode cX5_addRow 54 = .ok (.imul, 1) := by decide +kernel
theorem dX5_addRow_55 : decode cX5_addRow 55 = .ok (.iload_n 2, 1) := by decide +kernel
theorem dX5_addRow_56 : decode cX5_addRow 56 = .ok (.iadd, 1) := by decide +kernel
theorem dX5_addRow_57 : decode cX5_addRow 57 = .ok (.iaload, 1) := by decide +kernel
theorem dX5_addRow_58 : decode cX5_addRow 58 = .ok (.iastore, 1) := by decide +kernel
theorem dX5_addRow_59 : decode cX5_addRow 59 = .ok (.iinc 2 1, 3) := by decide +kernel
theorem dX5_addRow_62 : decode cX5_addRow 62 = .ok (.goto (-46), 3) := by decide +kernel
theorem dX5_addRow_65 : decode cX5_addRow 65 = .ok (.iinc 1 1, 3) := by decide +kernel
theorem dX5_addRow_68 : decode cX5_addRow 68 = .ok (.goto (-62), 3) := by decide +kernel
theorem dX5_addRow_71 : decode cX5_addRow 71 = .ok (.aload_n 0, 1) := by decide +kernel
theorem dX5_addRow_72 : decode cX5_addRow 72 = .ok (.getfield 50, 3) := by decide +kernel
theorem dX5_addRow_75 : decode cX5_addRow 75 = .ok (.aload_n 0, 1) := by decide +kernel
theorem dX5_addRow_76 : decode cX5_addRow 76 = .ok (.getfield 20, 3) := by decide +kernel
theorem dX5_addRow_79 : decode cX5_addRow 79 = .ok (.invokevirtual 68, 3) := by decide +kernel
theorem dX5_addRow_82 : decode cX5_addRow 82 = .ok (.ireturn, 1) := by decide +kernel
theorem dX5_clearLine_0 : decode cX5_clearLine 0 = .ok (.iconst 0, 1) := by decide +kernel
theorem dX5_clearLine_1 : decode cX5_clearLine 1 = .ok (.istore_n 1, 1) := by decide +kernel
theorem dX5_clearLine_2 : decode cX5_clearLine 2 = .ok (.iload_n 1, 1) := by decide +kernel
theorem dX5_clearLine_3 : decode cX5_clearLine 3 = .ok (.aload_n 0, 1) := by decide +kernel
theorem dX5_clearLine_4 : decode cX5_clearLine 4 = .ok (.getfield 20, 3) := by decide +kernel
theorem dX5_clearLine_7 : decode cX5_clearLine 7 = .ok (.arraylength, 1) := by decide +kernel
theorem dX5_clearLine_8 : decode cX5_clearLine 8 = .ok (.if_icmp .ge 16, 3) := by decide +kernel
theorem dX5_clearLine_11 : decode cX5_clearLine 11 = .ok (.aload_n 0, 1) := by decide +kernel
theorem dX5_clearLine_12 : decode cX5_clearLine 12 = .ok (.getfield 20, 3) := by decide +kernel
theorem dX5_clearLine_15 : decode cX5_clearLine 15 = .ok (.iload_n 1, 1) := by decide +kernel
theorem dX5_clearLine_16 : decode cX5_clearLine 16 = .ok (.iconst 0, 1) := by decide +kernel
theorem dX5_clearLine_17 : decode cX5_clearLine 17 = .ok (.iastore, 1) := by decide +kernel
theorem dX5_clearLine_18 : decode cX5_clearLine 18 = .ok (.iinc 1 1, 3) := by decide +kernel
theorem dX5_clearLine_21 : decode cX5_clearLine 21 = .ok (.goto (-19), 3) := by decide +kernel
theorem dX5_clearLine_24 : decode cX5_clearLine 24 = .ok (.return_, 1) := by decide +kernel
theorem dX6_init_0 : decode cX6_init 0 = .ok (.aload_n 0, 1) := by decide +kernel
theorem dX6_init_1 : decode cX6_init 1 = .ok (.invokespecial 3, 3) := by decide +kernel
theorem dX6_init_4 : decode cX6_init 4 = .ok (.aload_n 0, 1) := by decide +kernel
theorem dX6_init_5 : decode cX6_init 5 = .ok (.new 9, 3) := by decide +kernel
theorem dX6_init_8 : decode cX6_init 8 = .ok (.dup, 1) := by decide +kernel
theorem dX6_init_9 : decode cX6_init 9 = .ok (.invokespecial 11, 3) := by decide +kernel
theorem dX6_init_12 : decode cX6_init 12 = .ok (.putfield 12, 3) := by decide +kernel
theorem dX6_init_15 : decode cX6_init 15 = .ok (.aload_n 0, 1) := by decide +kernel
theorem dX6_init_16 : decode cX6_init 16 = .ok (.new 9, 3) := by decide +kernel
theorem dX6_init_19 : decode cX6_init 19 = .ok (.dup, 1) := by decide +kernel
theorem dX6_init_20 : decode cX6_init 20 = .ok (.invokespecial 11, 3) := by decide +kernel
theorem dX6_init_23 : decode cX6_init 23 = .ok (.putfield 18, 3) := by decide +kernel
theorem dX6_init_26 : decode cX6_init 26 = .ok (.aload_n 0, 1) := by decide +kernel
theorem dX6_init_27 : decode cX6_init 27 = .ok (.new 9, 3) := by decide +kernel
theorem dX6_init_30 : decode cX6_init 30 = .ok (.dup, 1) := by decide +kernel
theorem dX6_init_31 : decode cX6_init 31 = .ok (.invokespecial 11, 3) := by decide +kernel
theorem dX6_init_34 : decode cX6_init 34 = .ok (.putfield 21, 3) := by decide +kernel
theorem dX6_init_37 : decode cX6_init 37 = .ok (.aload_n 0, 1) := by decide +kernel
theorem dX6_init_38 : decode cX6_init 38 = .ok (.bipush 94, 2) := by decide +kernel
theorem dX6_init_40 : decode cX6_init 40 = .ok (.newarray .int, 2) := by decide +kernel
theorem dX6_init_42 : decode cX6_init 42 = .ok (.putfield 26, 3) := by decide +kernel
theorem dX6_init_45 : decode cX6_init 45 = .ok (.aload_n 0, 1) := by decide +kernel
theorem dX6_init_46 : decode cX6_init 46 = .ok (.aload_n 1, 1) := by decide +kernel
theorem dX6_init_47 : decode cX6_init 47 = .ok (.putfield 30, 3) := by decide +kernel
theorem dX6_init_50 : decode cX6_init 50 = .ok (.return_, 1) := by decide +kernel
theorem dX6_find_0 : decode cX6_find 0 = .ok (.aload_n 0, 1) := by decide +kernel
theorem dX6_find_1 : decode cX6_find 1 = .ok (.getfield 30, 3) := by decide +kernel
theorem dX6_find_4 : decode cX6_find 4 = .ok (.bipush 60, 2) := by decide +kernel
theorem dX6_find_6 : decode cX6_find 6 = .ok (.bipush 45, 2) := by decide +kernel
theorem dX6_find_8 : decode cX6_find 8 = .ok (.iload_n 3, 1) := by decide +kernel
theorem dX6_find_9 : decode cX6_find 9 = .ok (.invokevirtual 34, 3) := by decide +kernel
theorem dX6_find_12 : decode cX6_find 12 = .ok (.aload_n 1, 1) := by decide +kernel
theorem dX6_find_13 : decode cX6_find 13 = .ok (.invokevirtual 38, 3) := by decide +kernel
theorem dX6_find_16 : decode cX6_find 16 = .ok (.istore 4, 2) := by decide +kernel
theorem dX6_find_18 : decode cX6_find 18 = .ok (.iconst 0, 1) := by decide +kernel
theorem dX6_find_19 : decode cX6_find 19 = .ok (.istore 5, 2) := by decide +kernel
theorem dX6_find_21 : decode cX6_find 21 = .ok (.iload 5, 2) := by decide +kernel
theorem dX6_find_23 : decode cX6_find 23 = .ok (.iload 4, 2) := by decide +kernel
theorem dX6_find_25 : decode cX6_find 25 = .ok (.if_icmp .gt 49, 3) := by decide +kernel
theorem dX6_find_28 : decode cX6_find 28 = .ok (.iconst 0, 1) := by decide +kernel
theorem dX6_find_29 : decode cX6_find 29 = .ok (.istore 6, 2) := by decide +kernel
theorem dX6_find_31 : decode cX6_find 31 = .ok (.iload 6, 2) := by decide +kernel
theorem dX6_find_33 : decode cX6_find 33 = .ok (.iload 5, 2) := by decide +kernel
theorem dX6_find_35 : decode cX6_find 35 = .ok (.if_icmp .gt 33, 3) := by decide +kernel
theorem dX6_find_38 : decode cX6_find 38 = .ok (.aload_n 0, 1) := by decide +kernel
theorem dX6_find_39 : decode cX6_find 39 = .ok (.aload_n 2, 1) := by decide +kernel
theorem dX6_find_40 : decode cX6_find 40 = .ok (.iload 5, 2) := by decide +kernel
theorem dX6_find_42 : decode cX6_find 42 = .ok (.iload 6, 2) := by decide +kernel
theorem dX6_find_44 : decode cX6_find 44 = .ok (.isub, 1) := by decide +kernel
theorem dX6_find_45 : decode cX6_find 45 = .ok (.iload 6, 2) := by decide +kernel
theorem dX6_find_47 : decode cX6_find 47 = .ok (.invokevirtual 42, 3) := by decide +kernel
theorem dX6_find_50 : decode cX6_find 50 = .ok (.aload_n 0, 1) := by decide +kernel
theorem dX6_find_51 : decode cX6_find 51 = .ok (.getfield 30, 3) := by decide +kernel
theorem dX6_find_54 : decode cX6_find 54 = .ok (.aload_n 0, 1) := by decide +kernel
theorem dX6_find_55 : decode cX6_find 55 = .ok (.getfield 26, 3) := by decide +kernel
theorem dX6_find_58 : decode cX6_find 58 = .ok (.invokevirtual 46, 3) := by decide +kernel
theorem dX6_find_61 : decode cX6_find 61 = .ok (.pop, 1) := by decide +kernel
theorem dX6_find_62 : decode cX6_find 62 = .ok (.iinc 6 1, 3) := by decide +kernel
theorem dX6_find_65 : decode cX6_find 65 = .ok (.goto (-34), 3) := by decide +kernel
theorem dX6_find_68 : decode cX6_find 68 = .ok (.iinc 5 1, 3) := by decide +kernel
theorem dX6_find_71 : decode cX6_find 71 = .ok (.goto (-50), 3) := by decide +kernel
theorem dX6_find_74 : decode cX6_find 74 = .ok (.aload_n 0, 1) := by decide +kernel
theorem dX6_find_75 : decode cX6_find 75 = .ok (.aload_n 1, 1) := by decide +kernel
theorem dX6_find_76 : decode cX6_find 76 = .ok (.aload_n 2, 1) := by decide +kernel
theorem dX6_find_77 : decode cX6_find 77 = .ok (.invokevirtual 38, 3) := by decide +kernel
theorem dX6_find_80 : decode cX6_find 80 = .ok (.invokevirtual 50, 3) := by decide +kernel
theorem dX6_find_83 : decode cX6_find 83 = .ok (.aload_n 0, 1) := by decide +kernel
theorem dX6_find_84 : decode cX6_find 84 = .ok (.getfield 21, 3) := by decide +kernel
theorem dX6_find_87 : decode cX6_find 87 = .ok (.aload_n 2, 1) := by decide +kernel
theorem dX6_find_88 : decode cX6_find 88 = .ok (.invokevirtual 54, 3) := by decide +kernel
theorem dX6_find_91 : decode cX6_find 91 = .ok (.aload_n 0, 1) := by decide +kernel
theorem dX6_find_92 : decode cX6_find 92 = .ok (.getfield 12, 3) := by decide +kernel
theorem dX6_find_95 : decode cX6_find 95 = .ok (.aload_n 0, 1) := by decide +kernel
theorem dX6_find_96 : decode cX6_find 96 = .ok (.getfield 21, 3) := by decide +kernel
theorem dX6_find_99 : decode cX6_find 99 = .ok (.aload_n 0, 1) := by decide +kernel
theorem dX6_find_100 : decode cX6_find 100 = .ok (.getfield 18, 3) := by decide +kernel
theorem dX6_find_103 : decode cX6_find 103 = .ok (.iload_n 3, 1) := by decide +kernel
theorem dX6_find_104 : decode cX6_find 104 = .ok (.invokevirtual 58, 3) := by decide +kernel
theorem dX6_find_107 : decode cX6_find 107 = .ok (.aload_n 0, 1) := by decide +kernel
theorem dX6_find_108 : decode cX6_find 108 = .ok (.getfield 12, 3) := by decide +kernel
theorem dX6_find_111 : decode cX6_find 111 = .ok (.iload_n 3, 1) := by decide +kernel
theorem dX6_find_112 : decode cX6_find 112 = .ok (.invokevirtual 62, 3) := by decide +kernel
theorem dX6_find_115 : decode cX6_find 115 = .ok (.aload_n 0, 1) := by decide +kernel
theorem dX6_find_116 : decode cX6_find 116 = .ok (.getfield 12, 3) := by decide +kernel
theorem dX6_find_119 : decode cX6_find 119 = .ok (.areturn, 1) := by decide +kernel
theorem dX6_findCofactor_0 : decode cX6_findCofactor 0 = .ok (.aload_n 0, 1) := by decide +kernel
theorem dX6_findCofactor_1 : decode cX6_findCofactor 1 = .ok (.getfield 18, 3) := by decide +kernel
theorem dX6_findCofactor_4 : decode cX6_findCofactor 4 = .ok (.iconst 1, 1) := by decide +kernel
theorem dX6_findCofactor_5 : decode cX6_findCofactor 5 = .ok (.invokevirtual 66, 3) := by decide +kernel
theorem dX6_findCofactor_8 : decode cX6_findCofactor 8 = .ok (.iconst 0, 1) := by decide +kernel
theorem dX6_findCofactor_9 : decode cX6_findCofactor 9 = .ok (.istore_n 3, 1) := by decide +kernel
theorem dX6_findCofactor_10 : decode cX6_findCofactor 10 = .ok (.iload_n 3, 1) := by decide +kernel
theorem dX6_findCofactor_11 : decode cX6_findCofactor 11 = .ok (.iload_n 2, 1) := by decide +kernel
theorem dX6_findCofactor_12 : decode cX6_findCofactor 12 = .ok (.if_icmp .gt 71, 3) := by decide +kernel
theorem dX6_findCofactor_15 : decode cX6_findCofactor 15 = .ok (.iconst 0, 1) := by decide +kernel
theorem dX6_findCofactor_16 : decode cX6_findCofactor 16 = .ok (.istore 4, 2) := by decide +kernel
theorem dX6_findCofactor_18 : decode cX6_findCofactor 18 = .ok (.iload 4, 2) := by decide +kernel
theorem dX6_findCofactor_20 : decode cX6_findCofactor 20 = .ok (.iload_n 3, 1) := by decide +kernel
theorem dX6_findCofactor_21 : decode cX6_findCofactor 21 = .ok (.if_icmp .gt 56, 3) := by decide +kernel
theorem dX6_findCofactor_24 : decode cX6_findCofactor 24 = .ok (.aload_n 0, 1) := by decide +kernel
theorem dX6_findCofactor_25 : decode cX6_findCofactor 25 = .ok (.aload_n 1, 1) := by decide +kernel
theorem dX6_findCofactor_26 : decode cX6_findCofactor 26 = .ok (.iload_n 3, 1) := by decide +kernel
theorem dX6_findCofactor_27 : decode cX6_findCofactor 27 = .ok (.iload 4, 2) := by decide +kernel
theorem dX6_findCofactor_29 : decode cX6_findCofactor 29 = .ok (.isub, 1) := by decide +kernel
theorem dX6_findCofactor_30 : decode cX6_findCofactor 30 = .ok (.iload 4, 2) := by decide +kernel
theorem dX6_findCofactor_32 : decode cX6_findCofactor 32 = .ok (.invokevirtual 42, 3) := by decide +kernel
theorem dX6_findCofactor_35 : decode cX6_findCofactor 35 = .ok (.aload_n 0, 1) := by decide +kernel
theorem dX6_findCofactor_36 : decode cX6_findCofactor 36 = .ok (.bipush 45, 2) := by decide +kernel
theorem dX6_findCofactor_38 : decode cX6_findCofactor 38 = .ok (.iload_n 3, 1) := by decide +kernel
theorem dX6_findCofactor_39 : decode cX6_findCofactor 39 = .ok (.iload 4, 2) := by decide +kernel
theorem dX6_findCofactor_41 : decode cX6_findCofactor 41 = .ok (.isub, 1) := by decide +kernel
theorem dX6_findCofactor_42 : decode cX6_findCofactor 42 = .ok (.iload 4, 2) := by decide +kernel
theorem dX6_findCofactor_44 : decode cX6_findCofactor 44 = .ok (.invokestatic 69, 3) := by decide +kernel
theorem dX6_findCofactor_47 : decode cX6_findCofactor 47 = .ok (.iadd, 1) := by decide +kernel
theorem dX6_findCofactor_48 : decode cX6_findCofactor 48 = .ok (.iconst 1, 1) := by decide +kernel
theorem dX6_findCofactor_49 : decode cX6_findCofactor 49 = .ok (.invokevirtual 73, 3) := by decide +kernel
theorem dX6_findCofactor_52 : decode cX6_findCofactor 52 = .ok (.aload_n 0, 1) := by decide +kernel
theorem dX6_findCofactor_53 : decode cX6_findCofactor 53 = .ok (.getfield 30, 3) := by decide +kernel
theorem dX6_findCofactor_56 : decode cX6_findCofactor 56 = .ok (.aload_n 0, 1) := by decide +kernel
theorem dX6_findCofactor_57 : decode cX6_findCofactor 57 = .ok (.getfield 26, 3) := by decide +kernel
theorem dX6_findCofactor_60 : decode cX6_findCofactor 60 = .ok (.invokevirtual 46, 3) := by decide +kernel
theorem dX6_findCofactor_63 : decode cX6_findCofactor 63 = .ok (.ifCond .ne 8, 3) := by decide +kernel
theorem dX6_findCofactor_66 : decode cX6_findCofactor 66 = .ok (.aload_n 0, 1) := by decide +kernel
theorem dX6_findCofactor_67 : decode cX6_findCofactor 67 = .ok (.invokevirtual 77, 3) := by decide +kernel
theorem dX6_findCofactor_70 : decode cX6_findCofactor 70 = .ok (.return_, 1) := by decide +kernel
theorem dX6_findCofactor_71 : decode cX6_findCofactor 71 = .ok (.iinc 4 1, 3) := by decide +kernel
theorem dX6_findCofactor_74 : decode cX6_findCofactor 74 = .ok (.goto (-56), 3) := by decide +kernel
theorem dX6_findCofactor_77 : decode cX6_findCofactor 77 = .ok (.iinc 3 1, 3) := by decide +kernel
theorem dX6_findCofactor_80 : decode cX6_findCofactor 80 = .ok (.goto (-70), 3) := by decide +kernel
theorem dX6_findCofactor_83 : decode cX6_findCofactor 83 = .ok (.return_, 1) := by decide +kernel
theorem dX6_takeCofactor_0 : decode cX6_takeCofactor 0 = .ok (.iconst 0, 1) := by decide +kernel
theorem dX6_takeCofactor_1 : decode cX6_takeCofactor 1 = .ok (.istore_n 1, 1) := by decide +kernel
theorem dX6_takeCofactor_2 : decode cX6_takeCofactor 2 = .ok (.iload_n 1, 1) := by decide +kernel
theorem dX6_takeCofactor_3 : decode cX6_takeCofactor 3 = .ok (.iconst 4, 1) := by decide +kernel
theorem dX6_takeCofactor_4 : decode cX6_takeCofactor 4 = .ok (.if_icmp .gt 46, 3) := by decide +kernel
theorem dX6_takeCofactor_7 : decode cX6_takeCofactor 7 = .ok (.iconst 0, 1) := by decide +kernel
theorem dX6_takeCofactor_8 : decode cX6_takeCofactor 8 = .ok (.istore_n 2, 1) := by decide +kernel
theorem dX6_takeCofactor_9 : decode cX6_takeCofactor 9 = .ok (.iload_n 2, 1) := by decide +kernel
theorem dX6_takeCofactor_10 : decode cX6_takeCofactor 10 = .ok (.iconst 4, 1) := by decide +kernel
theorem dX6_takeCofactor_11 : decode cX6_takeCofactor 11 = .ok (.iload_n 1, 1) := by decide +kernel
theorem dX6_takeCofactor_12 : decode cX6_takeCofactor 12 = .ok (.isub, 1) := by decide +kernel
theorem dX6_takeCofactor_13 : decode cX6_takeCofactor 13 = .ok (.if_icmp .gt 31, 3) := by decide +kernel
theorem dX6_takeCofactor_16 : decode cX6_takeCofactor 16 = .ok (.aload_n 0, 1) := by decide +kernel
theorem dX6_takeCofactor_17 : decode cX6_takeCofactor 17 = .ok (.getfield 18, 3) := by decide +kernel
theorem dX6_takeCofactor_20 : decode cX6_takeCofactor 20 = .ok (.iload_n 1, 1) := by decide +kernel
theorem dX6_takeCofactor_21 : decode cX6_takeCofactor 21 = .ok (.iload_n 2, 1) := by decide +kernel
theorem dX6_takeCofactor_22 : decode cX6_takeCofactor 22 = .ok (.aload_n 0, 1) := by decide +kernel
theorem dX6_takeCofactor_23 : decode cX6_takeCofactor 23 = .ok (.getfield 26, 3) := by decide +kernel
theorem dX6_takeCofactor_26 : decode cX6_takeCofactor 26 = .ok (.bipush 45, 2) := by decide +kernel
theorem dX6_takeCofactor_28 : decode cX6_takeCofactor 28 = .ok (.iload_n 1, 1) := by decide +kernel
theorem dX6_takeCofactor_29 : decode cX6_takeCofactor 29 = .ok (.iload_n 2, 1) := by decide +kernel
theorem dX6_takeCofactor_30 : decode cX6_takeCofactor 30 = .ok (.invokestatic 69, 3) := by decide +kernel
theorem dX6_takeCofactor_33 : decode cX6_takeCofactor 33 = .ok (.iadd, 1) := by decide +kernel
theorem dX6_takeCofactor_34 : decode cX6_takeCofactor 34 = .ok (.iaload, 1) := by decide +kernel
theorem dX6_takeCofactor_35 : decode cX6_takeCofactor 35 = .ok (.invokevirtual 80, 3) := by decide +kernel
theorem dX6_takeCofactor_38 : decode cX6_takeCofactor 38 = .ok (.iinc 2 1, 3) := by decide +kernel
theorem dX6_takeCofactor_41 : decode cX6_takeCofactor 41 = .ok (.goto (-32), 3) := by decide +kernel
theorem dX6_takeCofactor_44 : decode cX6_takeCofactor 44 = .ok (.iinc 1 1, 3) := by decide +kernel
theorem dX6_takeCofactor_47 : decode cX6_takeCofactor 47 = .ok (.goto (-45), 3) := by decide +kernel
theorem dX6_takeCofactor_50 : decode cX6_takeCofactor 50 = .ok (.return_, 1) := by decide +kernel
theorem dX6_setLine_0 : decode cX6_setLine 0 = .ok (.iconst 0, 1) := by decide +kernel
theorem dX6_setLine_1 : decode cX6_setLine 1 = .ok (.istore 4, 2) := by decide +kernel
theorem dX6_setLine_3 : decode cX6_setLine 3 = .ok (.iload 4, 2) := by decide +kernel
theorem dX6_setLine_5 : decode cX6_setLine 5 = .ok (.aload_n 0, 1) := by decide +kernel
theorem dX6_setLine_6 : decode cX6_setLine 6 = .ok (.getfield 26, 3) := by decide +kernel
theorem dX6_setLine_9 : decode cX6_setLine 9 = .ok (.arraylength, 1) := by decide +kernel
theorem dX6_setLine_10 : decode cX6_setLine 10 = .ok (.if_icmp .ge 17, 3) := by decide +kernel
theorem dX6_setLine_13 : decode cX6_setLine 13 = .ok (.aload_n 0, 1) := by decide +kernel
theorem dX6_setLine_14 : decode cX6_setLine 14 = .ok (.getfield 26, 3) := by decide +kernel
theorem dX6_setLine_17 : decode cX6_setLine 17 = .ok (.iload 4, 2) := by decide +kernel
theorem dX6_setLine_19 : decode cX6_setLine 19 = .ok (.iconst 0, 1) := by decide +kernel
theorem dX6_setLine_20 : decode cX6_setLine 20 = .ok (.iastore, 1) := by decide +kernel
theorem dX6_setLine_21 : decode cX6_setLine 21 = .ok (.iinc 4 1, 3) := by decide +kernel
theorem dX6_setLine_24 : decode cX6_setLine 24 = .ok (.goto (-21), 3) := by decide +kernel
theorem dX6_setLine_27 : decode cX6_setLine 27 = .ok (.iconst 0, 1) := by decide +kernel
theorem dX6_setLine_28 : decode cX6_setLine 28 = .ok (.istore 4, 2) := by decide +kernel
theorem dX6_setLine_30 : decode cX6_setLine 30 = .ok (.iload 4, 2) := by decide +kernel
theorem dX6_setLine_32 : decode cX6_setLine 32 = .ok (.iconst 4, 1) := by decide +kernel
theorem dX6_setLine_33 : decode cX6_setLine 33 = .ok (.if_icmp .gt 50, 3) := by decide +kernel
theorem dX6_setLine_36 : decode cX6_setLine 36 = .ok (.iconst 0, 1) := by decide +kernel
theorem dX6_setLine_37 : decode cX6_setLine 37 = .ok (.istore 5, 2) := by decide +kernel
theorem dX6_setLine_39 : decode cX6_setLine 39 = .ok (.iload 5, 2) := by decide +kernel
theorem dX6_setLine_41 : decode cX6_setLine 41 = .ok (.iconst 4, 1) := by decide +kernel
theorem dX6_setLine_42 : decode cX6_setLine 42 = .ok (.iload 4, 2) := by decide +kernel
theorem dX6_setLine_44 : decode cX6_setLine 44 = .ok (.isub, 1) := by decide +kernel
theorem dX6_setLine_45 : decode cX6_setLine 45 = .ok (.if_icmp .gt 32, 3) := by decide +kernel
theorem dX6_setLine_48 : decode cX6_setLine 48 = .ok (.aload_n 0, 1) := by decide +kernel
theorem dX6_setLine_49 : decode cX6_setLine 49 = .ok (.iload 4, 2) := by decide +kernel
theorem dX6_setLine_51 : decode cX6_setLine 51 = .ok (.iload_n 2, 1) := by decide +kernel
theorem dX6_setLine_52 : decode cX6_setLine 52 = .ok (.iadd, 1) := by decide +kernel
theorem dX6_setLine_53 : decode cX6_setLine 53 = .ok (.iload 5, 2) := by decide +kernel
theorem dX6_setLine_55 : decode cX6_setLine 55 = .ok (.iload_n 3, 1) := by decide +kernel
theorem dX6_setLine_56 : decode cX6_setLine 56 = .ok (.iadd, 1) := by decide +kernel
theorem dX6_setLine_57 : decode cX6_setLine 57 = .ok (.invokestatic 69, 3) := by decide +kernel
theorem dX6_setLine_60 : decode cX6_setLine 60 = .ok (.aload_n 1, 1) := by decide +kernel
theorem dX6_setLine_61 : decode cX6_setLine 61 = .ok (.iload 4, 2) := by decide +kernel
theorem dX6_setLine_63 : decode cX6_setLine 63 = .ok (.iload 5, 2) := by decide +kernel
theorem dX6_setLine_65 : decode cX6_setLine 65 = .ok (.invokevirtual 83, 3) := by decide +kernel
theorem dX6_setLine_68 : decode cX6_setLine 68 = .ok (.invokevirtual 73, 3) := by decide +kernel
theorem dX6_setLine_71 : decode cX6_setLine 71 = .ok (.iinc 5 1, 3) := by decide +kernel
theorem dX6_setLine_74 : decode cX6_setLine 74 = .ok (.goto (-35), 3) := by decide +kernel
theorem dX6_setLine_77 : decode cX6_setLine 77 = .ok (.iinc 4 1, 3) := by decide +kernel
theorem dX6_setLine_80 : decode cX6_setLine 80 = .ok (.goto (-50), 3) := by decide +kernel
theorem dX6_setLine_83 : decode cX6_setLine 83 = .ok (.return_, 1) := by decide +kernel
theorem dX6_setColumn_0 : decode cX6_setColumn 0 = .ok (.iload_n 1, 1) := by decide +kernel
theorem dX6_setColumn_1 : decode cX6_setColumn 1 = .ok (.ifCond .lt 23, 3) := by decide +kernel
theorem dX6_setColumn_4 : decode cX6_setColumn 4 = .ok (.iload_n 1, 1) := by decide +kernel
theorem dX6_setColumn_5 : decode cX6_setColumn 5 = .ok (.aload_n 0, 1) := by decide +kernel
theorem dX6_setColumn_6 : decode cX6_setColumn 6 = .ok (.getfield 26, 3) := by decide +kernel
theorem dX6_setColumn_9 : decode cX6_setColumn 9 = .ok (.arraylength, 1) := by decide +kernel
theorem dX6_setColumn_10 : decode cX6_setColumn 10 = .ok (.if_icmp .ge 14, 3) := by decide +kernel
theorem dX6_setColumn_13 : decode cX6_setColumn 13 = .ok (.iload_n 2, 1) := by decide +kernel
theorem dX6_setColumn_14 : decode cX6_setColumn 14 = .ok (.ifCond .eq 10, 3) := by decide +kernel
theorem dX6_setColumn_17 : decode cX6_setColumn 17 = .ok (.aload_n 0, 1) := by decide +kernel
theorem dX6_setColumn_18 : decode cX6_setColumn 18 = .ok (.getfield 26, 3) := by decide +kernel
theorem dX6_setColumn_21 : decode cX6_setColumn 21 = .ok (.iload_n 1, 1) := by decide +kernel
theorem dX6_setColumn_22 : decode cX6_setColumn 22 = .ok (.iload_n 2, 1) := by decide +kernel
theorem dX6_setColumn_23 : decode cX6_setColumn 23 = .ok (.iastore, 1) := by decide +kernel
theorem dX6_setColumn_24 : decode cX6_setColumn 24 = .ok (.return_, 1) := by decide +kernel
theorem dX6_column_0 : decode cX6_column 0 = .ok (.iload_n 0, 1) := by decide +kernel
theorem dX6_column_1 : decode cX6_column 1 = .ok (.iload_n 1, 1) := by decide +kernel
theorem dX6_column_2 : decode cX6_column 2 = .ok (.iadd, 1) := by decide +kernel
theorem dX6_column_3 : decode cX6_column 3 = .ok (.istore_n 2, 1) := by decide +kernel
theorem dX6_column_4 : decode cX6_column 4 = .ok (.iload_n 2, 1) := by decide +kernel
theorem dX6_column_5 : decode cX6_column 5 = .ok (.iload_n 2, 1) := by decide +kernel
theorem dX6_column_6 : decode cX6_column 6 = .ok (.iconst 1, 1) := by decide +kernel
theorem dX6_column_7 : decode cX6_column 7 = .ok (.iadd, 1) := by decide +kernel
theorem dX6_column_8 : decode cX6_column 8 = .ok (.imul, 1) := by decide +kernel
theorem dX6_column_9 : decode cX6_column 9 = .ok (.iconst 2, 1) := by decide +kernel
theorem dX6_column_10 : decode cX6_column 10 = .ok (.idiv, 1) := by decide +kernel
theorem dX6_column_11 : decode cX6_column 11 = .ok (.iload_n 1, 1) := by decide +kernel
theorem dX6_column_12 : decode cX6_column 12 = .ok (.iadd, 1) := by decide +kernel
theorem dX6_column_13 : decode cX6_column 13 = .ok (.ireturn, 1) := by decide +kernel
theorem dX7_init_0 : decode cX7_init 0 = .ok (.aload_n 0, 1) := by decide +kernel
theorem dX7_init_1 : decode cX7_init 1 = .ok (.invokespecial 3, 3) := by decide +kernel
theorem dX7_init_4 : decode cX7_init 4 = .ok (.aload_n 0, 1) := by decide +kernel
theorem dX7_init_5 : decode cX7_init 5 = .ok (.bipush 7, 2) := by decide +kernel
theorem dX7_init_7 : decode cX7_init 7 = .ok (.putfield 9, 3) := by decide +kernel
theorem dX7_init_10 : decode cX7_init 10 = .ok (.aload_n 0, 1) := by decide +kernel
theorem dX7_init_11 : decode cX7_init 11 = .ok (.iconst 0, 1) := by decide +kernel
theorem dX7_init_12 : decode cX7_init 12 = .ok (.putfield 15, 3) := by decide +kernel
theorem dX7_init_15 : decode cX7_init 15 = .ok (.aload_n 0, 1) := by decide +kernel
theorem dX7_init_16 : decode cX7_init 16 = .ok (.bipush 6, 2) := by decide +kernel
theorem dX7_init_18 : decode cX7_init 18 = .ok (.anewarray 18, 3) := by decide +kernel
theorem dX7_init_21 : decode cX7_init 21 = .ok (.putfield 20, 3) := by decide +kernel
theorem dX7_init_24 : decode cX7_init 24 = .ok (.aload_n 0, 1) := by decide +kernel
theorem dX7_init_25 : decode cX7_init 25 = .ok (.bipush 36, 2) := by decide +kernel
theorem dX7_init_27 : decode cX7_init 27 = .ok (.newarray .int, 2) := by decide +kernel
theorem dX7_init_29 : decode cX7_init 29 = .ok (.putfield 24, 3) := by decide +kernel
theorem dX7_init_32 : decode cX7_init 32 = .ok (.iconst 0, 1) := by decide +kernel
theorem dX7_init_33 : decode cX7_init 33 = .ok (.istore_n 1, 1) := by decide +kernel
theorem dX7_init_34 : decode cX7_init 34 = .ok (.iload_n 1, 1) := by decide +kernel
theorem dX7_init_35 : decode cX7_init 35 = .ok (.bipush 6, 2) := by decide +kernel
theorem dX7_init_37 : decode cX7_init 37 = .ok (.if_icmp .ge 22, 3) := by decide +kernel
theorem dX7_init_40 : decode cX7_init 40 = .ok (.aload_n 0, 1) := by decide +kernel
theorem dX7_init_41 : decode cX7_init 41 = .ok (.getfield 20, 3) := by decide +kernel
theorem dX7_init_44 : decode cX7_init 44 = .ok (.iload_n 1, 1) := by decide +kernel
theorem dX7_init_45 : decode cX7_init 45 = .ok (.new 18, 3) := by decide +kernel
theorem dX7_init_48 : decode cX7_init 48 = .ok (.dup, 1) := by decide +kernel
theorem dX7_init_49 : decode cX7_init 49 = .ok (.invokespecial 28, 3) := by decide +kernel
theorem dX7_init_52 : decode cX7_init 52 = .ok (.aastore, 1) := by decide +kernel
theorem dX7_init_53 : decode cX7_init 53 = .ok (.iinc 1 1, 3) := by decide +kernel
theorem dX7_init_56 : decode cX7_init 56 = .ok (.goto (-22), 3) := by decide +kernel
theorem dX7_init_59 : decode cX7_init 59 = .ok (.return_, 1) := by decide +kernel
theorem dX7_find_0 : decode cX7_find 0 = .ok (.iload_n 1, 1) := by decide +kernel
theorem dX7_find_1 : decode cX7_find 1 = .ok (.ifCond .lt 17, 3) := by decide +kernel
theorem dX7_find_4 : decode cX7_find 4 = .ok (.iload_n 1, 1) := by decide +kernel
theorem dX7_find_5 : decode cX7_find 5 = .ok (.aload_n 0, 1) := by decide +kernel
theorem dX7_find_6 : decode cX7_find 6 = .ok (.getfield 15, 3) := by decide +kernel
theorem dX7_find_9 : decode cX7_find 9 = .ok (.if_icmp .ge 9, 3) := by decide +kernel
theorem dX7_find_12 : decode cX7_find 12 = .ok (.iload_n 1, 1) := by decide +kernel
theorem dX7_find_13 : decode cX7_find 13 = .ok (.bipush 6, 2) := by decide +kernel
theorem dX7_find_15 : decode cX7_find 15 = .ok (.if_icmp .lt 7, 3) := by decide +kernel
theorem dX7_find_18 : decode cX7_find 18 = .ok (.aconst_null, 1) := by decide +kernel
theorem dX7_find_19 : decode cX7_find 19 = .ok (.goto 9, 3) := by decide +kernel
theorem dX7_find_22 : decode cX7_find 22 = .ok (.aload_n 0, 1) := by decide +kernel
theorem dX7_find_23 : decode cX7_find 23 = .ok (.getfield 20, 3) := by decide +kernel
theorem dX7_find_26 : decode cX7_find 26 = .ok (.iload_n 1, 1) := by decide +kernel
theorem dX7_find_27 : decode cX7_find 27 = .ok (.aaload, 1) := by decide +kernel
theorem dX7_find_28 : decode cX7_find 28 = .ok (.areturn, 1) := by decide +kernel
theorem dX7_letterOf_0 : decode cX7_letterOf 0 = .ok (.aload_n 0, 1) := by decide +kernel
theorem dX7_letterOf_1 : decode cX7_letterOf 1 = .ok (.iload_n 1, 1) := by decide +kernel
theorem dX7_letterOf_2 : decode cX7_letterOf 2 = .ok (.invokevirtual 29, 3) := by decide +kernel
theorem dX7_letterOf_5 : decode cX7_letterOf 5 = .ok (.ifnull 13, 3) := by decide +kernel
theorem dX7_letterOf_8 : decode cX7_letterOf 8 = .ok (.iload_n 2, 1) := by decide +kernel
theorem dX7_letterOf_9 : decode cX7_letterOf 9 = .ok (.ifCond .lt 9, 3) := by decide +kernel
theorem dX7_letterOf_12 : decode cX7_letterOf 12 = .ok (.iload_n 2, 1) := by decide +kernel
theorem dX7_letterOf_13 : decode cX7_letterOf 13 = .ok (.bipush 6, 2) := by decide +kernel
theorem dX7_letterOf_15 : decode cX7_letterOf 15 = .ok (.if_icmp .lt 5, 3) := by decide +kernel
theorem dX7_letterOf_18 : decode cX7_letterOf 18 = .ok (.iconst (-1), 1) := by decide +kernel
theorem dX7_letterOf_19 : decode cX7_letterOf 19 = .ok (.ireturn, 1) := by decide +kernel
theorem dX7_letterOf_20 : decode cX7_letterOf 20 = .ok (.aload_n 0, 1) := by decide +kernel
theorem dX7_letterOf_21 : decode cX7_letterOf 21 = .ok (.getfield 24, 3) := by decide +kernel
theorem dX7_letterOf_24 : decode cX7_letterOf 24 = .ok (.iload_n 1, 1) := by decide +kernel
theorem dX7_letterOf_25 : decode cX7_letterOf 25 = .ok (.bipush 6, 2) := by decide +kernel
theorem dX7_letterOf_27 : decode cX7_letterOf 27 = .ok (.imul, 1) := by decide +kernel
theorem dX7_letterOf_28 : decode cX7_letterOf 28 = .ok (.iload_n 2, 1) := by decide +kernel
theorem dX7_letterOf_29 : decode cX7_letterOf 29 = .ok (.iadd, 1) := by decide +kernel
theorem dX7_letterOf_30 : decode cX7_letterOf 30 = .ok (.iaload, 1) := by decide +kernel
theorem dX7_letterOf_31 : decode cX7_letterOf 31 = .ok (.ireturn, 1) := by decide +kernel
theorem dX7_copy_0 : decode cX7_copy 0 = .ok (.aload_n 0, 1) := by decide +kernel
theorem dX7_copy_1 : decode cX7_copy 1 = .ok (.aload_n 1, 1) := by decide +kernel
theorem dX7_copy_2 : decode cX7_copy 2 = .ok (.getfield 9, 3) := by decide +kernel
theorem dX7_copy_5 : decode cX7_copy 5 = .ok (.putfield 9, 3) := by decide +kernel
theorem dX7_copy_8 : decode cX7_copy 8 = .ok (.aload_n 0, 1) := by decide +kernel
theorem dX7_copy_9 : decode cX7_copy 9 = .ok (.aload_n 1, 1) := by decide +kernel
theorem dX7_copy_10 : decode cX7_copy 10 = .ok (.getfield 15, 3) := by decide +kernel
theorem dX7_copy_13 : decode cX7_copy 13 = .ok (.putfield 15, 3) := by decide +kernel
theorem dX7_copy_16 : decode cX7_copy 16 = .ok (.iconst 0, 1) := by decide +kernel
theorem dX7_copy_17 : decode cX7_copy 17 = .ok (.istore_n 2, 1) := by decide +kernel
theorem dX7_copy_18 : decode cX7_copy 18 = .ok (.iload_n 2, 1) := by decide +kernel
theorem dX7_copy_19 : decode cX7_copy 19 = .ok (.bipush 6, 2) := by decide +kernel
theorem dX7_copy_21 : decode cX7_copy 21 = .ok (.if_icmp .ge 24, 3) := by decide +kernel
theorem dX7_copy_24 : decode cX7_copy 24 = .ok (.aload_n 0, 1) := by decide +kernel
theorem dX7_copy_25 : decode cX7_copy 25 = .ok (.getfield 20, 3) := by decide +kernel
theorem dX7_copy_28 : decode cX7_copy 28 = .ok (.iload_n 2, 1) := by decide +kernel
theorem dX7_copy_29 : decode cX7_copy 29 = .ok (.aaload, 1) := by decide +kernel
theorem dX7_copy_30 : decode cX7_copy 30 = .ok (.aload_n 1, 1) := by decide +kernel
theorem dX7_copy_31 : decode cX7_copy 31 = .ok (.getfield 20, 3) := by decide +kernel
theorem dX7_copy_34 : decode cX7_copy 34 = .ok (.iload_n 2, 1) := by decide +kernel
theorem dX7_copy_35 : decode cX7_copy 35 = .ok (.aaload, 1) := by decide +kernel
theorem dX7_copy_36 : decode cX7_copy 36 = .ok (.invokevirtual 33, 3) := by decide +kernel
theorem dX7_copy_39 : decode cX7_copy 39 = .ok (.iinc 2 1, 3) := by decide +kernel
theorem dX7_copy_42 : decode cX7_copy 42 = .ok (.goto (-24), 3) := by decide +kernel
theorem dX7_copy_45 : decode cX7_copy 45 = .ok (.aload_n 1, 1) := by decide +kernel
theorem dX7_copy_46 : decode cX7_copy 46 = .ok (.getfield 24, 3) := by decide +kernel
theorem dX7_copy_49 : decode cX7_copy 49 = .ok (.iconst 0, 1) := by decide +kernel
theorem dX7_copy_50 : decode cX7_copy 50 = .ok (.aload_n 0, 1) := by decide +kernel
theorem dX7_copy_51 : decode cX7_copy 51 = .ok (.getfield 24, 3) := by decide +kernel
theorem dX7_copy_54 : decode cX7_copy 54 = .ok (.iconst 0, 1) := by decide +kernel
theorem dX7_copy_55 : decode cX7_copy 55 = .ok (.aload_n 0, 1) := by decide +kernel
theorem dX7_copy_56 : decode cX7_copy 56 = .ok (.getfield 24, 3) := by decide +kernel
theorem dX7_copy_59 : decode cX7_copy 59 = .ok (.arraylength, 1) := by decide +kernel
theorem dX7_copy_60 : decode cX7_copy 60 = .ok (.invokestatic 37, 3) := by decide +kernel
theorem dX7_copy_63 : decode cX7_copy 63 = .ok (.return_, 1) := by decide +kernel
theorem dX7_add_0 : decode cX7_add 0 = .ok (.aload_n 0, 1) := by decide +kernel
theorem dX7_add_1 : decode cX7_add 1 = .ok (.getfield 15, 3) := by decide +kernel
theorem dX7_add_4 : decode cX7_add 4 = .ok (.bipush 6, 2) := by decide +kernel
theorem dX7_add_6 : decode cX7_add 6 = .ok (.if_icmp .lt 5, 3) := by decide +kernel
theorem dX7_add_9 : decode cX7_add 9 = .ok (.iconst (-1), 1) := by decide +kernel
theorem dX7_add_10 : decode cX7_add 10 = .ok (.ireturn, 1) := by decide +kernel
theorem dX7_add_11 : decode cX7_add 11 = .ok (.aload_n 0, 1) := by decide +kernel
theorem dX7_add_12 : decode cX7_add 12 = .ok (.getfield 20, 3) := by decide +kernel
theorem dX7_add_15 : decode cX7_add 15 = .ok (.aload_n 0, 1) := by decide +kernel
theorem dX7_add_16 : decode cX7_add 16 = .ok (.getfield 15, 3) := by decide +kernel
theorem dX7_add_19 : decode cX7_add 19 = .ok (.aaload, 1) := by decide +kernel
theorem dX7_add_20 : decode cX7_add 20 = .ok (.aload_n 1, 1) := by decide +kernel
theorem dX7_add_21 : decode cX7_add 21 = .ok (.invokevirtual 33, 3) := by decide +kernel
theorem dX7_add_24 : decode cX7_add 24 = .ok (.iconst 0, 1) := by decide +kernel
theorem dX7_add_25 : decode cX7_add 25 = .ok (.istore_n 2, 1) := by decide +kernel
theorem dX7_add_26 : decode cX7_add 26 = .ok (.iload_n 2, 1) := by decide +kernel
theorem dX7_add_27 : decode cX7_add 27 = .ok (.bipush 6, 2) := by decide +kernel
theorem dX7_add_29 : decode cX7_add 29 = .ok (.if_icmp .ge 15, 3) := by decide +kernel
theorem dX7_add_32 : decode cX7_add 32 = .ok (.aload_n 0, 1) := by decide +kernel
theorem dX7_add_33 : decode cX7_add 33 = .ok (.iload_n 2, 1) := by decide +kernel
theorem dX7_add_34 : decode cX7_add 34 = .ok (.iconst 0, 1) := by decide +kernel
theorem dX7_add_35 : decode cX7_add 35 = .ok (.invokevirtual 43, 3) := by decide +kernel
theorem dX7_add_38 : decode cX7_add 38 = .ok (.iinc 2 1, 3) := by decide +kernel
theorem dX7_add_41 : decode cX7_add 41 = .ok (.goto (-15), 3) := by decide +kernel
theorem dX7_add_44 : decode cX7_add 44 = .ok (.aload_n 0, 1) := by decide +kernel
theorem dX7_add_45 : decode cX7_add 45 = .ok (.dup, 1) := by decide +kernel
theorem dX7_add_46 : decode cX7_add 46 = .ok (.getfield 15, 3) := by decide +kernel
theorem dX7_add_49 : decode cX7_add 49 = .ok (.iconst 1, 1) := by decide +kernel
theorem dX7_add_50 : decode cX7_add 50 = .ok (.iadd, 1) := by decide +kernel
theorem dX7_add_51 : decode cX7_add 51 = .ok (.putfield 15, 3) := by decide +kernel
theorem dX7_add_54 : decode cX7_add 54 = .ok (.aload_n 0, 1) := by decide +kernel
theorem dX7_add_55 : decode cX7_add 55 = .ok (.getfield 15, 3) := by decide +kernel
theorem dX7_add_58 : decode cX7_add 58 = .ok (.iconst 1, 1) := by decide +kernel
theorem dX7_add_59 : decode cX7_add 59 = .ok (.isub, 1) := by decide +kernel
theorem dX7_add_60 : decode cX7_add 60 = .ok (.ireturn, 1) := by decide +kernel
theorem dX7_setLetter_0 : decode cX7_setLetter 0 = .ok (.aload_n 0, 1) := by decide +kernel
theorem dX7_setLetter_1 : decode cX7_setLetter 1 = .ok (.getfield 15, 3) := by decide +kernel
theorem dX7_setLetter_4 : decode cX7_setLetter 4 = .ok (.bipush 6, 2) := by decide +kernel
theorem dX7_setLetter_6 : decode cX7_setLetter 6 = .ok (.if_icmp .ge 28, 3) := by decide +kernel
theorem dX7_setLetter_9 : decode cX7_setLetter 9 = .ok (.iload_n 1, 1) := by decide +kernel
theorem dX7_setLetter_10 : decode cX7_setLetter 10 = .ok (.ifCond .lt 24, 3) := by decide +kernel
theorem dX7_setLetter_13 : decode cX7_setLetter 13 = .ok (.iload_n 1, 1) := by decide +kernel
theorem dX7_setLetter_14 : decode cX7_setLetter 14 = .ok (.bipush 6, 2) := by decide +kernel
theorem dX7_setLetter_16 : decode cX7_setLetter 16 = .ok (.if_icmp .ge 18, 3) := by decide +kernel
theorem dX7_setLetter_19 : decode cX7_setLetter 19 = .ok (.aload_n 0, 1) := by decide +kernel
theorem dX7_setLetter_20 : decode cX7_setLetter 20 = .ok (.getfield 24, 3) := by decide +kernel
theorem dX7_setLetter_23 : decode cX7_setLetter 23 = .ok (.aload_n 0, 1) := by decide +kernel
theorem dX7_setLetter_24 : decode cX7_setLetter 24 = .ok (.getfield 15, 3) := by decide +kernel
theorem dX7_setLetter_27 : decode cX7_setLetter 27 = .ok (.bipush 6, 2) := by decide +kernel
theorem dX7_setLetter_29 : decode cX7_setLetter 29 = .ok (.imul, 1) := by decide +kernel
theorem dX7_setLetter_30 : decode cX7_setLetter 30 = .ok (.iload_n 1, 1) := by decide +kernel
theorem dX7_setLetter_31 : decode cX7_setLetter 31 = .ok (.iadd, 1) := by decide +kernel
theorem dX7_setLetter_32 : decode cX7_setLetter 32 = .ok (.iload_n 2, 1) := by decide +kernel
theorem dX7_setLetter_33 : decode cX7_setLetter 33 = .ok (.iastore, 1) := by decide +kernel
theorem dX7_setLetter_34 : decode cX7_setLetter 34 = .ok (.return_, 1) := by decide +kernel
theorem dX7_remove_0 : decode cX7_remove 0 = .ok (.aload_n 0, 1) := by decide +kernel
theorem dX7_remove_1 : decode cX7_remove 1 = .ok (.iload_n 1, 1) := by decide +kernel
theorem dX7_remove_2 : decode cX7_remove 2 = .ok (.invokevirtual 29, 3) := by decide +kernel
theorem dX7_remove_5 : decode cX7_remove 5 = .ok (.ifnonnull 4, 3) := by decide +kernel
theorem dX7_remove_8 : decode cX7_remove 8 = .ok (.return_, 1) := by decide +kernel
theorem dX7_remove_9 : decode cX7_remove 9 = .ok (.iload_n 1, 1) := by decide +kernel
theorem dX7_remove_10 : decode cX7_remove 10 = .ok (.istore_n 2, 1) := by decide +kernel
theorem dX7_remove_11 : decode cX7_remove 11 = .ok (.iload_n 2, 1) := by decide +kernel
theorem dX7_remove_12 : decode cX7_remove 12 = .ok (.aload_n 0, 1) := by decide +kernel
theorem dX7_remove_13 : decode cX7_remove 13 = .ok (.getfield 15, 3) := by decide +kernel
theorem dX7_remove_16 : decode cX7_remove 16 = .ok (.iconst 1, 1) := by decide +kernel
theorem dX7_remove_17 : decode cX7_remove 17 = .ok (.isub, 1) := by decide +kernel
theorem dX7_remove_18 : decode cX7_remove 18 = .ok (.if_icmp .ge 54, 3) := by decide +kernel
theorem dX7_remove_21 : decode cX7_remove 21 = .ok (.iload_n 2, 1) := by decide +kernel
theorem dX7_remove_22 : decode cX7_remove 22 = .ok (.iconst 5, 1) := by decide +kernel
theorem dX7_remove_23 : decode cX7_remove 23 = .ok (.if_icmp .ge 49, 3) := by decide +kernel
theorem dX7_remove_26 : decode cX7_remove 26 = .ok (.aload_n 0, 1) := by decide +kernel
theorem dX7_remove_27 : decode cX7_remove 27 = .ok (.getfield 20, 3) := by decide +kernel
theorem dX7_remove_30 : decode cX7_remove 30 = .ok (.iload_n 2, 1) := by decide +kernel
theorem dX7_remove_31 : decode cX7_remove 31 = .ok (.aaload, 1) := by decide +kernel
theorem dX7_remove_32 : decode cX7_remove 32 = .ok (.aload_n 0, 1) := by decide +kernel
theorem dX7_remove_33 : decode cX7_remove 33 = .ok (.getfield 20, 3) := by decide +kernel
theorem dX7_remove_36 : decode cX7_remove 36 = .ok (.iload_n 2, 1) := by decide +kernel
theorem dX7_remove_37 : decode cX7_remove 37 = .ok (.iconst 1, 1) := by decide +kernel
theorem dX7_remove_38 : decode cX7_remove 38 = .ok (.iadd, 1) := by decide +kernel
theorem dX7_remove_39 : decode cX7_remove 39 = .ok (.aaload, 1) := by decide +kernel
theorem dX7_remove_40 : decode cX7_remove 40 = .ok (.invokevirtual 33, 3) := by decide +kernel
theorem dX7_remove_43 : decode cX7_remove 43 = .ok (.aload_n 0, 1) := by decide +kernel
theorem dX7_remove_44 : decode cX7_remove 44 = .ok (.getfield 24, 3) := by decide +kernel
theorem dX7_remove_47 : decode cX7_remove 47 = .ok (.iload_n 2, 1) := by decide +kernel
theorem dX7_remove_48 : decode cX7_remove 48 = .ok (.iconst 1, 1) := by decide +kernel
theorem dX7_remove_49 : decode cX7_remove 49 = .ok (.iadd, 1) := by decide +kernel
theorem dX7_remove_50 : decode cX7_remove 50 = .ok (.bipush 6, 2) := by decide +kernel
theorem dX7_remove_52 : decode cX7_remove 52 = .ok (.imul, 1) := by decide +kernel
theorem dX7_remove_53 : decode cX7_remove 53 = .ok (.aload_n 0, 1) := by decide +kernel
theorem dX7_remove_54 : decode cX7_remove 54 = .ok (.getfield 24, 3) := by decide +kernel
theorem dX7_remove_57 : decode cX7_remove 57 = .ok (.iload_n 2, 1) := by decide +kernel
theorem dX7_remove_58 : decode cX7_remove 58 = .ok (.bipush 6, 2) := by decide +kernel
theorem dX7_remove_60 : decode cX7_remove 60 = .ok (.imul, 1) := by decide +kernel
theorem dX7_remove_61 : decode cX7_remove 61 = .ok (.bipush 6, 2) := by decide +kernel
theorem dX7_remove_63 : decode cX7_remove 63 = .ok (.invokestatic 37, 3) := by decide +kernel
theorem dX7_remove_66 : decode cX7_remove 66 = .ok (.iinc 2 1, 3) := by decide +kernel
theorem dX7_remove_69 : decode cX7_remove 69 = .ok (.goto (-58), 3) := by decide +kernel
theorem dX7_remove_72 : decode cX7_remove 72 = .ok (.aload_n 0, 1) := by decide +kernel
theorem dX7_remove_73 : decode cX7_remove 73 = .ok (.dup, 1) := by decide +kernel
theorem dX7_remove_74 : decode cX7_remove 74 = .ok (.getfield 15, 3) := by decide +kernel
theorem dX7_remove_77 : decode cX7_remove 77 = .ok (.iconst 1, 1) := by decide +kernel
theorem dX7_remove_78 : decode cX7_remove 78 = .ok (.isub, 1) := by decide +kernel
theorem dX7_remove_79 : decode cX7_remove 79 = .ok (.putfield 15, 3) := by decide +kernel
theorem dX7_remove_82 : decode cX7_remove 82 = .ok (.return_, 1) := by decide +kernel
theorem dX8_init_0 : decode cX8_init 0 = .ok (.aload_n 0, 1) := by decide +kernel
theorem dX8_init_1 : decode cX8_init 1 = .ok (.invokespecial 3, 3) := by decide +kernel
theorem dX8_init_4 : decode cX8_init 4 = .ok (.aload_n 0, 1) := by decide +kernel
theorem dX8_init_5 : decode cX8_init 5 = .ok (.bipush 94, 2) := by decide +kernel
theorem dX8_init_7 : decode cX8_init 7 = .ok (.bipush 94, 2) := by decide +kernel
theorem dX8_init_9 : decode cX8_init 9 = .ok (.multianewarray 11 2, 4) := by decide +kernel
theorem dX8_init_13 : decode cX8_init 13 = .ok (.putfield 13, 3) := by decide +kernel
theorem dX8_init_16 : decode cX8_init 16 = .ok (.aload_n 0, 1) := by decide +kernel
theorem dX8_init_17 : decode cX8_init 17 = .ok (.bipush 94, 2) := by decide +kernel
theorem dX8_init_19 : decode cX8_init 19 = .ok (.newarray .boolean, 2) := by decide +kernel
theorem dX8_init_21 : decode cX8_init 21 = .ok (.putfield 16, 3) := by decide +kernel
theorem dX8_init_24 : decode cX8_init 24 = .ok (.aload_n 0, 1) := by decide +kernel
theorem dX8_init_25 : decode cX8_init 25 = .ok (.iconst 0, 1) := by decide +kernel
theorem dX8_init_26 : decode cX8_init 26 = .ok (.putfield 20, 3) := by decide +kernel
theorem dX8_init_29 : decode cX8_init 29 = .ok (.aload_n 0, 1) := by decide +kernel
theorem dX8_init_30 : decode cX8_init 30 = .ok (.iconst 0, 1) := by decide +kernel
theorem dX8_init_31 : decode cX8_init 31 = .ok (.putfield 24, 3) := by decide +kernel
theorem dX8_init_34 : decode cX8_init 34 = .ok (.aload_n 0, 1) := by decide +kernel
theorem dX8_init_35 : decode cX8_init 35 = .ok (.bipush 7, 2) := by decide +kernel
theorem dX8_init_37 : decode cX8_init 37 = .ok (.putfield 27, 3) := by decide +kernel
theorem dX8_init_40 : decode cX8_init 40 = .ok (.return_, 1) := by decide +kernel
theorem dX8_begin_0 : decode cX8_begin 0 = .ok (.aload_n 0, 1) := by decide +kernel
theorem dX8_begin_1 : decode cX8_begin 1 = .ok (.iload_n 1, 1) := by decide +kernel
theorem dX8_begin_2 : decode cX8_begin 2 = .ok (.bipush 94, 2) := by decide +kernel
theorem dX8_begin_4 : decode cX8_begin 4 = .ok (.invokestatic 30, 3) := by decide +kernel
theorem dX8_begin_7 : decode cX8_begin 7 = .ok (.putfield 20, 3) := by decide +kernel
theorem dX8_begin_10 : decode cX8_begin 10 = .ok (.aload_n 0, 1) := by decide +kernel
theorem dX8_begin_11 : decode cX8_begin 11 = .ok (.iload_n 2, 1) := by decide +kernel
theorem dX8_begin_12 : decode cX8_begin 12 = .ok (.aload_n 0, 1) := by decide +kernel
theorem dX8_begin_13 : decode cX8_begin 13 = .ok (.getfield 20, 3) := by decide +kernel
theorem dX8_begin_16 : decode cX8_begin 16 = .ok (.invokestatic 30, 3) := by decide +kernel
theorem dX8_begin_19 : decode cX8_begin 19 = .ok (.putfield 24, 3) := by decide +kernel
theorem dX8_begin_22 : decode cX8_begin 22 = .ok (.aload_n 0, 1) := by decide +kernel
theorem dX8_begin_23 : decode cX8_begin 23 = .ok (.iload_n 3, 1) := by decide +kernel
theorem dX8_begin_24 : decode cX8_begin 24 = .ok (.putfield 27, 3) := by decide +kernel
theorem dX8_begin_27 : decode cX8_begin 27 = .ok (.iconst 0, 1) := by decide +kernel
theorem dX8_begin_28 : decode cX8_begin 28 = .ok (.istore 4, 2) := by decide +kernel
theorem dX8_begin_30 : decode cX8_begin 30 = .ok (.iload 4, 2) := by decide +kernel
theorem dX8_begin_32 : decode cX8_begin 32 = .ok (.bipush 94, 2) := by decide +kernel
theorem dX8_begin_34 : decode cX8_begin 34 = .ok (.if_icmp .ge 17, 3) := by decide +kernel
theorem dX8_begin_37 : decode cX8_begin 37 = .ok (.aload_n 0, 1) := by decide +kernel
theorem dX8_begin_38 : decode cX8_begin 38 = .ok (.getfield 16, 3) := by decide +kernel
theorem dX8_begin_41 : decode cX8_begin 41 = .ok (.iload 4, 2) := by decide +kernel
theorem dX8_begin_43 : decode cX8_begin 43 = .ok (.iconst 0, 1) := by decide +kernel
theorem dX8_begin_44 : decode cX8_begin 44 = .ok (.bastore, 1) := by decide +kernel
theorem dX8_begin_45 : decode cX8_begin 45 = .ok (.iinc 4 1, 3) := by decide +kernel
theorem dX8_begin_48 : decode cX8_begin 48 = .ok (.goto (-18), 3) := by decide +kernel
theorem dX8_begin_51 : decode cX8_begin 51 = .ok (.return_, 1) := by decide +kernel
theorem dX8_add_0 : decode cX8_add 0 = .ok (.aload_n 0, 1) := by decide +kernel
theorem dX8_add_1 : decode cX8_add 1 = .ok (.getfield 27, 3) := by decide +kernel
theorem dX8_add_4 : decode cX8_add 4 = .ok (.iconst 2, 1) := by decide +kernel
theorem dX8_add_5 : decode cX8_add 5 = .ok (.if_icmp .lt 12, 3) := by decide +kernel
theorem dX8_add_8 : decode cX8_add 8 = .ok (.aload_n 1, 1) := by decide +kernel
theorem dX8_add_9 : decode cX8_add 9 = .ok (.arraylength, 1) := by decide +kernel
theorem dX8_add_10 : decode cX8_add 10 = .ok (.aload_n 0, 1) := by decide +kernel
theorem dX8_add_11 : decode cX8_add 11 = .ok (.getfield 20, 3) := by decide +kernel
theorem dX8_add_14 : decode cX8_add 14 = .ok (.if_icmp .ge 5, 3) := by decide +kernel
theorem dX8_add_17 : decode cX8_add 17 = .ok (.iconst 0, 1) := by decide +kernel
theorem dX8_add_18 : decode cX8_add 18 = .ok (.ireturn, 1) := by decide +kernel
theorem dX8_add_19 : decode cX8_add 19 = .ok (.iconst 0, 1) := by decide +kernel
theorem dX8_add_20 : decode cX8_add 20 = .ok (.istore_n 2, 1) := by decide +kernel
theorem dX8_add_21 : decode cX8_add 21 = .ok (.iload_n 2, 1) := by decide +kernel
theorem dX8_add_22 : decode cX8_add 22 = .ok (.aload_n 0, 1) := by decide +kernel
theorem dX8_add_23 : decode cX8_add 23 = .ok (.getfield 24, 3) := by decide +kernel
theorem dX8_add_26 : decode cX8_add 26 = .ok (.if_icmp .ge 93, 3) := by decide +kernel
theorem dX8_add_29 : decode cX8_add 29 = .ok (.aload_n 1, 1) := by decide +kernel
theorem dX8_add_30 : decode cX8_add 30 = .ok (.iload_n 2, 1) := by decide +kernel
theorem dX8_add_31 : decode cX8_add 31 = .ok (.iaload, 1) := by decide +kernel
theorem dX8_add_32 : decode cX8_add 32 = .ok (.istore_n 3, 1) := by decide +kernel
theorem dX8_add_33 : decode cX8_add 33 = .ok (.iload_n 3, 1) := by decide +kernel
theorem dX8_add_34 : decode cX8_add 34 = .ok (.ifCond .ne 6, 3) := by decide +kernel
theorem dX8_add_37 : decode cX8_add 37 = .ok (.goto 76, 3) := by decide +kernel
theorem dX8_add_40 : decode cX8_add 40 = .ok (.aload_n 0, 1) := by decide +kernel
theorem dX8_add_41 : decode cX8_add 41 = .ok (.getfield 16, 3) := by decide +kernel
theorem dX8_add_44 : decode cX8_add 44 = .ok (.iload_n 2, 1) := by decide +kernel
theorem dX8_add_45 : decode cX8_add 45 = .ok (.baload, 1) := by decide +kernel
theorem dX8_add_46 : decode cX8_add 46 = .ok (.ifCond .ne 11, 3) := by decide +kernel
theorem dX8_add_49 : decode cX8_add 49 = .ok (.aload_n 0, 1) := by decide +kernel
theorem dX8_add_50 : decode cX8_add 50 = .ok (.aload_n 1, 1) := by decide +kernel
theorem dX8_add_51 : decode cX8_add 51 = .ok (.iload_n 2, 1) := by decide +kernel
theorem dX8_add_52 : decode cX8_add 52 = .ok (.invokevirtual 36, 3) := by decide +kernel
theorem dX8_add_55 : decode cX8_add 55 = .ok (.iconst 1, 1) := by decide +kernel
theorem dX8_add_56 : decode cX8_add 56 = .ok (.ireturn, 1) := by decide +kernel
theorem dX8_add_57 : decode cX8_add 57 = .ok (.aload_n 0, 1) := by decide +kernel
theorem dX8_add_58 : decode cX8_add 58 = .ok (.getfield 27, 3) := by decide +kernel
theorem dX8_add_61 : decode cX8_add 61 = .ok (.iload_n 3, 1) := by decide +kernel
theorem dX8_add_62 : decode cX8_add 62 = .ok (.isub, 1) := by decide +kernel
theorem dX8_add_63 : decode cX8_add 63 = .ok (.istore 4, 2) := by decide +kernel
theorem dX8_add_65 : decode cX8_add 65 = .ok (.aload_n 0, 1) := by decide +kernel
theorem dX8_add_66 : decode cX8_add 66 = .ok (.getfield 13, 3) := by decide +kernel
theorem dX8_add_69 : decode cX8_add 69 = .ok (.iload_n 2, 1) := by decide +kernel
theorem dX8_add_70 : decode cX8_add 70 = .ok (.aaload, 1) := by decide +kernel
theorem dX8_add_71 : decode cX8_add 71 = .ok (.astore 5, 2) := by decide +kernel
theorem dX8_add_73 : decode cX8_add 73 = .ok (.iload_n 2, 1) := by decide +kernel
theorem dX8_add_74 : decode cX8_add 74 = .ok (.istore 6, 2) := by decide +kernel
theorem dX8_add_76 : decode cX8_add 76 = .ok (.iload 6, 2) := by decide +kernel
theorem dX8_add_78 : decode cX8_add 78 = .ok (.aload_n 0, 1) := by decide +kernel
theorem dX8_add_79 : decode cX8_add 79 = .ok (.getfield 20, 3) := by decide +kernel
theorem dX8_add_82 : decode cX8_add 82 = .ok (.if_icmp .ge 31, 3) := by decide +kernel
theorem dX8_add_85 : decode cX8_add 85 = .ok (.aload_n 1, 1) := by decide +kernel
theorem dX8_add_86 : decode cX8_add 86 = .ok (.iload 6, 2) := by decide +kernel
theorem dX8_add_88 : decode cX8_add 88 = .ok (.aload_n 1, 1) := by decide +kernel
theorem dX8_add_89 : decode cX8_add 89 = .ok (.iload 6, 2) := by decide +kernel
theorem dX8_add_91 : decode cX8_add 91 = .ok (.iaload, 1) := by decide +kernel
theorem dX8_add_92 : decode cX8_add 92 = .ok (.iload 4, 2) := by decide +kernel
theorem dX8_add_94 : decode cX8_add 94 = .ok (.aload 5, 2) := by decide +kernel
theorem dX8_add_96 : decode cX8_add 96 = .ok (.iload 6, 2) := by decide +kernel
theorem dX8_add_98 : decode cX8_add 98 = .ok (.iaload, 1) := by decide +kernel
theorem dX8_add_99 : decode cX8_add 99 = .ok (.imul, 1) := by decide +kernel
theorem dX8_add_100 : decode cX8_add 100 = .ok (.iadd, 1) := by decide +kernel
theorem dX8_add_101 : decode cX8_add 101 = .ok (.aload_n 0, 1) := by decide +kernel
theorem dX8_add_102 : decode cX8_add 102 = .ok (.getfield 27, 3) := by decide +kernel
theorem dX8_add_105 : decode cX8_add 105 = .ok (.irem, 1) := by decide +kernel
theorem dX8_add_106 : decode cX8_add 106 = .ok (.iastore, 1) := by decide +kernel
theorem dX8_add_107 : decode cX8_add 107 = .ok (.iinc 6 1, 3) := by decide +kernel
theorem dX8_add_110 : decode cX8_add 110 = .ok (.goto (-34), 3) := by decide +kernel
theorem dX8_add_113 : decode cX8_add 113 = .ok (.iinc 2 1, 3) := by decide +kernel
theorem dX8_add_116 : decode cX8_add 116 = .ok (.goto (-95), 3) := by decide +kernel
theorem dX8_add_119 : decode cX8_add 119 = .ok (.iconst 0, 1) := by decide +kernel
theorem dX8_add_120 : decode cX8_add 120 = .ok (.ireturn, 1) := by decide +kernel
theorem dX8_keep_0 : decode cX8_keep 0 = .ok (.aload_n 1, 1) := by decide +kernel
theorem dX8_keep_1 : decode cX8_keep 1 = .ok (.iload_n 2, 1) := by decide +kernel
theorem dX8_keep_2 : decode cX8_keep 2 = .ok (.iaload, 1) := by decide +kernel
theorem dX8_keep_3 : decode cX8_keep 3 = .ok (.aload_n 0, 1) := by decide +kernel
theorem dX8_keep_4 : decode cX8_keep 4 = .ok (.getfield 27, 3) := by decide +kernel
theorem dX8_keep_7 : decode cX8_keep 7 = .ok (.invokestatic 40, 3) := by decide +kernel
theorem dX8_keep_10 : decode cX8_keep 10 = .ok (.istore_n 3, 1) := by decide +kernel
theorem dX8_keep_11 : decode cX8_keep 11 = .ok (.iconst 0, 1) := by decide +kernel
theorem dX8_keep_12 : decode cX8_keep 12 = .ok (.istore 4, 2) := by decide +kernel
theorem dX8_keep_14 : decode cX8_keep 14 = .ok (.iload 4, 2) := by decide +kernel
theorem dX8_keep_16 : decode cX8_keep 16 = .ok (.aload_n 0, 1) := by decide +kernel
theorem dX8_keep_17 : decode cX8_keep 17 = .ok (.getfield 20, 3) := by decide +kernel
theorem dX8_keep_20 : decode cX8_keep 20 = .ok (.if_icmp .ge 31, 3) := by decide +kernel
theorem dX8_keep_23 : decode cX8_keep 23 = .ok (.aload_n 0, 1) := by decide +kernel
theorem dX8_keep_24 : decode cX8_keep 24 = .ok (.getfield 13, 3) := by decide +kernel
theorem dX8_keep_27 : decode cX8_keep 27 = .ok (.iload_n 2, 1) := by decide +kernel
theorem dX8_keep_28 : decode cX8_keep 28 = .ok (.aaload, 1) := by decide +kernel
theorem dX8_keep_29 : decode cX8_keep 29 = .ok (.iload 4, 2) := by decide +kernel
theorem dX8_keep_31 : decode cX8_keep 31 = .ok (.aload_n 1, 1) := by decide +kernel
theorem dX8_keep_32 : decode cX8_keep 32 = .ok (.iload 4, 2) := by decide +kernel
theorem dX8_keep_34 : decode cX8_keep 34 = .ok (.iaload, 1) := by decide +kernel
theorem dX8_keep_35 : decode cX8_keep 35 = .ok (.iload_n 3, 1) := by decide +kernel
theorem dX8_keep_36 : decode cX8_keep 36 = .ok (.imul, 1) := by decide +kernel
theorem dX8_keep_37 : decode cX8_keep 37 = .ok (.aload_n 0, 1) := by decide +kernel
theorem dX8_keep_38 : decode cX8_keep 38 = .ok (.getfield 27, 3) := by decide +kernel
theorem dX8_keep_41 : decode cX8_keep 41 = .ok (.invokestatic 43, 3) := by decide +kernel
theorem dX8_keep_44 : decode cX8_keep 44 = .ok (.iastore, 1) := by decide +kernel
theorem dX8_keep_45 : decode cX8_keep 45 = .ok (.iinc 4 1, 3) := by decide +kernel
theorem dX8_keep_48 : decode cX8_keep 48 = .ok (.goto (-34), 3) := by decide +kernel
theorem dX8_keep_51 : decode cX8_keep 51 = .ok (.aload_n 0, 1) := by decide +kernel
theorem dX8_keep_52 : decode cX8_keep 52 = .ok (.getfield 16, 3) := by decide +kernel
theorem dX8_keep_55 : decode cX8_keep 55 = .ok (.iload_n 2, 1) := by decide +kernel
theorem dX8_keep_56 : decode cX8_keep 56 = .ok (.iconst 1, 1) := by decide +kernel
theorem dX8_keep_57 : decode cX8_keep 57 = .ok (.bastore, 1) := by decide +kernel
theorem dX8_keep_58 : decode cX8_keep 58 = .ok (.return_, 1) := by decide +kernel
theorem dX9_init_0 : decode cX9_init 0 = .ok (.aload_n 0, 1) := by decide +kernel
theorem dX9_init_1 : decode cX9_init 1 = .ok (.invokespecial 3, 3) := by decide +kernel
theorem dX9_init_4 : decode cX9_init 4 = .ok (.aload_n 0, 1) := by decide +kernel
theorem dX9_init_5 : decode cX9_init 5 = .ok (.iconst 0, 1) := by decide +kernel
theorem dX9_init_6 : decode cX9_init 6 = .ok (.putfield 9, 3) := by decide +kernel
theorem dX9_init_9 : decode cX9_init 9 = .ok (.aload_n 0, 1) := by decide +kernel
theorem dX9_init_10 : decode cX9_init 10 = .ok (.iconst 0, 1) := by decide +kernel
theorem dX9_init_11 : decode cX9_init 11 = .ok (.putfield 15, 3) := by decide +kernel
theorem dX9_init_14 : decode cX9_init 14 = .ok (.aload_n 0, 1) := by decide +kernel
theorem dX9_init_15 : decode cX9_init 15 = .ok (.iconst 1, 1) := by decide +kernel
theorem dX9_init_16 : decode cX9_init 16 = .ok (.putfield 18, 3) := by decide +kernel
theorem dX9_init_19 : decode cX9_init 19 = .ok (.return_, 1) := by decide +kernel
theorem dX9_howMany_0 : decode cX9_howMany 0 = .ok (.iload_n 0, 1) := by decide +kernel
theorem dX9_howMany_1 : decode cX9_howMany 1 = .ok (.iload_n 0, 1) := by decide +kernel
theorem dX9_howMany_2 : decode cX9_howMany 2 = .ok (.imul, 1) := by decide +kernel
theorem dX9_howMany_3 : decode cX9_howMany 3 = .ok (.iload_n 0, 1) := by decide +kernel
theorem dX9_howMany_4 : decode cX9_howMany 4 = .ok (.iadd, 1) := by decide +kernel
theorem dX9_howMany_5 : decode cX9_howMany 5 = .ok (.iconst 1, 1) := by decide +kernel
theorem dX9_howMany_6 : decode cX9_howMany 6 = .ok (.iadd, 1) := by decide +kernel
theorem dX9_howMany_7 : decode cX9_howMany 7 = .ok (.ireturn, 1) := by decide +kernel
theorem dX9_isPoint_0 : decode cX9_isPoint 0 = .ok (.iload_n 0, 1) := by decide +kernel
theorem dX9_isPoint_1 : decode cX9_isPoint 1 = .ok (.ifCond .lt 15, 3) := by decide +kernel
theorem dX9_isPoint_4 : decode cX9_isPoint 4 = .ok (.iload_n 0, 1) := by decide +kernel
theorem dX9_isPoint_5 : decode cX9_isPoint 5 = .ok (.iload_n 1, 1) := by decide +kernel
theorem dX9_isPoint_6 : decode cX9_isPoint 6 = .ok (.invokestatic 21, 3) := by decide +kernel
theorem dX9_isPoint_9 : decode cX9_isPoint 9 = .ok (.if_icmp .ge 7, 3) := by decide +kernel
theorem dX9_isPoint_12 : decode cX9_isPoint 12 = .ok (.iconst 1, 1) := by decide +kernel
theorem dX9_isPoint_13 : decode cX9_isPoint 13 = .ok (.goto 4, 3) := by decide +kernel
theorem dX9_isPoint_16 : decode cX9_isPoint 16 = .ok (.iconst 0, 1) := by decide +kernel
theorem dX9_isPoint_17 : decode cX9_isPoint 17 = .ok (.ireturn, 1) := by decide +kernel
theorem dX9_go_0 : decode cX9_go 0 = .ok (.iload_n 2, 1) := by decide +kernel
theorem dX9_go_1 : decode cX9_go 1 = .ok (.iconst 2, 1) := by decide +kernel
theorem dX9_go_2 : decode cX9_go 2 = .ok (.if_icmp .lt 11, 3) := by decide +kernel
theorem dX9_go_5 : decode cX9_go 5 = .ok (.iload_n 1, 1) := by decide +kernel
theorem dX9_go_6 : decode cX9_go 6 = .ok (.iload_n 2, 1) := by decide +kernel
theorem dX9_go_7 : decode cX9_go 7 = .ok (.invokestatic 25, 3) := by decide +kernel
theorem dX9_go_10 : decode cX9_go 10 = .ok (.ifCond .ne 5, 3) := by decide +kernel
theorem dX9_go_13 : decode cX9_go 13 = .ok (.iconst 0, 1) := by decide +kernel
theorem dX9_go_14 : decode cX9_go 14 = .ok (.ireturn, 1) := by decide +kernel
theorem dX9_go_15 : decode cX9_go 15 = .ok (.iload_n 1, 1) := by decide +kernel
theorem dX9_go_16 : decode cX9_go 16 = .ok (.iload_n 2, 1) := by decide +kernel
theorem dX9_go_17 : decode cX9_go 17 = .ok (.iload_n 2, 1) := by decide +kernel
theorem dX9_go_18 : decode cX9_go 18 = .ok (.imul, 1) := by decide +kernel
theorem dX9_go_19 : decode cX9_go 19 = .ok (.if_icmp .ge 25, 3) := by decide +kernel
theorem dX9_go_22 : decode cX9_go 22 = .ok (.aload_n 0, 1) := by decide +kernel
theorem dX9_go_23 : decode cX9_go 23 = .ok (.iload_n 1, 1) := by decide +kernel
theorem dX9_go_24 : decode cX9_go 24 = .ok (.iload_n 2, 1) := by decide +kernel
theorem dX9_go_25 : decode cX9_go 25 = .ok (.idiv, 1) := by decide +kernel
theorem dX9_go_26 : decode cX9_go 26 = .ok (.putfield 9, 3) := by decide +kernel
theorem dX9_go_29 : decode cX9_go 29 = .ok (.aload_n 0, 1) := by decide +kernel
theorem dX9_go_30 : decode cX9_go 30 = .ok (.iload_n 1, 1) := by decide +kernel
theorem dX9_go_31 : decode cX9_go 31 = .ok (.iload_n 2, 1) := by decide +kernel
theorem dX9_go_32 : decode cX9_go 32 = .ok (.irem, 1) := by decide +kernel
theorem dX9_go_33 : decode cX9_go 33 = .ok (.putfield 15, 3) := by decide +kernel
theorem dX9_go_36 : decode cX9_go 36 = .ok (.aload_n 0, 1) := by decide +kernel
theorem dX9_go_37 : decode cX9_go 37 = .ok (.iconst 1, 1) := by decide +kernel
theorem dX9_go_38 : decode cX9_go 38 = .ok (.putfield 18, 3) := by decide +kernel
theorem dX9_go_41 : decode cX9_go 41 = .ok (.goto 53, 3) := by decide +kernel
theorem dX9_go_44 : decode cX9_go 44 = .ok (.iload_n 1, 1) := by decide +kernel
theorem dX9_go_45 : decode cX9_go 45 = .ok (.iload_n 2, 1) := by decide +kernel
theorem dX9_go_46 : decode cX9_go 46 = .ok (.iload_n 2, 1) := by decide +kernel
theorem dX9_go_47 : decode cX9_go 47 = .ok (.imul, 1) := by decide +kernel
theorem dX9_go_48 : decode cX9_go 48 = .ok (.iload_n 2, 1) := by decide +kernel
theorem dX9_go_49 : decode cX9_go 49 = .ok (.iadd, 1) := by decide +kernel
theorem dX9_go_50 : decode cX9_go 50 = .ok (.if_icmp .ne 7, 3) := by decide +kernel
theorem dX9_go_53 : decode cX9_go 53 = .ok (.iconst 1, 1) := by decide +kernel
theorem dX9_go_54 : decode cX9_go 54 = .ok (.goto 4, 3) := by decide +kernel
theorem dX9_go_57 : decode cX9_go 57 = .ok (.iconst 0, 1) := by decide +kernel
theorem dX9_go_58 : decode cX9_go 58 = .ok (.istore_n 3, 1) := by decide +kernel
theorem dX9_go_59 : decode cX9_go 59 = .ok (.aload_n 0, 1) := by decide +kernel
theorem dX9_go_60 : decode cX9_go 60 = .ok (.iload_n 3, 1) := by decide +kernel
theorem dX9_go_61 : decode cX9_go 61 = .ok (.ifCond .eq 7, 3) := by decide +kernel
theorem dX9_go_64 : decode cX9_go 64 = .ok (.iconst 0, 1) := by decide +kernel
theorem dX9_go_65 : decode cX9_go 65 = .ok (.goto 4, 3) := by decide +kernel
theorem dX9_go_68 : decode cX9_go 68 = .ok (.iconst 1, 1) := by decide +kernel
theorem dX9_go_69 : decode cX9_go 69 = .ok (.putfield 9, 3) := by decide +kernel
theorem dX9_go_72 : decode cX9_go 72 = .ok (.aload_n 0, 1) := by decide +kernel
theorem dX9_go_73 : decode cX9_go 73 = .ok (.iload_n 3, 1) := by decide +kernel
theorem dX9_go_74 : decode cX9_go 74 = .ok (.ifCond .eq 7, 3) := by decide +kernel
theorem dX9_go_77 : decode cX9_go 77 = .ok (.iconst 1, 1) := by decide +kernel
theorem dX9_go_78 : decode cX9_go 78 = .ok (.goto 8, 3) := by decide +kernel
theorem dX9_go_81 : decode cX9_go 81 = .ok (.iload_n 1, 1) := by decide +kernel
theorem dX9_go_82 : decode cX9_go 82 = .ok (.iload_n 2, 1) := by decide +kernel
theorem dX9_go_83 : decode cX9_go 83 = .ok (.iload_n 2, 1) := by decide +kernel
theorem dX9_go_84 : decode cX9_go 84 = .ok (.imul, 1) := by decide +kernel
theorem dX9_go_85 : decode cX9_go 85 = .ok (.isub, 1) := by decide +kernel
theorem dX9_go_86 : decode cX9_go 86 = .ok (.putfield 15, 3) := by decide +kernel
theorem dX9_go_89 : decode cX9_go 89 = .ok (.aload_n 0, 1) := by decide +kernel
theorem dX9_go_90 : decode cX9_go 90 = .ok (.iconst 0, 1) := by decide +kernel
theorem dX9_go_91 : decode cX9_go 91 = .ok (.putfield 18, 3) := by decide +kernel
theorem dX9_go_94 : decode cX9_go 94 = .ok (.iconst 1, 1) := by decide +kernel
theorem dX9_go_95 : decode cX9_go 95 = .ok (.ireturn, 1) := by decide +kernel
theorem dX9_valueOf_0 : decode cX9_valueOf 0 = .ok (.iload_n 2, 1) := by decide +kernel
theorem dX9_valueOf_1 : decode cX9_valueOf 1 = .ok (.iconst 2, 1) := by decide +kernel
theorem dX9_valueOf_2 : decode cX9_valueOf 2 = .ok (.if_icmp .ge 5, 3) := by decide +kernel
theorem dX9_valueOf_5 : decode cX9_valueOf 5 = .ok (.iconst 0, 1) := by decide +kernel
theorem dX9_valueOf_6 : decode cX9_valueOf 6 = .ok (.ireturn, 1) := by decide +kernel
theorem dX9_valueOf_7 : decode cX9_valueOf 7 = .ok (.aload_n 0, 1) := by decide +kernel
theorem dX9_valueOf_8 : decode cX9_valueOf 8 = .ok (.getfield 18, 3) := by decide +kernel
theorem dX9_valueOf_11 : decode cX9_valueOf 11 = .ok (.ifCond .ne 10, 3) := by decide +kernel
theorem dX9_valueOf_14 : decode cX9_valueOf 14 = .ok (.aload_n 1, 1) := by decide +kernel
theorem dX9_valueOf_15 : decode cX9_valueOf 15 = .ok (.invokevirtual 29, 3) := by decide +kernel
theorem dX9_valueOf_18 : decode cX9_valueOf 18 = .ok (.goto 4, 3) := by decide +kernel
theorem dX9_valueOf_21 : decode cX9_valueOf 21 = .ok (.iconst (-1), 1) := by decide +kernel
theorem dX9_valueOf_22 : decode cX9_valueOf 22 = .ok (.istore_n 3, 1) := by decide +kernel
theorem dX9_valueOf_23 : decode cX9_valueOf 23 = .ok (.iconst 0, 1) := by decide +kernel
theorem dX9_valueOf_24 : decode cX9_valueOf 24 = .ok (.istore 4, 2) := by decide +kernel
theorem dX9_valueOf_26 : decode cX9_valueOf 26 = .ok (.iconst 4, 1) := by decide +kernel
theorem dX9_valueOf_27 : decode cX9_valueOf 27 = .ok (.istore 5, 2) := by decide +kernel
theorem dX9_valueOf_29 : decode cX9_valueOf 29 = .ok (.iload 5, 2) := by decide +kernel
theorem dX9_valueOf_31 : decode cX9_valueOf 31 = .ok (.ifCond .lt 88, 3) := by decide +kernel
theorem dX9_valueOf_34 : decode cX9_valueOf 34 = .ok (.iconst 0, 1) := by decide +kernel
theorem dX9_valueOf_35 : decode cX9_valueOf 35 = .ok (.istore 6, 2) := by decide +kernel
theorem dX9_valueOf_37 : decode cX9_valueOf 37 = .ok (.iconst 4, 1) := by decide +kernel
theorem dX9_valueOf_38 : decode cX9_valueOf 38 = .ok (.iload 5, 2) := by decide +kernel
theorem dX9_valueOf_40 : decode cX9_valueOf 40 = .ok (.isub, 1) := by decide +kernel
theorem dX9_valueOf_41 : decode cX9_valueOf 41 = .ok (.istore 7, 2) := by decide +kernel
theorem dX9_valueOf_43 : decode cX9_valueOf 43 = .ok (.iload 7, 2) := by decide +kernel
theorem dX9_valueOf_45 : decode cX9_valueOf 45 = .ok (.ifCond .lt 54, 3) := by decide +kernel
theorem dX9_valueOf_48 : decode cX9_valueOf 48 = .ok (.iload 6, 2) := by decide +kernel
theorem dX9_valueOf_50 : decode cX9_valueOf 50 = .ok (.aload_n 0, 1) := by decide +kernel
theorem dX9_valueOf_51 : decode cX9_valueOf 51 = .ok (.getfield 15, 3) := by decide +kernel
theorem dX9_valueOf_54 : decode cX9_valueOf 54 = .ok (.imul, 1) := by decide +kernel
theorem dX9_valueOf_55 : decode cX9_valueOf 55 = .ok (.iload_n 2, 1) := by decide +kernel
theorem dX9_valueOf_56 : decode cX9_valueOf 56 = .ok (.irem, 1) := by decide +kernel
theorem dX9_valueOf_57 : decode cX9_valueOf 57 = .ok (.istore 6, 2) := by decide +kernel
theorem dX9_valueOf_59 : decode cX9_valueOf 59 = .ok (.aload_n 0, 1) := by decide +kernel
theorem dX9_valueOf_60 : decode cX9_valueOf 60 = .ok (.getfield 18, 3) := by decide +kernel
theorem dX9_valueOf_63 : decode cX9_valueOf 63 = .ok (.iconst 1, 1) := by decide +kernel
theorem dX9_valueOf_64 : decode cX9_valueOf 64 = .ok (.if_icmp .eq 12, 3) := by decide +kernel
theorem dX9_valueOf_67 : decode cX9_valueOf 67 = .ok (.iload 5, 2) := by decide +kernel
theorem dX9_valueOf_69 : decode cX9_valueOf 69 = .ok (.iload 7, 2) := by decide +kernel
theorem dX9_valueOf_71 : decode cX9_valueOf 71 = .ok (.iadd, 1) := by decide +kernel
theorem dX9_valueOf_72 : decode cX9_valueOf 72 = .ok (.iload_n 3, 1) := by decide +kernel
theorem dX9_valueOf_73 : decode cX9_valueOf 73 = .ok (.if_icmp .ne 20, 3) := by decide +kernel
theorem dX9_valueOf_76 : decode cX9_valueOf 76 = .ok (.iload 6, 2) := by decide +kernel
theorem dX9_valueOf_78 : decode cX9_valueOf 78 = .ok (.aload_n 1, 1) := by decide +kernel
theorem dX9_valueOf_79 : decode cX9_valueOf 79 = .ok (.getfield 35, 3) := by decide +kernel
theorem dX9_valueOf_82 : decode cX9_valueOf 82 = .ok (.iload 5, 2) := by decide +kernel
theorem dX9_valueOf_84 : decode cX9_valueOf 84 = .ok (.iconst 5, 1) := by decide +kernel
theorem dX9_valueOf_85 : decode cX9_valueOf 85 = .ok (.imul, 1) := by decide +kernel
theorem dX9_valueOf_86 : decode cX9_valueOf 86 = .ok (.iload 7, 2) := by decide +kernel
theorem dX9_valueOf_88 : decode cX9_valueOf 88 = .ok (.iadd, 1) := by decide +kernel
theorem dX9_valueOf_89 : decode cX9_valueOf 89 = .ok (.iaload, 1) := by decide +kernel
theorem dX9_valueOf_90 : decode cX9_valueOf 90 = .ok (.iadd, 1) := by decide +kernel
theorem dX9_valueOf_91 : decode cX9_valueOf 91 = .ok (.istore 6, 2) := by decide +kernel
theorem dX9_valueOf_93 : decode cX9_valueOf 93 = .ok (.iinc 7 (-1), 3) := by decide +kernel
theorem dX9_valueOf_96 : decode cX9_valueOf 96 = .ok (.goto (-53), 3) := by decide +kernel
theorem dX9_valueOf_99 : decode cX9_valueOf 99 = .ok (.iload 4, 2) := by decide +kernel
theorem dX9_valueOf_101 : decode cX9_valueOf 101 = .ok (.aload_n 0, 1) := by decide +kernel
theorem dX9_valueOf_102 : decode cX9_valueOf 102 = .ok (.getfield 9, 3) := by decide +kernel
theorem dX9_valueOf_105 : decode cX9_valueOf 105 = .ok (.imul, 1) := by decide +kernel
theorem dX9_valueOf_106 : decode cX9_valueOf 106 = .ok (.iload 6, 2) := by decide +kernel
theorem dX9_valueOf_108 : decode cX9_valueOf 108 = .ok (.iadd, 1) := by decide +kernel
theorem dX9_valueOf_109 : decode cX9_valueOf 109 = .ok (.iload_n 2, 1) := by decide +kernel
theorem dX9_valueOf_110 : decode cX9_valueOf 110 = .ok (.irem, 1) := by decide +kernel
theorem dX9_valueOf_111 : decode cX9_valueOf 111 = .ok (.istore 4, 2) := by decide +kernel
theorem dX9_valueOf_113 : decode cX9_valueOf 113 = .ok (.iinc 5 (-1), 3) := by decide +kernel
theorem dX9_valueOf_116 : decode cX9_valueOf 116 = .ok (.goto (-87), 3) := by decide +kernel
theorem dX9_valueOf_119 : decode cX9_valueOf 119 = .ok (.iload 4, 2) := by decide +kernel
theorem dX9_valueOf_121 : decode cX9_valueOf 121 = .ok (.ireturn, 1) := by decide +kernel
theorem dX10_init_0 : decode cX10_init 0 = .ok (.aload_n 0, 1) := by decide +kernel
theorem dX10_init_1 : decode cX10_init 1 = .ok (.invokespecial 3, 3) := by decide +kernel
theorem dX10_init_4 : decode cX10_init 4 = .ok (.aload_n 0, 1) := by decide +kernel
theorem dX10_init_5 : decode cX10_init 5 = .ok (.new 9, 3) := by decide +kernel
theorem dX10_init_8 : decode cX10_init 8 = .ok (.dup, 1) := by decide +kernel
theorem dX10_init_9 : decode cX10_init 9 = .ok (.invokespecial 11, 3) := by decide +kernel
theorem dX10_init_12 : decode cX10_init 12 = .ok (.putfield 12, 3) := by decide +kernel
theorem dX10_init_15 : decode cX10_init 15 = .ok (.aload_n 0, 1) := by decide +kernel
theorem dX10_init_16 : decode cX10_init 16 = .ok (.iconst 5, 1) := by decide +kernel
theorem dX10_init_17 : decode cX10_init 17 = .ok (.newarray .int, 2) := by decide +kernel
theorem dX10_init_19 : decode cX10_init 19 = .ok (.putfield 18, 3) := by decide +kernel
theorem dX10_init_22 : decode cX10_init 22 = .ok (.aload_n 0, 1) := by decide +kernel
theorem dX10_init_23 : decode cX10_init 23 = .ok (.bipush 7, 2) := by decide +kernel
theorem dX10_init_25 : decode cX10_init 25 = .ok (.putfield 22, 3) := by decide +kernel
theorem dX10_init_28 : decode cX10_init 28 = .ok (.return_, 1) := by decide +kernel
theorem dX10_look_0 : decode cX10_look 0 = .ok (.aload_n 0, 1) := by decide +kernel
theorem dX10_look_1 : decode cX10_look 1 = .ok (.iload_n 3, 1) := by decide +kernel
theorem dX10_look_2 : decode cX10_look 2 = .ok (.putfield 22, 3) := by decide +kernel
theorem dX10_look_5 : decode cX10_look 5 = .ok (.aload_n 0, 1) := by decide +kernel
theorem dX10_look_6 : decode cX10_look 6 = .ok (.getfield 12, 3) := by decide +kernel
theorem dX10_look_9 : decode cX10_look 9 = .ok (.iconst 0, 1) := by decide +kernel
theorem dX10_look_10 : decode cX10_look 10 = .ok (.invokevirtual 26, 3) := by decide +kernel
theorem dX10_look_13 : decode cX10_look 13 = .ok (.aload_n 1, 1) := by decide +kernel
theorem dX10_look_14 : decode cX10_look 14 = .ok (.invokevirtual 30, 3) := by decide +kernel
theorem dX10_look_17 : decode cX10_look 17 = .ok (.istore 4, 2) := by decide +kernel
theorem dX10_look_19 : decode cX10_look 19 = .ok (.iconst 0, 1) := by decide +kernel
theorem dX10_look_20 : decode cX10_look 20 = .ok (.istore 5, 2) := by decide +kernel
theorem dX10_look_22 : decode cX10_look 22 = .ok (.iload 5, 2) := by decide +kernel
theorem dX10_look_24 : decode cX10_look 24 = .ok (.iconst 4, 1) := by decide +kernel
theorem dX10_look_25 : decode cX10_look 25 = .ok (.if_icmp .gt 80, 3) := by decide +kernel
theorem dX10_look_28 : decode cX10_look 28 = .ok (.iconst 0, 1) := by decide +kernel
theorem dX10_look_29 : decode cX10_look 29 = .ok (.istore 6, 2) := by decide +kernel
theorem dX10_look_31 : decode cX10_look 31 = .ok (.iload 6, 2) := by decide +kernel
theorem dX10_look_33 : decode cX10_look 33 = .ok (.iconst 4, 1) := by decide +kernel
theorem dX10_look_34 : decode cX10_look 34 = .ok (.iload 5, 2) := by decide +kernel
theorem dX10_look_36 : decode cX10_look 36 = .ok (.isub, 1) := by decide +kernel
theorem dX10_look_37 : decode cX10_look 37 = .ok (.if_icmp .gt 62, 3) := by decide +kernel
theorem dX10_look_40 : decode cX10_look 40 = .ok (.aload_n 1, 1) := by decide +kernel
theorem dX10_look_41 : decode cX10_look 41 = .ok (.iload 5, 2) := by decide +kernel
theorem dX10_look_43 : decode cX10_look 43 = .ok (.iload 6, 2) := by decide +kernel
theorem dX10_look_45 : decode cX10_look 45 = .ok (.invokevirtual 34, 3) := by decide +kernel
theorem dX10_look_48 : decode cX10_look 48 = .ok (.istore 7, 2) := by decide +kernel
theorem dX10_look_50 : decode cX10_look 50 = .ok (.iload 7, 2) := by decide +kernel
theorem dX10_look_52 : decode cX10_look 52 = .ok (.ifCond .ne 6, 3) := by decide +kernel
theorem dX10_look_55 : decode cX10_look 55 = .ok (.goto 38, 3) := by decide +kernel
theorem dX10_look_58 : decode cX10_look 58 = .ok (.aload_n 2, 1) := by decide +kernel
theorem dX10_look_59 : decode cX10_look 59 = .ok (.getfield 38, 3) := by decide +kernel
theorem dX10_look_62 : decode cX10_look 62 = .ok (.iconst 1, 1) := by decide +kernel
theorem dX10_look_63 : decode cX10_look 63 = .ok (.if_icmp .ne 17, 3) := by decide +kernel
theorem dX10_look_66 : decode cX10_look 66 = .ok (.aload_n 0, 1) := by decide +kernel
theorem dX10_look_67 : decode cX10_look 67 = .ok (.iload 7, 2) := by decide +kernel
theorem dX10_look_69 : decode cX10_look 69 = .ok (.iload 5, 2) := by decide +kernel
theorem dX10_look_71 : decode cX10_look 71 = .ok (.iload 6, 2) := by decide +kernel
theorem dX10_look_73 : decode cX10_look 73 = .ok (.aload_n 2, 1) := by decide +kernel
theorem dX10_look_74 : decode cX10_look 74 = .ok (.invokevirtual 43, 3) := by decide +kernel
theorem dX10_look_77 : decode cX10_look 77 = .ok (.goto 16, 3) := by decide +kernel
theorem dX10_look_80 : decode cX10_look 80 = .ok (.aload_n 0, 1) := by decide +kernel
theorem dX10_look_81 : decode cX10_look 81 = .ok (.iload 7, 2) := by decide +kernel
theorem dX10_look_83 : decode cX10_look 83 = .ok (.iload 5, 2) := by decide +kernel
theorem dX10_look_85 : decode cX10_look 85 = .ok (.iload 6, 2) := by decide +kernel
theorem dX10_look_87 : decode cX10_look 87 = .ok (.iload 4, 2) := by decide +kernel
theorem dX10_look_89 : decode cX10_look 89 = .ok (.aload_n 2, 1) := by decide +kernel
theorem dX10_look_90 : decode cX10_look 90 = .ok (.invokevirtual 47, 3) := by decide +kernel
theorem dX10_look_93 : decode cX10_look 93 = .ok (.iinc 6 1, 3) := by decide +kernel
theorem dX10_look_96 : decode cX10_look 96 = .ok (.goto (-65), 3) := by decide +kernel
theorem dX10_look_99 : decode cX10_look 99 = .ok (.iinc 5 1, 3) := by decide +kernel
theorem dX10_look_102 : decode cX10_look 102 = .ok (.goto (-80), 3) := by decide +kernel
theorem dX10_look_105 : decode cX10_look 105 = .ok (.return_, 1) := by decide +kernel
theorem dX10_addNear_0 : decode cX10_addNear 0 = .ok (.iconst 0, 1) := by decide +kernel
theorem dX10_addNear_1 : decode cX10_addNear 1 = .ok (.istore 5, 2) := by decide +kernel
theorem dX10_addNear_3 : decode cX10_addNear 3 = .ok (.iload 5, 2) := by decide +kernel
theorem dX10_addNear_5 : decode cX10_addNear 5 = .ok (.iload_n 2, 1) := by decide +kernel
theorem dX10_addNear_6 : decode cX10_addNear 6 = .ok (.if_icmp .gt 77, 3) := by decide +kernel
theorem dX10_addNear_9 : decode cX10_addNear 9 = .ok (.iload_n 1, 1) := by decide +kernel
theorem dX10_addNear_10 : decode cX10_addNear 10 = .ok (.aload_n 0, 1) := by decide +kernel
theorem dX10_addNear_11 : decode cX10_addNear 11 = .ok (.aload 4, 2) := by decide +kernel
theorem dX10_addNear_13 : decode cX10_addNear 13 = .ok (.getfield 51, 3) := by decide +kernel
theorem dX10_addNear_16 : decode cX10_addNear 16 = .ok (.iload_n 2, 1) := by decide +kernel
theorem dX10_addNear_17 : decode cX10_addNear 17 = .ok (.iload 5, 2) := by decide +kernel
theorem dX10_addNear_19 : decode cX10_addNear 19 = .ok (.invokevirtual 54, 3) := by decide +kernel
theorem dX10_addNear_22 : decode cX10_addNear 22 = .ok (.imul, 1) := by decide +kernel
theorem dX10_addNear_23 : decode cX10_addNear 23 = .ok (.aload_n 0, 1) := by decide +kernel
theorem dX10_addNear_24 : decode cX10_addNear 24 = .ok (.getfield 22, 3) := by decide +kernel
theorem dX10_addNear_27 : decode cX10_addNear 27 = .ok (.invokestatic 58, 3) := by decide +kernel
theorem dX10_addNear_30 : decode cX10_addNear 30 = .ok (.istore 6, 2) := by decide +kernel
theorem dX10_addNear_32 : decode cX10_addNear 32 = .ok (.iconst 0, 1) := by decide +kernel
theorem dX10_addNear_33 : decode cX10_addNear 33 = .ok (.istore 7, 2) := by decide +kernel
theorem dX10_addNear_35 : decode cX10_addNear 35 = .ok (.iload 7, 2) := by decide +kernel
theorem dX10_addNear_37 : decode cX10_addNear 37 = .ok (.iload_n 3, 1) := by decide +kernel
theorem dX10_addNear_38 : decode cX10_addNear 38 = .ok (.if_icmp .gt 39, 3) := by decide +kernel
theorem dX10_addNear_41 : decode cX10_addNear 41 = .ok (.aload_n 0, 1) := by decide +kernel
theorem dX10_addNear_42 : decode cX10_addNear 42 = .ok (.getfield 12, 3) := by decide +kernel
theorem dX10_addNear_45 : decode cX10_addNear 45 = .ok (.iload 5, 2) := by decide +kernel
theorem dX10_addNear_47 : decode cX10_addNear 47 = .ok (.iload 7, 2) := by decide +kernel
theorem dX10_addNear_49 : decode cX10_addNear 49 = .ok (.iload 6, 2) := by decide +kernel
theorem dX10_addNear_51 : decode cX10_addNear 51 = .ok (.aload_n 0, 1) := by decide +kernel
theorem dX10_addNear_52 : decode cX10_addNear 52 = .ok (.aload 4, 2) := by decide +kernel
theorem dX10_addNear_54 : decode cX10_addNear 54 = .ok (.getfield 61, 3) := by decide +kernel
theorem dX10_addNear_57 : decode cX10_addNear 57 = .ok (.iload_n 3, 1) := by decide +kernel
theorem dX10_addNear_58 : decode cX10_addNear 58 = .ok (.iload 7, 2) := by decide +kernel
theorem dX10_addNear_60 : decode cX10_addNear 60 = .ok (.invokevirtual 54, 3) := by decide +kernel
theorem dX10_addNear_63 : decode cX10_addNear 63 = .ok (.imul, 1) := by decide +kernel
theorem dX10_addNear_64 : decode cX10_addNear 64 = .ok (.aload_n 0, 1) := by decide +kernel
theorem dX10_addNear_65 : decode cX10_addNear 65 = .ok (.getfield 22, 3) := by decide +kernel
theorem dX10_addNear_68 : decode cX10_addNear 68 = .ok (.invokevirtual 64, 3) := by decide +kernel
theorem dX10_addNear_71 : decode cX10_addNear 71 = .ok (.iinc 7 1, 3) := by decide +kernel
theorem dX10_addNear_74 : decode cX10_addNear 74 = .ok (.goto (-39), 3) := by decide +kernel
theorem dX10_addNear_77 : decode cX10_addNear 77 = .ok (.iinc 5 1, 3) := by decide +kernel
theorem dX10_addNear_80 : decode cX10_addNear 80 = .ok (.goto (-77), 3) := by decide +kernel
theorem dX10_addNear_83 : decode cX10_addNear 83 = .ok (.return_, 1) := by decide +kernel
theorem dX10_addFar_0 : decode cX10_addFar 0 = .ok (.aload 5, 2) := by decide +kernel
theorem dX10_addFar_2 : decode cX10_addFar 2 = .ok (.getfield 51, 3) := by decide +kernel
theorem dX10_addFar_5 : decode cX10_addFar 5 = .ok (.ifCond .ne 23, 3) := by decide +kernel
theorem dX10_addFar_8 : decode cX10_addFar 8 = .ok (.aload_n 0, 1) := by decide +kernel
theorem dX10_addFar_9 : decode cX10_addFar 9 = .ok (.getfield 12, 3) := by decide +kernel
theorem dX10_addFar_12 : decode cX10_addFar 12 = .ok (.iload_n 2, 1) := by decide +kernel
theorem dX10_addFar_13 : decode cX10_addFar 13 = .ok (.iload 4, 2) := by decide +kernel
theorem dX10_addFar_15 : decode cX10_addFar 15 = .ok (.iload_n 2, 1) := by decide +kernel
theorem dX10_addFar_16 : decode cX10_addFar 16 = .ok (.isub, 1) := by decide +kernel
theorem dX10_addFar_17 : decode cX10_addFar 17 = .ok (.iload_n 3, 1) := by decide +kernel
theorem dX10_addFar_18 : decode cX10_addFar 18 = .ok (.isub, 1) := by decide +kernel
theorem dX10_addFar_19 : decode cX10_addFar 19 = .ok (.iload_n 1, 1) := by decide +kernel
theorem dX10_addFar_20 : decode cX10_addFar 20 = .ok (.aload_n 0, 1) := by decide +kernel
theorem dX10_addFar_21 : decode cX10_addFar 21 = .ok (.getfield 22, 3) := by decide +kernel
theorem dX10_addFar_24 : decode cX10_addFar 24 = .ok (.invokevirtual 64, 3) := by decide +kernel
theorem dX10_addFar_27 : decode cX10_addFar 27 = .ok (.return_, 1) := by decide +kernel
theorem dX10_addFar_28 : decode cX10_addFar 28 = .ok (.iconst 0, 1) := by decide +kernel
theorem dX10_addFar_29 : decode cX10_addFar 29 = .ok (.istore 6, 2) := by decide +kernel
theorem dX10_addFar_31 : decode cX10_addFar 31 = .ok (.iload 6, 2) := by decide +kernel
theorem dX10_addFar_33 : decode cX10_addFar 33 = .ok (.iload_n 3, 1) := by decide +kernel
theorem dX10_addFar_34 : decode cX10_addFar 34 = .ok (.if_icmp .gt 42, 3) := by decide +kernel
theorem dX10_addFar_37 : decode cX10_addFar 37 = .ok (.aload_n 0, 1) := by decide +kernel
theorem dX10_addFar_38 : decode cX10_addFar 38 = .ok (.getfield 12, 3) := by decide +kernel
theorem dX10_addFar_41 : decode cX10_addFar 41 = .ok (.iload 6, 2) := by decide +kernel
theorem dX10_addFar_43 : decode cX10_addFar 43 = .ok (.iload 4, 2) := by decide +kernel
theorem dX10_addFar_45 : decode cX10_addFar 45 = .ok (.iload_n 2, 1) := by decide +kernel
theorem dX10_addFar_46 : decode cX10_addFar 46 = .ok (.isub, 1) := by decide +kernel
theorem dX10_addFar_47 : decode cX10_addFar 47 = .ok (.iload_n 3, 1) := by decide +kernel
theorem dX10_addFar_48 : decode cX10_addFar 48 = .ok (.isub, 1) := by decide +kernel
theorem dX10_addFar_49 : decode cX10_addFar 49 = .ok (.iload_n 1, 1) := by decide +kernel
theorem dX10_addFar_50 : decode cX10_addFar 50 = .ok (.aload_n 0, 1) := by decide +kernel
theorem dX10_addFar_51 : decode cX10_addFar 51 = .ok (.aload 5, 2) := by decide +kernel
theorem dX10_addFar_53 : decode cX10_addFar 53 = .ok (.getfield 61, 3) := by decide +kernel
theorem dX10_addFar_56 : decode cX10_addFar 56 = .ok (.iload_n 3, 1) := by decide +kernel
theorem dX10_addFar_57 : decode cX10_addFar 57 = .ok (.iload 6, 2) := by decide +kernel
theorem dX10_addFar_59 : decode cX10_addFar 59 = .ok (.invokevirtual 54, 3) := by decide +kernel
theorem dX10_addFar_62 : decode cX10_addFar 62 = .ok (.imul, 1) := by decide +kernel
theorem dX10_addFar_63 : decode cX10_addFar 63 = .ok (.aload_n 0, 1) := by decide +kernel
theorem dX10_addFar_64 : decode cX10_addFar 64 = .ok (.getfield 22, 3) := by decide +kernel
theorem dX10_addFar_67 : decode cX10_addFar 67 = .ok (.invokevirtual 64, 3) := by decide +kernel
theorem dX10_addFar_70 : decode cX10_addFar 70 = .ok (.iinc 6 1, 3) := by decide +kernel
theorem dX10_addFar_73 : decode cX10_addFar 73 = .ok (.goto (-42), 3) := by decide +kernel
theorem dX10_addFar_76 : decode cX10_addFar 76 = .ok (.return_, 1) := by decide +kernel
theorem dX10_shifted_0 : decode cX10_shifted 0 = .ok (.iload_n 2, 1) := by decide +kernel
theorem dX10_shifted_1 : decode cX10_shifted 1 = .ok (.iconst 0, 1) := by decide +kernel
theorem dX10_shifted_2 : decode cX10_shifted 2 = .ok (.invokestatic 68, 3) := by decide +kernel
theorem dX10_shifted_5 : decode cX10_shifted 5 = .ok (.ifCond .eq 11, 3) := by decide +kernel
theorem dX10_shifted_8 : decode cX10_shifted 8 = .ok (.iload_n 3, 1) := by decide +kernel
theorem dX10_shifted_9 : decode cX10_shifted 9 = .ok (.iconst 0, 1) := by decide +kernel
theorem dX10_shifted_10 : decode cX10_shifted 10 = .ok (.invokestatic 68, 3) := by decide +kernel
theorem dX10_shifted_13 : decode cX10_shifted 13 = .ok (.ifCond .ne 5, 3) := by decide +kernel
theorem dX10_shifted_16 : decode cX10_shifted 16 = .ok (.iconst 0, 1) := by decide +kernel
theorem dX10_shifted_17 : decode cX10_shifted 17 = .ok (.ireturn, 1) := by decide +kernel
theorem dX10_shifted_18 : decode cX10_shifted 18 = .ok (.getstatic 72, 3) := by decide +kernel
theorem dX10_shifted_21 : decode cX10_shifted 21 = .ok (.iload_n 2, 1) := by decide +kernel
theorem dX10_shifted_22 : decode cX10_shifted 22 = .ok (.iconst 5, 1) := by decide +kernel
theorem dX10_shifted_23 : decode cX10_shifted 23 = .ok (.imul, 1) := by decide +kernel
theorem dX10_shifted_24 : decode cX10_shifted 24 = .ok (.iload_n 3, 1) := by decide +kernel
theorem dX10_shifted_25 : decode cX10_shifted 25 = .ok (.iadd, 1) := by decide +kernel
theorem dX10_shifted_26 : decode cX10_shifted 26 = .ok (.iaload, 1) := by decide +kernel
theorem dX10_shifted_27 : decode cX10_shifted 27 = .ok (.iload_n 1, 1) := by decide +kernel
theorem dX10_shifted_28 : decode cX10_shifted 28 = .ok (.iload_n 2, 1) := by decide +kernel
theorem dX10_shifted_29 : decode cX10_shifted 29 = .ok (.iload_n 3, 1) := by decide +kernel
theorem dX10_shifted_30 : decode cX10_shifted 30 = .ok (.isub, 1) := by decide +kernel
theorem dX10_shifted_31 : decode cX10_shifted 31 = .ok (.aload_n 0, 1) := by decide +kernel
theorem dX10_shifted_32 : decode cX10_shifted 32 = .ok (.getfield 22, 3) := by decide +kernel
theorem dX10_shifted_35 : decode cX10_shifted 35 = .ok (.invokestatic 75, 3) := by decide +kernel
theorem dX10_shifted_38 : decode cX10_shifted 38 = .ok (.imul, 1) := by decide +kernel
theorem dX10_shifted_39 : decode cX10_shifted 39 = .ok (.aload_n 0, 1) := by decide +kernel
theorem dX10_shifted_40 : decode cX10_shifted 40 = .ok (.getfield 22, 3) := by decide +kernel
theorem dX10_shifted_43 : decode cX10_shifted 43 = .ok (.invokestatic 58, 3) := by decide +kernel
theorem dX10_shifted_46 : decode cX10_shifted 46 = .ok (.ireturn, 1) := by decide +kernel
theorem dX10_least_0 : decode cX10_least 0 = .ok (.iconst 0, 1) := by decide +kernel
theorem dX10_least_1 : decode cX10_least 1 = .ok (.istore_n 1, 1) := by decide +kernel
theorem dX10_least_2 : decode cX10_least 2 = .ok (.iload_n 1, 1) := by decide +kernel
theorem dX10_least_3 : decode cX10_least 3 = .ok (.iconst 4, 1) := by decide +kernel
theorem dX10_least_4 : decode cX10_least 4 = .ok (.if_icmp .gt 22, 3) := by decide +kernel
theorem dX10_least_7 : decode cX10_least 7 = .ok (.aload_n 0, 1) := by decide +kernel
theorem dX10_least_8 : decode cX10_least 8 = .ok (.getfield 12, 3) := by decide +kernel
theorem dX10_least_11 : decode cX10_least 11 = .ok (.iload_n 1, 1) := by decide +kernel
theorem dX10_least_12 : decode cX10_least 12 = .ok (.invokevirtual 78, 3) := by decide +kernel
theorem dX10_least_15 : decode cX10_least 15 = .ok (.ifCond .lt 5, 3) := by decide +kernel
theorem dX10_least_18 : decode cX10_least 18 = .ok (.iload_n 1, 1) := by decide +kernel
theorem dX10_least_19 : decode cX10_least 19 = .ok (.ireturn, 1) := by decide +kernel
theorem dX10_least_20 : decode cX10_least 20 = .ok (.iinc 1 1, 3) := by decide +kernel
theorem dX10_least_23 : decode cX10_least 23 = .ok (.goto (-21), 3) := by decide +kernel
theorem dX10_least_26 : decode cX10_least 26 = .ok (.iconst 4, 1) := by decide +kernel
theorem dX10_least_27 : decode cX10_least 27 = .ok (.ireturn, 1) := by decide +kernel
theorem dX10_oftenTangent_0 : decode cX10_oftenTangent 0 = .ok (.aload_n 0, 1) := by decide +kernel
theorem dX10_oftenTangent_1 : decode cX10_oftenTangent 1 = .ok (.invokevirtual 82, 3) := by decide +kernel
theorem dX10_oftenTangent_4 : decode cX10_oftenTangent 4 = .ok (.istore_n 2, 1) := by decide +kernel
theorem dX10_oftenTangent_5 : decode cX10_oftenTangent 5 = .ok (.iconst 0, 1) := by decide +kernel
theorem dX10_oftenTangent_6 : decode cX10_oftenTangent 6 = .ok (.istore_n 3, 1) := by decide +kernel
theorem dX10_oftenTangent_7 : decode cX10_oftenTangent 7 = .ok (.iload_n 3, 1) := by decide +kernel
theorem dX10_oftenTangent_8 : decode cX10_oftenTangent 8 = .ok (.iload_n 2, 1) := by decide +kernel
theorem dX10_oftenTangent_9 : decode cX10_oftenTangent 9 = .ok (.if_icmp .gt 26, 3) := by decide +kernel
theorem dX10_oftenTangent_12 : decode cX10_oftenTangent 12 = .ok (.aload_n 0, 1) := by decide +kernel
theorem dX10_oftenTangent_13 : decode cX10_oftenTangent 13 = .ok (.getfield 18, 3) := by decide +kernel
theorem dX10_oftenTangent_16 : decode cX10_oftenTangent 16 = .ok (.iload_n 3, 1) := by decide +kernel
theorem dX10_oftenTangent_17 : decode cX10_oftenTangent 17 = .ok (.aload_n 0, 1) := by decide +kernel
theorem dX10_oftenTangent_18 : decode cX10_oftenTangent 18 = .ok (.getfield 12, 3) := by decide +kernel
theorem dX10_oftenTangent_21 : decode cX10_oftenTangent 21 = .ok (.iload_n 2, 1) := by decide +kernel
theorem dX10_oftenTangent_22 : decode cX10_oftenTangent 22 = .ok (.iload_n 3, 1) := by decide +kernel
theorem dX10_oftenTangent_23 : decode cX10_oftenTangent 23 = .ok (.isub, 1) := by decide +kernel
theorem dX10_oftenTangent_24 : decode cX10_oftenTangent 24 = .ok (.iload_n 3, 1) := by decide +kernel
theorem dX10_oftenTangent_25 : decode cX10_oftenTangent 25 = .ok (.invokevirtual 34, 3) := by decide +kernel
theorem dX10_oftenTangent_28 : decode cX10_oftenTangent 28 = .ok (.iastore, 1) := by decide +kernel
theorem dX10_oftenTangent_29 : decode cX10_oftenTangent 29 = .ok (.iinc 3 1, 3) := by decide +kernel
theorem dX10_oftenTangent_32 : decode cX10_oftenTangent 32 = .ok (.goto (-25), 3) := by decide +kernel
theorem dX10_oftenTangent_35 : decode cX10_oftenTangent 35 = .ok (.iconst 0, 1) := by decide +kernel
theorem dX10_oftenTangent_36 : decode cX10_oftenTangent 36 = .ok (.istore_n 3, 1) := by decide +kernel
theorem dX10_oftenTangent_37 : decode cX10_oftenTangent 37 = .ok (.iload_n 1, 1) := by decide +kernel
theorem dX10_oftenTangent_38 : decode cX10_oftenTangent 38 = .ok (.aload_n 0, 1) := by decide +kernel
theorem dX10_oftenTangent_39 : decode cX10_oftenTangent 39 = .ok (.getfield 22, 3) := by decide +kernel
theorem dX10_oftenTangent_42 : decode cX10_oftenTangent 42 = .ok (.if_icmp .ne 27, 3) := by decide +kernel
theorem dX10_oftenTangent_45 : decode cX10_oftenTangent 45 = .ok (.iload_n 3, 1) := by decide +kernel
theorem dX10_oftenTangent_46 : decode cX10_oftenTangent 46 = .ok (.iload_n 2, 1) := by decide +kernel
theorem dX10_oftenTangent_47 : decode cX10_oftenTangent 47 = .ok (.if_icmp .ge 20, 3) := by decide +kernel
theorem dX10_oftenTangent_50 : decode cX10_oftenTangent 50 = .ok (.aload_n 0, 1) := by decide +kernel
theorem dX10_oftenTangent_51 : decode cX10_oftenTangent 51 = .ok (.getfield 18, 3) := by decide +kernel
theorem dX10_oftenTangent_54 : decode cX10_oftenTangent 54 = .ok (.iload_n 2, 1) := by decide +kernel
theorem dX10_oftenTangent_55 : decode cX10_oftenTangent 55 = .ok (.iload_n 3, 1) := by decide +kernel
theorem dX10_oftenTangent_56 : decode cX10_oftenTangent 56 = .ok (.isub, 1) := by decide +kernel
theorem dX10_oftenTangent_57 : decode cX10_oftenTangent 57 = .ok (.iaload, 1) := by decide +kernel
theorem dX10_oftenTangent_58 : decode cX10_oftenTangent 58 = .ok (.ifCond .ne 9, 3) := by decide +kernel
theorem dX10_oftenTangent_61 : decode cX10_oftenTangent 61 = .ok (.iinc 3 1, 3) := by decide +kernel
theorem dX10_oftenTangent_64 : decode cX10_oftenTangent 64 = .ok (.goto (-19), 3) := by decide +kernel
theorem dX10_oftenTangent_67 : decode cX10_oftenTangent 67 = .ok (.iload_n 3, 1) := by decide +kernel
theorem dX10_oftenTangent_68 : decode cX10_oftenTangent 68 = .ok (.ireturn, 1) := by decide +kernel
theorem dX10_oftenTangent_69 : decode cX10_oftenTangent 69 = .ok (.iload_n 3, 1) := by decide +kernel
theorem dX10_oftenTangent_70 : decode cX10_oftenTangent 70 = .ok (.iload_n 2, 1) := by decide +kernel
theorem dX10_oftenTangent_71 : decode cX10_oftenTangent 71 = .ok (.if_icmp .ge 20, 3) := by decide +kernel
theorem dX10_oftenTangent_74 : decode cX10_oftenTangent 74 = .ok (.aload_n 0, 1) := by decide +kernel
theorem dX10_oftenTangent_75 : decode cX10_oftenTangent 75 = .ok (.iload_n 2, 1) := by decide +kernel
theorem dX10_oftenTangent_76 : decode cX10_oftenTangent 76 = .ok (.iload_n 3, 1) := by decide +kernel
theorem dX10_oftenTangent_77 : decode cX10_oftenTangent 77 = .ok (.isub, 1) := by decide +kernel
theorem dX10_oftenTangent_78 : decode cX10_oftenTangent 78 = .ok (.iload_n 1, 1) := by decide +kernel
theorem dX10_oftenTangent_79 : decode cX10_oftenTangent 79 = .ok (.invokevirtual 85, 3) := by decide +kernel
theorem dX10_oftenTangent_82 : decode cX10_oftenTangent 82 = .ok (.ifCond .eq 9, 3) := by decide +kernel
theorem dX10_oftenTangent_85 : decode cX10_oftenTangent 85 = .ok (.iinc 3 1, 3) := by decide +kernel
theorem dX10_oftenTangent_88 : decode cX10_oftenTangent 88 = .ok (.goto (-19), 3) := by decide +kernel
theorem dX10_oftenTangent_91 : decode cX10_oftenTangent 91 = .ok (.iload_n 3, 1) := by decide +kernel
theorem dX10_oftenTangent_92 : decode cX10_oftenTangent 92 = .ok (.ireturn, 1) := by decide +kernel
theorem dX10_divideOnce_0 : decode cX10_divideOnce 0 = .ok (.iconst 0, 1) := by decide +kernel
theorem dX10_divideOnce_1 : decode cX10_divideOnce 1 = .ok (.istore_n 3, 1) := by decide +kernel
theorem dX10_divideOnce_2 : decode cX10_divideOnce 2 = .ok (.iload_n 1, 1) := by decide +kernel
theorem dX10_divideOnce_3 : decode cX10_divideOnce 3 = .ok (.istore 4, 2) := by decide +kernel
theorem dX10_divideOnce_5 : decode cX10_divideOnce 5 = .ok (.iload 4, 2) := by decide +kernel
theorem dX10_divideOnce_7 : decode cX10_divideOnce 7 = .ok (.ifCond .lt 34, 3) := by decide +kernel
theorem dX10_divideOnce_10 : decode cX10_divideOnce 10 = .ok (.iload 4, 2) := by decide +kernel
theorem dX10_divideOnce_12 : decode cX10_divideOnce 12 = .ok (.iconst 4, 1) := by decide +kernel
theorem dX10_divideOnce_13 : decode cX10_divideOnce 13 = .ok (.if_icmp .gt 28, 3) := by decide +kernel
theorem dX10_divideOnce_16 : decode cX10_divideOnce 16 = .ok (.iload_n 3, 1) := by decide +kernel
theorem dX10_divideOnce_17 : decode cX10_divideOnce 17 = .ok (.iload_n 2, 1) := by decide +kernel
theorem dX10_divideOnce_18 : decode cX10_divideOnce 18 = .ok (.imul, 1) := by decide +kernel
theorem dX10_divideOnce_19 : decode cX10_divideOnce 19 = .ok (.aload_n 0, 1) := by decide +kernel
theorem dX10_divideOnce_20 : decode cX10_divideOnce 20 = .ok (.getfield 18, 3) := by decide +kernel
theorem dX10_divideOnce_23 : decode cX10_divideOnce 23 = .ok (.iload 4, 2) := by decide +kernel
theorem dX10_divideOnce_25 : decode cX10_divideOnce 25 = .ok (.iaload, 1) := by decide +kernel
theorem dX10_divideOnce_26 : decode cX10_divideOnce 26 = .ok (.iadd, 1) := by decide +kernel
theorem dX10_divideOnce_27 : decode cX10_divideOnce 27 = .ok (.aload_n 0, 1) := by decide +kernel
theorem dX10_divideOnce_28 : decode cX10_divideOnce 28 = .ok (.getfield 22, 3) := by decide +kernel
theorem dX10_divideOnce_31 : decode cX10_divideOnce 31 = .ok (.invokestatic 58, 3) := by decide +kernel
theorem dX10_divideOnce_34 : decode cX10_divideOnce 34 = .ok (.istore_n 3, 1) := by decide +kernel
theorem dX10_divideOnce_35 : decode cX10_divideOnce 35 = .ok (.iinc 4 (-1), 3) := by decide +kernel
theorem dX10_divideOnce_38 : decode cX10_divideOnce 38 = .ok (.goto (-33), 3) := by decide +kernel
theorem dX10_divideOnce_41 : decode cX10_divideOnce 41 = .ok (.iload_n 3, 1) := by decide +kernel
theorem dX10_divideOnce_42 : decode cX10_divideOnce 42 = .ok (.ifCond .eq 5, 3) := by decide +kernel
theorem dX10_divideOnce_45 : decode cX10_divideOnce 45 = .ok (.iconst 0, 1) := by decide +kernel
theorem dX10_divideOnce_46 : decode cX10_divideOnce 46 = .ok (.ireturn, 1) := by decide +kernel
theorem dX10_divideOnce_47 : decode cX10_divideOnce 47 = .ok (.iload_n 1, 1) := by decide +kernel
theorem dX10_divideOnce_48 : decode cX10_divideOnce 48 = .ok (.istore 4, 2) := by decide +kernel
theorem dX10_divideOnce_50 : decode cX10_divideOnce 50 = .ok (.iload 4, 2) := by decide +kernel
theorem dX10_divideOnce_52 : decode cX10_divideOnce 52 = .ok (.ifCond .lt 46, 3) := by decide +kernel
theorem dX10_divideOnce_55 : decode cX10_divideOnce 55 = .ok (.iload 4, 2) := by decide +kernel
theorem dX10_divideOnce_57 : decode cX10_divideOnce 57 = .ok (.iconst 4, 1) := by decide +kernel
theorem dX10_divideOnce_58 : decode cX10_divideOnce 58 = .ok (.if_icmp .gt 40, 3) := by decide +kernel
theorem dX10_divideOnce_61 : decode cX10_divideOnce 61 = .ok (.aload_n 0, 1) := by decide +kernel
theorem dX10_divideOnce_62 : decode cX10_divideOnce 62 = .ok (.getfield 18, 3) := by decide +kernel
theorem dX10_divideOnce_65 : decode cX10_divideOnce 65 = .ok (.iload 4, 2) := by decide +kernel
theorem dX10_divideOnce_67 : decode cX10_divideOnce 67 = .ok (.iaload, 1) := by decide +kernel
theorem dX10_divideOnce_68 : decode cX10_divideOnce 68 = .ok (.istore 5, 2) := by decide +kernel
theorem dX10_divideOnce_70 : decode cX10_divideOnce 70 = .ok (.aload_n 0, 1) := by decide +kernel
theorem dX10_divideOnce_71 : decode cX10_divideOnce 71 = .ok (.getfield 18, 3) := by decide +kernel
theorem dX10_divideOnce_74 : decode cX10_divideOnce 74 = .ok (.iload 4, 2) := by decide +kernel
theorem dX10_divideOnce_76 : decode cX10_divideOnce 76 = .ok (.iload_n 3, 1) := by decide +kernel
theorem dX10_divideOnce_77 : decode cX10_divideOnce 77 = .ok (.iastore, 1) := by decide +kernel
theorem dX10_divideOnce_78 : decode cX10_divideOnce 78 = .ok (.iload_n 3, 1) := by decide +kernel
theorem dX10_divideOnce_79 : decode cX10_divideOnce 79 = .ok (.iload_n 2, 1) := by decide +kernel
theorem dX10_divideOnce_80 : decode cX10_divideOnce 80 = .ok (.imul, 1) := by decide +kernel
theorem dX10_divideOnce_81 : decode cX10_divideOnce 81 = .ok (.iload 5, 2) := by decide +kernel
theorem dX10_divideOnce_83 : decode cX10_divideOnce 83 = .ok (.iadd, 1) := by decide +kernel
theorem dX10_divideOnce_84 : decode cX10_divideOnce 84 = .ok (.aload_n 0, 1) := by decide +kernel
theorem dX10_divideOnce_85 : decode cX10_divideOnce 85 = .ok (.getfield 22, 3) := by decide +kernel
theorem dX10_divideOnce_88 : decode cX10_divideOnce 88 = .ok (.invokestatic 58, 3) := by decide +kernel
theorem dX10_divideOnce_91 : decode cX10_divideOnce 91 = .ok (.istore_n 3, 1) := by decide +kernel
theorem dX10_divideOnce_92 : decode cX10_divideOnce 92 = .ok (.iinc 4 (-1), 3) := by decide +kernel
theorem dX10_divideOnce_95 : decode cX10_divideOnce 95 = .ok (.goto (-45), 3) := by decide +kernel
theorem dX10_divideOnce_98 : decode cX10_divideOnce 98 = .ok (.iconst 1, 1) := by decide +kernel
theorem dX10_divideOnce_99 : decode cX10_divideOnce 99 = .ok (.ireturn, 1) := by decide +kernel
theorem dX10_bendHere_0 : decode cX10_bendHere 0 = .ok (.aload_n 0, 1) := by decide +kernel
theorem dX10_bendHere_1 : decode cX10_bendHere 1 = .ok (.invokevirtual 82, 3) := by decide +kernel
theorem dX10_bendHere_4 : decode cX10_bendHere 4 = .ok (.iconst 1, 1) := by decide +kernel
theorem dX10_bendHere_5 : decode cX10_bendHere 5 = .ok (.if_icmp .eq 5, 3) := by decide +kernel
theorem dX10_bendHere_8 : decode cX10_bendHere 8 = .ok (.iconst (-1), 1) := by decide +kernel
theorem dX10_bendHere_9 : decode cX10_bendHere 9 = .ok (.ireturn, 1) := by decide +kernel
theorem dX10_bendHere_10 : decode cX10_bendHere 10 = .ok (.aload_n 0, 1) := by decide +kernel
theorem dX10_bendHere_11 : decode cX10_bendHere 11 = .ok (.getfield 12, 3) := by decide +kernel
theorem dX10_bendHere_14 : decode cX10_bendHere 14 = .ok (.iconst 0, 1) := by decide +kernel
theorem dX10_bendHere_15 : decode cX10_bendHere 15 = .ok (.iconst 1, 1) := by decide +kernel
theorem dX10_bendHere_16 : decode cX10_bendHere 16 = .ok (.invokevirtual 34, 3) := by decide +kernel
theorem dX10_bendHere_19 : decode cX10_bendHere 19 = .ok (.ineg, 1) := by decide +kernel
theorem dX10_bendHere_20 : decode cX10_bendHere 20 = .ok (.aload_n 0, 1) := by decide +kernel
theorem dX10_bendHere_21 : decode cX10_bendHere 21 = .ok (.getfield 22, 3) := by decide +kernel
theorem dX10_bendHere_24 : decode cX10_bendHere 24 = .ok (.invokestatic 58, 3) := by decide +kernel
theorem dX10_bendHere_27 : decode cX10_bendHere 27 = .ok (.istore_n 1, 1) := by decide +kernel
theorem dX10_bendHere_28 : decode cX10_bendHere 28 = .ok (.aload_n 0, 1) := by decide +kernel
theorem dX10_bendHere_29 : decode cX10_bendHere 29 = .ok (.getfield 12, 3) := by decide +kernel
theorem dX10_bendHere_32 : decode cX10_bendHere 32 = .ok (.iconst 1, 1) := by decide +kernel
theorem dX10_bendHere_33 : decode cX10_bendHere 33 = .ok (.iconst 0, 1) := by decide +kernel
theorem dX10_bendHere_34 : decode cX10_bendHere 34 = .ok (.invokevirtual 34, 3) := by decide +kernel
theorem dX10_bendHere_37 : decode cX10_bendHere 37 = .ok (.istore_n 2, 1) := by decide +kernel
theorem dX10_bendHere_38 : decode cX10_bendHere 38 = .ok (.iconst 2, 1) := by decide +kernel
theorem dX10_bendHere_39 : decode cX10_bendHere 39 = .ok (.istore_n 3, 1) := by decide +kernel
theorem dX10_bendHere_40 : decode cX10_bendHere 40 = .ok (.iload_n 3, 1) := by decide +kernel
theorem dX10_bendHere_41 : decode cX10_bendHere 41 = .ok (.iconst 4, 1) := by decide +kernel
theorem dX10_bendHere_42 : decode cX10_bendHere 42 = .ok (.if_icmp .gt 87, 3) := by decide +kernel
theorem dX10_bendHere_45 : decode cX10_bendHere 45 = .ok (.iconst 0, 1) := by decide +kernel
theorem dX10_bendHere_46 : decode cX10_bendHere 46 = .ok (.istore 4, 2) := by decide +kernel
theorem dX10_bendHere_48 : decode cX10_bendHere 48 = .ok (.iconst 0, 1) := by decide +kernel
theorem dX10_bendHere_49 : decode cX10_bendHere 49 = .ok (.istore 5, 2) := by decide +kernel
theorem dX10_bendHere_51 : decode cX10_bendHere 51 = .ok (.iload 5, 2) := by decide +kernel
theorem dX10_bendHere_53 : decode cX10_bendHere 53 = .ok (.iload_n 3, 1) := by decide +kernel
theorem dX10_bendHere_54 : decode cX10_bendHere 54 = .ok (.if_icmp .gt 62, 3) := by decide +kernel
theorem dX10_bendHere_57 : decode cX10_bendHere 57 = .ok (.iload_n 1, 1) := by decide +kernel
theorem dX10_bendHere_58 : decode cX10_bendHere 58 = .ok (.iload 5, 2) := by decide +kernel
theorem dX10_bendHere_60 : decode cX10_bendHere 60 = .ok (.aload_n 0, 1) := by decide +kernel
theorem dX10_bendHere_61 : decode cX10_bendHere 61 = .ok (.getfield 22, 3) := by decide +kernel
theorem dX10_bendHere_64 : decode cX10_bendHere 64 = .ok (.invokestatic 75, 3) := by decide +kernel
theorem dX10_bendHere_67 : decode cX10_bendHere 67 = .ok (.iload_n 2, 1) := by decide +kernel
theorem dX10_bendHere_68 : decode cX10_bendHere 68 = .ok (.iload_n 3, 1) := by decide +kernel
theorem dX10_bendHere_69 : decode cX10_bendHere 69 = .ok (.iload 5, 2) := by decide +kernel
theorem dX10_bendHere_71 : decode cX10_bendHere 71 = .ok (.isub, 1) := by decide +kernel
theorem dX10_bendHere_72 : decode cX10_bendHere 72 = .ok (.aload_n 0, 1) := by decide +kernel
theorem dX10_bendHere_73 : decode cX10_bendHere 73 = .ok (.getfield 22, 3) := by decide +kernel
theorem dX10_bendHere_76 : decode cX10_bendHere 76 = .ok (.invokestatic 75, 3) := by decide +kernel
theorem dX10_bendHere_79 : decode cX10_bendHere 79 = .ok (.imul, 1) := by decide +kernel
theorem dX10_bendHere_80 : decode cX10_bendHere 80 = .ok (.istore 6, 2) := by decide +kernel
theorem dX10_bendHere_82 : decode cX10_bendHere 82 = .ok (.iload 4, 2) := by decide +kernel
theorem dX10_bendHere_84 : decode cX10_bendHere 84 = .ok (.aload_n 0, 1) := by decide +kernel
theorem dX10_bendHere_85 : decode cX10_bendHere 85 = .ok (.getfield 12, 3) := by decide +kernel
theorem dX10_bendHere_88 : decode cX10_bendHere 88 = .ok (.iload 5, 2) := by decide +kernel
theorem dX10_bendHere_90 : decode cX10_bendHere 90 = .ok (.iload_n 3, 1) := by decide +kernel
theorem dX10_bendHere_91 : decode cX10_bendHere 91 = .ok (.iload 5, 2) := by decide +kernel
theorem dX10_bendHere_93 : decode cX10_bendHere 93 = .ok (.isub, 1) := by decide +kernel
theorem dX10_bendHere_94 : decode cX10_bendHere 94 = .ok (.invokevirtual 34, 3) := by decide +kernel
theorem dX10_bendHere_97 : decode cX10_bendHere 97 = .ok (.iload 6, 2) := by decide +kernel
theorem dX10_bendHere_99 : decode cX10_bendHere 99 = .ok (.imul, 1) := by decide +kernel
theorem dX10_bendHere_100 : decode cX10_bendHere 100 = .ok (.iadd, 1) := by decide +kernel
theorem dX10_bendHere_101 : decode cX10_bendHere 101 = .ok (.aload_n 0, 1) := by decide +kernel
theorem dX10_bendHere_102 : decode cX10_bendHere 102 = .ok (.getfield 22, 3) := by decide +kernel
theorem dX10_bendHere_105 : decode cX10_bendHere 105 = .ok (.invokestatic 58, 3) := by decide +kernel
theorem dX10_bendHere_108 : decode cX10_bendHere 108 = .ok (.istore 4, 2) := by decide +kernel
theorem dX10_bendHere_110 : decode cX10_bendHere 110 = .ok (.iinc 5 1, 3) := by decide +kernel
theorem dX10_bendHere_113 : decode cX10_bendHere 113 = .ok (.goto (-62), 3) := by decide +kernel
theorem dX10_bendHere_116 : decode cX10_bendHere 116 = .ok (.iload 4, 2) := by decide +kernel
theorem dX10_bendHere_118 : decode cX10_bendHere 118 = .ok (.ifCond .eq 5, 3) := by decide +kernel
theorem dX10_bendHere_121 : decode cX10_bendHere 121 = .ok (.iload_n 3, 1) := by decide +kernel
theorem dX10_bendHere_122 : decode cX10_bendHere 122 = .ok (.ireturn, 1) := by decide +kernel
theorem dX10_bendHere_123 : decode cX10_bendHere 123 = .ok (.iinc 3 1, 3) := by decide +kernel
theorem dX10_bendHere_126 : decode cX10_bendHere 126 = .ok (.goto (-86), 3) := by decide +kernel
theorem dX10_bendHere_129 : decode cX10_bendHere 129 = .ok (.bipush (-2), 2) := by decide +kernel
theorem dX10_bendHere_131 : decode cX10_bendHere 131 = .ok (.ireturn, 1) := by decide +kernel
theorem dX11_init_0 : decode cX11_init 0 = .ok (.aload_n 0, 1) := by decide +kernel
theorem dX11_init_1 : decode cX11_init 1 = .ok (.invokespecial 1, 3) := by decide +kernel
theorem dX11_init_4 : decode cX11_init 4 = .ok (.new 7, 3) := by decide +kernel
theorem dX11_init_7 : decode cX11_init 7 = .ok (.dup, 1) := by decide +kernel
theorem dX11_init_8 : decode cX11_init 8 = .ok (.invokespecial 9, 3) := by decide +kernel
theorem dX11_init_11 : decode cX11_init 11 = .ok (.astore_n 1, 1) := by decide +kernel
theorem dX11_init_12 : decode cX11_init 12 = .ok (.aload_n 0, 1) := by decide +kernel
theorem dX11_init_13 : decode cX11_init 13 = .ok (.new 10, 3) := by decide +kernel
theorem dX11_init_16 : decode cX11_init 16 = .ok (.dup, 1) := by decide +kernel
theorem dX11_init_17 : decode cX11_init 17 = .ok (.invokespecial 12, 3) := by decide +kernel
theorem dX11_init_20 : decode cX11_init 20 = .ok (.putfield 13, 3) := by decide +kernel
theorem dX11_init_23 : decode cX11_init 23 = .ok (.aload_n 0, 1) := by decide +kernel
theorem dX11_init_24 : decode cX11_init 24 = .ok (.new 19, 3) := by decide +kernel
theorem dX11_init_27 : decode cX11_init 27 = .ok (.dup, 1) := by decide +kernel
theorem dX11_init_28 : decode cX11_init 28 = .ok (.invokespecial 21, 3) := by decide +kernel
theorem dX11_init_31 : decode cX11_init 31 = .ok (.putfield 22, 3) := by decide +kernel
theorem dX11_init_34 : decode cX11_init 34 = .ok (.aload_n 0, 1) := by decide +kernel
theorem dX11_init_35 : decode cX11_init 35 = .ok (.new 26, 3) := by decide +kernel
theorem dX11_init_38 : decode cX11_init 38 = .ok (.dup, 1) := by decide +kernel
theorem dX11_init_39 : decode cX11_init 39 = .ok (.invokespecial 28, 3) := by decide +kernel
theorem dX11_init_42 : decode cX11_init 42 = .ok (.putfield 29, 3) := by decide +kernel
theorem dX11_init_45 : decode cX11_init 45 = .ok (.aload_n 0, 1) := by decide +kernel
theorem dX11_init_46 : decode cX11_init 46 = .ok (.new 33, 3) := by decide +kernel
theorem dX11_init_49 : decode cX11_init 49 = .ok (.dup, 1) := by decide +kernel
theorem dX11_init_50 : decode cX11_init 50 = .ok (.invokespecial 35, 3) := by decide +kernel
theorem dX11_init_53 : decode cX11_init 53 = .ok (.putfield 36, 3) := by decide +kernel
theorem dX11_init_56 : decode cX11_init 56 = .ok (.aload_n 0, 1) := by decide +kernel
theorem dX11_init_57 : decode cX11_init 57 = .ok (.new 40, 3) := by decide +kernel
theorem dX11_init_60 : decode cX11_init 60 = .ok (.dup, 1) := by decide +kernel
theorem dX11_init_61 : decode cX11_init 61 = .ok (.invokespecial 42, 3) := by decide +kernel
theorem dX11_init_64 : decode cX11_init 64 = .ok (.putfield 43, 3) := by decide +kernel
theorem dX11_init_67 : decode cX11_init 67 = .ok (.aload_n 0, 1) := by decide +kernel
theorem dX11_init_68 : decode cX11_init 68 = .ok (.new 40, 3) := by decide +kernel
theorem dX11_init_71 : decode cX11_init 71 = .ok (.dup, 1) := by decide +kernel
theorem dX11_init_72 : decode cX11_init 72 = .ok (.invokespecial 42, 3) := by decide +kernel
theorem dX11_init_75 : decode cX11_init 75 = .ok (.putfield 47, 3) := by decide +kernel
theorem dX11_init_78 : decode cX11_init 78 = .ok (.aload_n 0, 1) := by decide +kernel
theorem dX11_init_79 : decode cX11_init 79 = .ok (.new 50, 3) := by decide +kernel
theorem dX11_init_82 : decode cX11_init 82 = .ok (.dup, 1) := by decide +kernel
theorem dX11_init_83 : decode cX11_init 83 = .ok (.aload_n 1, 1) := by decide +kernel
theorem dX11_init_84 : decode cX11_init 84 = .ok (.invokespecial 52, 3) := by decide +kernel
theorem dX11_init_87 : decode cX11_init 87 = .ok (.putfield 55, 3) := by decide +kernel
theorem dX11_init_90 : decode cX11_init 90 = .ok (.aload_n 0, 1) := by decide +kernel
theorem dX11_init_91 : decode cX11_init 91 = .ok (.new 59, 3) := by decide +kernel
theorem dX11_init_94 : decode cX11_init 94 = .ok (.dup, 1) := by decide +kernel
theorem dX11_init_95 : decode cX11_init 95 = .ok (.invokespecial 61, 3) := by decide +kernel
theorem dX11_init_98 : decode cX11_init 98 = .ok (.putfield 62, 3) := by decide +kernel
theorem dX11_init_101 : decode cX11_init 101 = .ok (.aload_n 0, 1) := by decide +kernel
theorem dX11_init_102 : decode cX11_init 102 = .ok (.new 66, 3) := by decide +kernel
theorem dX11_init_105 : decode cX11_init 105 = .ok (.dup, 1) := by decide +kernel
theorem dX11_init_106 : decode cX11_init 106 = .ok (.aload_n 1, 1) := by decide +kernel
theorem dX11_init_107 : decode cX11_init 107 = .ok (.invokespecial 68, 3) := by decide +kernel
theorem dX11_init_110 : decode cX11_init 110 = .ok (.putfield 69, 3) := by decide +kernel
theorem dX11_init_113 : decode cX11_init 113 = .ok (.aload_n 0, 1) := by decide +kernel
theorem dX11_init_114 : decode cX11_init 114 = .ok (.new 73, 3) := by decide +kernel
theorem dX11_init_117 : decode cX11_init 117 = .ok (.dup, 1) := by decide +kernel
theorem dX11_init_118 : decode cX11_init 118 = .ok (.invokespecial 75, 3) := by decide +kernel
theorem dX11_init_121 : decode cX11_init 121 = .ok (.putfield 76, 3) := by decide +kernel
theorem dX11_init_124 : decode cX11_init 124 = .ok (.aload_n 0, 1) := by decide +kernel
theorem dX11_init_125 : decode cX11_init 125 = .ok (.iconst 5, 1) := by decide +kernel
theorem dX11_init_126 : decode cX11_init 126 = .ok (.newarray .int, 2) := by decide +kernel
theorem dX11_init_128 : decode cX11_init 128 = .ok (.putfield 80, 3) := by decide +kernel
theorem dX11_init_131 : decode cX11_init 131 = .ok (.aload_n 0, 1) := by decide +kernel
theorem dX11_init_132 : decode cX11_init 132 = .ok (.iconst 0, 1) := by decide +kernel
theorem dX11_init_133 : decode cX11_init 133 = .ok (.putfield 84, 3) := by decide +kernel
theorem dX11_init_136 : decode cX11_init 136 = .ok (.aload_n 0, 1) := by decide +kernel
theorem dX11_init_137 : decode cX11_init 137 = .ok (.iconst (-1), 1) := by decide +kernel
theorem dX11_init_138 : decode cX11_init 138 = .ok (.putfield 88, 3) := by decide +kernel
theorem dX11_init_141 : decode cX11_init 141 = .ok (.return_, 1) := by decide +kernel
theorem dX11_feed_0 : decode cX11_feed 0 = .ok (.aload_n 0, 1) := by decide +kernel
theorem dX11_feed_1 : decode cX11_feed 1 = .ok (.getfield 13, 3) := by decide +kernel
theorem dX11_feed_4 : decode cX11_feed 4 = .ok (.invokevirtual 91, 3) := by decide +kernel
theorem dX11_feed_7 : decode cX11_feed 7 = .ok (.ifCond .ne 10, 3) := by decide +kernel
theorem dX11_feed_10 : decode cX11_feed 10 = .ok (.aload_n 0, 1) := by decide +kernel
theorem dX11_feed_11 : decode cX11_feed 11 = .ok (.iconst 0, 1) := by decide +kernel
theorem dX11_feed_12 : decode cX11_feed 12 = .ok (.invokevirtual 95, 3) := by decide +kernel
theorem dX11_feed_15 : decode cX11_feed 15 = .ok (.iconst (-1), 1) := by decide +kernel
theorem dX11_feed_16 : decode cX11_feed 16 = .ok (.ireturn, 1) := by decide +kernel
theorem dX11_feed_17 : decode cX11_feed 17 = .ok (.aload_n 0, 1) := by decide +kernel
theorem dX11_feed_18 : decode cX11_feed 18 = .ok (.getfield 13, 3) := by decide +kernel
theorem dX11_feed_21 : decode cX11_feed 21 = .ok (.iload_n 1, 1) := by decide +kernel
theorem dX11_feed_22 : decode cX11_feed 22 = .ok (.invokevirtual 99, 3) := by decide +kernel
theorem dX11_feed_25 : decode cX11_feed 25 = .ok (.aload_n 0, 1) := by decide +kernel
theorem dX11_feed_26 : decode cX11_feed 26 = .ok (.getfield 13, 3) := by decide +kernel
theorem dX11_feed_29 : decode cX11_feed 29 = .ok (.iload_n 2, 1) := by decide +kernel
theorem dX11_feed_30 : decode cX11_feed 30 = .ok (.invokevirtual 99, 3) := by decide +kernel
theorem dX11_feed_33 : decode cX11_feed 33 = .ok (.aload_n 0, 1) := by decide +kernel
theorem dX11_feed_34 : decode cX11_feed 34 = .ok (.getfield 13, 3) := by decide +kernel
theorem dX11_feed_37 : decode cX11_feed 37 = .ok (.iload_n 3, 1) := by decide +kernel
theorem dX11_feed_38 : decode cX11_feed 38 = .ok (.invokevirtual 99, 3) := by decide +kernel
theorem dX11_feed_41 : decode cX11_feed 41 = .ok (.aload_n 0, 1) := by decide +kernel
theorem dX11_feed_42 : decode cX11_feed 42 = .ok (.getfield 13, 3) := by decide +kernel
theorem dX11_feed_45 : decode cX11_feed 45 = .ok (.iload 4, 2) := by decide +kernel
theorem dX11_feed_47 : decode cX11_feed 47 = .ok (.invokevirtual 99, 3) := by decide +kernel
theorem dX11_feed_50 : decode cX11_feed 50 = .ok (.aload_n 0, 1) := by decide +kernel
theorem dX11_feed_51 : decode cX11_feed 51 = .ok (.getfield 13, 3) := by decide +kernel
theorem dX11_feed_54 : decode cX11_feed 54 = .ok (.iload 5, 2) := by decide +kernel
theorem dX11_feed_56 : decode cX11_feed 56 = .ok (.invokevirtual 99, 3) := by decide +kernel
theorem dX11_feed_59 : decode cX11_feed 59 = .ok (.aload_n 0, 1) := by decide +kernel
theorem dX11_feed_60 : decode cX11_feed 60 = .ok (.getfield 13, 3) := by decide +kernel
theorem dX11_feed_63 : decode cX11_feed 63 = .ok (.getfield 102, 3) := by decide +kernel
theorem dX11_feed_66 : decode cX11_feed 66 = .ok (.ireturn, 1) := by decide +kernel
theorem dX11_end_0 : decode cX11_end 0 = .ok (.iload_n 1, 1) := by decide +kernel
theorem dX11_end_1 : decode cX11_end 1 = .ok (.ifCond .lt 14, 3) := by decide +kernel
theorem dX11_end_4 : decode cX11_end 4 = .ok (.iload_n 1, 1) := by decide +kernel
theorem dX11_end_5 : decode cX11_end 5 = .ok (.aload_n 0, 1) := by decide +kernel
theorem dX11_end_6 : decode cX11_end 6 = .ok (.getfield 13, 3) := by decide +kernel
theorem dX11_end_9 : decode cX11_end 9 = .ok (.getfield 102, 3) := by decide +kernel
theorem dX11_end_12 : decode cX11_end 12 = .ok (.if_icmp .le 10, 3) := by decide +kernel
theorem dX11_end_15 : decode cX11_end 15 = .ok (.aload_n 0, 1) := by decide +kernel
theorem dX11_end_16 : decode cX11_end 16 = .ok (.iconst 0, 1) := by decide +kernel
theorem dX11_end_17 : decode cX11_end 17 = .ok (.invokevirtual 95, 3) := by decide +kernel
theorem dX11_end_20 : decode cX11_end 20 = .ok (.iconst 0, 1) := by decide +kernel
theorem dX11_end_21 : decode cX11_end 21 = .ok (.ireturn, 1) := by decide +kernel
theorem dX11_end_22 : decode cX11_end 22 = .ok (.aload_n 0, 1) := by decide +kernel
theorem dX11_end_23 : decode cX11_end 23 = .ok (.getfield 13, 3) := by decide +kernel
theorem dX11_end_26 : decode cX11_end 26 = .ok (.iload_n 1, 1) := by decide +kernel
theorem dX11_end_27 : decode cX11_end 27 = .ok (.putfield 102, 3) := by decide +kernel
theorem dX11_end_30 : decode cX11_end 30 = .ok (.iconst 1, 1) := by decide +kernel
theorem dX11_end_31 : decode cX11_end 31 = .ok (.ireturn, 1) := by decide +kernel
theorem dX11_curves_0 : decode cX11_curves 0 = .ok (.aload_n 0, 1) := by decide +kernel
theorem dX11_curves_1 : decode cX11_curves 1 = .ok (.getfield 13, 3) := by decide +kernel
theorem dX11_curves_4 : decode cX11_curves 4 = .ok (.invokevirtual 105, 3) := by decide +kernel
theorem dX11_curves_7 : decode cX11_curves 7 = .ok (.istore_n 1, 1) := by decide +kernel
theorem dX11_curves_8 : decode cX11_curves 8 = .ok (.aload_n 0, 1) := by decide +kernel
theorem dX11_curves_9 : decode cX11_curves 9 = .ok (.getfield 13, 3) := by decide +kernel
theorem dX11_curves_12 : decode cX11_curves 12 = .ok (.iconst 0, 1) := by decide +kernel
theorem dX11_curves_13 : decode cX11_curves 13 = .ok (.putfield 102, 3) := by decide +kernel
theorem dX11_curves_16 : decode cX11_curves 16 = .ok (.aload_n 0, 1) := by decide +kernel
theorem dX11_curves_17 : decode cX11_curves 17 = .ok (.aload_n 0, 1) := by decide +kernel
theorem dX11_curves_18 : decode cX11_curves 18 = .ok (.getfield 13, 3) := by decide +kernel
theorem dX11_curves_21 : decode cX11_curves 21 = .ok (.getfield 108, 3) := by decide +kernel
theorem dX11_curves_24 : decode cX11_curves 24 = .ok (.putfield 84, 3) := by decide +kernel
theorem dX11_curves_27 : decode cX11_curves 27 = .ok (.aload_n 0, 1) := by decide +kernel
theorem dX11_curves_28 : decode cX11_curves 28 = .ok (.aload_n 0, 1) := by decide +kernel
theorem dX11_curves_29 : decode cX11_curves 29 = .ok (.getfield 13, 3) := by decide +kernel
theorem dX11_curves_32 : decode cX11_curves 32 = .ok (.getfield 109, 3) := by decide +kernel
theorem dX11_curves_35 : decode cX11_curves 35 = .ok (.putfield 88, 3) := by decide +kernel
theorem dX11_curves_38 : decode cX11_curves 38 = .ok (.iload_n 1, 1) := by decide +kernel
theorem dX11_curves_39 : decode cX11_curves 39 = .ok (.ifCond .ne 10, 3) := by decide +kernel
theorem dX11_curves_42 : decode cX11_curves 42 = .ok (.aload_n 0, 1) := by decide +kernel
theorem dX11_curves_43 : decode cX11_curves 43 = .ok (.iconst 1, 1) := by decide +kernel
theorem dX11_curves_44 : decode cX11_curves 44 = .ok (.invokevirtual 95, 3) := by decide +kernel
theorem dX11_curves_47 : decode cX11_curves 47 = .ok (.iconst (-1), 1) := by decide +kernel
theorem dX11_curves_48 : decode cX11_curves 48 = .ok (.ireturn, 1) := by decide +kernel
theorem dX11_curves_49 : decode cX11_curves 49 = .ok (.aload_n 0, 1) := by decide +kernel
theorem dX11_curves_50 : decode cX11_curves 50 = .ok (.getfield 22, 3) := by decide +kernel
theorem dX11_curves_53 : decode cX11_curves 53 = .ok (.aload_n 0, 1) := by decide +kernel
theorem dX11_curves_54 : decode cX11_curves 54 = .ok (.getfield 13, 3) := by decide +kernel
theorem dX11_curves_57 : decode cX11_curves 57 = .ok (.getfield 110, 3) := by decide +kernel
theorem dX11_curves_60 : decode cX11_curves 60 = .ok (.invokevirtual 113, 3) := by decide +kernel
theorem dX11_curves_63 : decode cX11_curves 63 = .ok (.aload_n 0, 1) := by decide +kernel
theorem dX11_curves_64 : decode cX11_curves 64 = .ok (.getfield 29, 3) := by decide +kernel
theorem dX11_curves_67 : decode cX11_curves 67 = .ok (.invokevirtual 117, 3) := by decide +kernel
theorem dX11_curves_70 : decode cX11_curves 70 = .ok (.aload_n 0, 1) := by decide +kernel
theorem dX11_curves_71 : decode cX11_curves 71 = .ok (.getfield 22, 3) := by decide +kernel
theorem dX11_curves_74 : decode cX11_curves 74 = .ok (.getfield 120, 3) := by decide +kernel
theorem dX11_curves_77 : decode cX11_curves 77 = .ok (.ireturn, 1) := by decide +kernel
theorem dX11_fault_0 : decode cX11_fault 0 = .ok (.iload_n 1, 1) := by decide +kernel
theorem dX11_fault_1 : decode cX11_fault 1 = .ok (.ifCond .ne 8, 3) := by decide +kernel
theorem dX11_fault_4 : decode cX11_fault 4 = .ok (.aload_n 0, 1) := by decide +kernel
theorem dX11_fault_5 : decode cX11_fault 5 = .ok (.getfield 84, 3) := by decide +kernel
theorem dX11_fault_8 : decode cX11_fault 8 = .ok (.ireturn, 1) := by decide +kernel
theorem dX11_fault_9 : decode cX11_fault 9 = .ok (.iload_n 1, 1) := by decide +kernel
theorem dX11_fault_10 : decode cX11_fault 10 = .ok (.iconst 1, 1) := by decide +kernel
theorem dX11_fault_11 : decode cX11_fault 11 = .ok (.if_icmp .ne 10, 3) := by decide +kernel
theorem dX11_fault_14 : decode cX11_fault 14 = .ok (.aload_n 0, 1) := by decide +kernel
theorem dX11_fault_15 : decode cX11_fault 15 = .ok (.getfield 88, 3) := by decide +kernel
theorem dX11_fault_18 : decode cX11_fault 18 = .ok (.goto 4, 3) := by decide +kernel
theorem dX11_fault_21 : decode cX11_fault 21 = .ok (.iconst (-1), 1) := by decide +kernel
theorem dX11_fault_22 : decode cX11_fault 22 = .ok (.ireturn, 1) := by decide +kernel
theorem dX11_has_0 : decode cX11_has 0 = .ok (.iload_n 1, 1) := by decide +kernel
theorem dX11_has_1 : decode cX11_has 1 = .ok (.tableswitch 66 0 3 #[31, 39, 47, 58], 31) := by decide +kernel
theorem dX11_has_32 : decode cX11_has 32 = .ok (.aload_n 0, 1) := by decide +kernel
theorem dX11_has_33 : decode cX11_has 33 = .ok (.getfield 22, 3) := by decide +kernel
theorem dX11_has_36 : decode cX11_has 36 = .ok (.getfield 123, 3) := by decide +kernel
theorem dX11_has_39 : decode cX11_has 39 = .ok (.ireturn, 1) := by decide +kernel
theorem dX11_has_40 : decode cX11_has 40 = .ok (.aload_n 0, 1) := by decide +kernel
theorem dX11_has_41 : decode cX11_has 41 = .ok (.getfield 22, 3) := by decide +kernel
theorem dX11_has_44 : decode cX11_has 44 = .ok (.getfield 120, 3) := by decide +kernel
theorem dX11_has_47 : decode cX11_has 47 = .ok (.ireturn, 1) := by decide +kernel
theorem dX11_has_48 : decode cX11_has 48 = .ok (.aload_n 0, 1) := by decide +kernel
theorem dX11_has_49 : decode cX11_has 49 = .ok (.getfield 22, 3) := by decide +kernel
theorem dX11_has_52 : decode cX11_has 52 = .ok (.getfield 123, 3) := by decide +kernel
theorem dX11_has_55 : decode cX11_has 55 = .ok (.invokestatic 126, 3) := by decide +kernel
theorem dX11_has_58 : decode cX11_has 58 = .ok (.ireturn, 1) := by decide +kernel
theorem dX11_has_59 : decode cX11_has 59 = .ok (.aload_n 0, 1) := by decide +kernel
theorem dX11_has_60 : decode cX11_has 60 = .ok (.getfield 29, 3) := by decide +kernel
theorem dX11_has_63 : decode cX11_has 63 = .ok (.getfield 130, 3) := by decide +kernel
theorem dX11_has_66 : decode cX11_has 66 = .ok (.ireturn, 1) := by decide +kernel
theorem dX11_has_67 : decode cX11_has 67 = .ok (.iconst (-1), 1) := by decide +kernel
theorem dX11_has_68 : decode cX11_has 68 = .ok (.ireturn, 1) := by decide +kernel
theorem dX11_letter_0 : decode cX11_letter 0 = .ok (.aload_n 0, 1) := by decide +kernel
theorem dX11_letter_1 : decode cX11_letter 1 = .ok (.getfield 22, 3) := by decide +kernel
theorem dX11_letter_4 : decode cX11_letter 4 = .ok (.iload_n 1, 1) := by decide +kernel
theorem dX11_letter_5 : decode cX11_letter 5 = .ok (.iload_n 2, 1) := by decide +kernel
theorem dX11_letter_6 : decode cX11_letter 6 = .ok (.invokevirtual 131, 3) := by decide +kernel
theorem dX11_letter_9 : decode cX11_letter 9 = .ok (.ireturn, 1) := by decide +kernel
theorem dX11_term_0 : decode cX11_term 0 = .ok (.aload_n 0, 1) := by decide +kernel
theorem dX11_term_1 : decode cX11_term 1 = .ok (.getfield 22, 3) := by decide +kernel
theorem dX11_term_4 : decode cX11_term 4 = .ok (.iload_n 1, 1) := by decide +kernel
theorem dX11_term_5 : decode cX11_term 5 = .ok (.invokevirtual 135, 3) := by decide +kernel
theorem dX11_term_8 : decode cX11_term 8 = .ok (.astore 4, 2) := by decide +kernel
theorem dX11_term_10 : decode cX11_term 10 = .ok (.aload 4, 2) := by decide +kernel
theorem dX11_term_12 : decode cX11_term 12 = .ok (.ifnull 11, 3) := by decide +kernel
theorem dX11_term_15 : decode cX11_term 15 = .ok (.iload_n 2, 1) := by decide +kernel
theorem dX11_term_16 : decode cX11_term 16 = .ok (.iload_n 3, 1) := by decide +kernel
theorem dX11_term_17 : decode cX11_term 17 = .ok (.invokestatic 139, 3) := by decide +kernel
theorem dX11_term_20 : decode cX11_term 20 = .ok (.ifCond .ne 7, 3) := by decide +kernel
theorem dX11_term_23 : decode cX11_term 23 = .ok (.iconst (-1), 1) := by decide +kernel
theorem dX11_term_24 : decode cX11_term 24 = .ok (.goto 10, 3) := by decide +kernel
theorem dX11_term_27 : decode cX11_term 27 = .ok (.aload 4, 2) := by decide +kernel
theorem dX11_term_29 : decode cX11_term 29 = .ok (.iload_n 2, 1) := by decide +kernel
theorem dX11_term_30 : decode cX11_term 30 = .ok (.iload_n 3, 1) := by decide +kernel
theorem dX11_term_31 : decode cX11_term 31 = .ok (.invokevirtual 145, 3) := by decide +kernel
theorem dX11_term_34 : decode cX11_term 34 = .ok (.ireturn, 1) := by decide +kernel
theorem dX11_degree_0 : decode cX11_degree 0 = .ok (.aload_n 0, 1) := by decide +kernel
theorem dX11_degree_1 : decode cX11_degree 1 = .ok (.getfield 22, 3) := by decide +kernel
theorem dX11_degree_4 : decode cX11_degree 4 = .ok (.iload_n 1, 1) := by decide +kernel
theorem dX11_degree_5 : decode cX11_degree 5 = .ok (.invokevirtual 135, 3) := by decide +kernel
theorem dX11_degree_8 : decode cX11_degree 8 = .ok (.astore_n 2, 1) := by decide +kernel
theorem dX11_degree_9 : decode cX11_degree 9 = .ok (.aload_n 2, 1) := by decide +kernel
theorem dX11_degree_10 : decode cX11_degree 10 = .ok (.ifnonnull 7, 3) := by decide +kernel
theorem dX11_degree_13 : decode cX11_degree 13 = .ok (.iconst (-1), 1) := by decide +kernel
theorem dX11_degree_14 : decode cX11_degree 14 = .ok (.goto 7, 3) := by decide +kernel
theorem dX11_degree_17 : decode cX11_degree 17 = .ok (.aload_n 2, 1) := by decide +kernel
theorem dX11_degree_18 : decode cX11_degree 18 = .ok (.invokevirtual 148, 3) := by decide +kernel
theorem dX11_degree_21 : decode cX11_degree 21 = .ok (.ireturn, 1) := by decide +kernel
theorem dX11_value_0 : decode cX11_value 0 = .ok (.aload_n 0, 1) := by decide +kernel
theorem dX11_value_1 : decode cX11_value 1 = .ok (.getfield 22, 3) := by decide +kernel
theorem dX11_value_4 : decode cX11_value 4 = .ok (.iload_n 1, 1) := by decide +kernel
theorem dX11_value_5 : decode cX11_value 5 = .ok (.invokevirtual 135, 3) := by decide +kernel
theorem dX11_value_8 : decode cX11_value 8 = .ok (.astore_n 3, 1) := by decide +kernel
theorem dX11_value_9 : decode cX11_value 9 = .ok (.aload_n 3, 1) := by decide +kernel
theorem dX11_value_10 : decode cX11_value 10 = .ok (.ifnull 21, 3) := by decide +kernel
theorem dX11_value_13 : decode cX11_value 13 = .ok (.aload_n 0, 1) := by decide +kernel
theorem dX11_value_14 : decode cX11_value 14 = .ok (.getfield 36, 3) := by decide +kernel
theorem dX11_value_17 : decode cX11_value 17 = .ok (.iload_n 2, 1) := by decide +kernel
theorem dX11_value_18 : decode cX11_value 18 = .ok (.aload_n 0, 1) := by decide +kernel
theorem dX11_value_19 : decode cX11_value 19 = .ok (.getfield 22, 3) := by decide +kernel
theorem dX11_value_22 : decode cX11_value 22 = .ok (.getfield 123, 3) := by decide +kernel
theorem dX11_value_25 : decode cX11_value 25 = .ok (.invokevirtual 152, 3) := by decide +kernel
theorem dX11_value_28 : decode cX11_value 28 = .ok (.ifCond .ne 5, 3) := by decide +kernel
theorem dX11_value_31 : decode cX11_value 31 = .ok (.iconst (-1), 1) := by decide +kernel
theorem dX11_value_32 : decode cX11_value 32 = .ok (.ireturn, 1) := by decide +kernel
theorem dX11_value_33 : decode cX11_value 33 = .ok (.aload_n 0, 1) := by decide +kernel
theorem dX11_value_34 : decode cX11_value 34 = .ok (.getfield 36, 3) := by decide +kernel
theorem dX11_value_37 : decode cX11_value 37 = .ok (.aload_n 3, 1) := by decide +kernel
theorem dX11_value_38 : decode cX11_value 38 = .ok (.aload_n 0, 1) := by decide +kernel
theorem dX11_value_39 : decode cX11_value 39 = .ok (.getfield 22, 3) := by decide +kernel
theorem dX11_value_42 : decode cX11_value 42 = .ok (.getfield 123, 3) := by decide +kernel
theorem dX11_value_45 : decode cX11_value 45 = .ok (.invokevirtual 155, 3) := by decide +kernel
theorem dX11_value_48 : decode cX11_value 48 = .ok (.ireturn, 1) := by decide +kernel
theorem dX11_point_0 : decode cX11_point 0 = .ok (.aload_n 0, 1) := by decide +kernel
theorem dX11_point_1 : decode cX11_point 1 = .ok (.iload_n 1, 1) := by decide +kernel
theorem dX11_point_2 : decode cX11_point 2 = .ok (.iload_n 2, 1) := by decide +kernel
theorem dX11_point_3 : decode cX11_point 3 = .ok (.iconst 0, 1) := by decide +kernel
theorem dX11_point_4 : decode cX11_point 4 = .ok (.invokevirtual 159, 3) := by decide +kernel
theorem dX11_point_7 : decode cX11_point 7 = .ok (.ireturn, 1) := by decide +kernel
theorem dX11_order_0 : decode cX11_order 0 = .ok (.aload_n 0, 1) := by decide +kernel
theorem dX11_order_1 : decode cX11_order 1 = .ok (.iload_n 1, 1) := by decide +kernel
theorem dX11_order_2 : decode cX11_order 2 = .ok (.iload_n 2, 1) := by decide +kernel
theorem dX11_order_3 : decode cX11_order 3 = .ok (.invokevirtual 163, 3) := by decide +kernel
theorem dX11_order_6 : decode cX11_order 6 = .ok (.ifCond .eq 13, 3) := by decide +kernel
theorem dX11_order_9 : decode cX11_order 9 = .ok (.aload_n 0, 1) := by decide +kernel
theorem dX11_order_10 : decode cX11_order 10 = .ok (.getfield 43, 3) := by decide +kernel
theorem dX11_order_13 : decode cX11_order 13 = .ok (.invokevirtual 166, 3) := by decide +kernel
theorem dX11_order_16 : decode cX11_order 16 = .ok (.goto 4, 3) := by decide +kernel
theorem dX11_order_19 : decode cX11_order 19 = .ok (.iconst (-1), 1) := by decide +kernel
theorem dX11_order_20 : decode cX11_order 20 = .ok (.ireturn, 1) := by decide +kernel
theorem dX11_local_0 : decode cX11_local 0 = .ok (.aload_n 0, 1) := by decide +kernel
theorem dX11_local_1 : decode cX11_local 1 = .ok (.iload_n 1, 1) := by decide +kernel
theorem dX11_local_2 : decode cX11_local 2 = .ok (.iload_n 2, 1) := by decide +kernel
theorem dX11_local_3 : decode cX11_local 3 = .ok (.invokevirtual 163, 3) := by decide +kernel
theorem dX11_local_6 : decode cX11_local 6 = .ok (.ifCond .eq 28, 3) := by decide +kernel
theorem dX11_local_9 : decode cX11_local 9 = .ok (.iload_n 3, 1) := by decide +kernel
theorem dX11_local_10 : decode cX11_local 10 = .ok (.iload 4, 2) := by decide +kernel
theorem dX11_local_12 : decode cX11_local 12 = .ok (.invokestatic 139, 3) := by decide +kernel
theorem dX11_local_15 : decode cX11_local 15 = .ok (.ifCond .eq 19, 3) := by decide +kernel
theorem dX11_local_18 : decode cX11_local 18 = .ok (.aload_n 0, 1) := by decide +kernel
theorem dX11_local_19 : decode cX11_local 19 = .ok (.getfield 43, 3) := by decide +kernel
theorem dX11_local_22 : decode cX11_local 22 = .ok (.getfield 169, 3) := by decide +kernel
theorem dX11_local_25 : decode cX11_local 25 = .ok (.iload_n 3, 1) := by decide +kernel
theorem dX11_local_26 : decode cX11_local 26 = .ok (.iload 4, 2) := by decide +kernel
theorem dX11_local_28 : decode cX11_local 28 = .ok (.invokevirtual 145, 3) := by decide +kernel
theorem dX11_local_31 : decode cX11_local 31 = .ok (.goto 4, 3) := by decide +kernel
theorem dX11_local_34 : decode cX11_local 34 = .ok (.iconst (-1), 1) := by decide +kernel
theorem dX11_local_35 : decode cX11_local 35 = .ok (.ireturn, 1) := by decide +kernel
theorem dX11_singular_0 : decode cX11_singular 0 = .ok (.aload_n 0, 1) := by decide +kernel
theorem dX11_singular_1 : decode cX11_singular 1 = .ok (.iload_n 1, 1) := by decide +kernel
theorem dX11_singular_2 : decode cX11_singular 2 = .ok (.iload_n 2, 1) := by decide +kernel
theorem dX11_singular_3 : decode cX11_singular 3 = .ok (.iconst 1, 1) := by decide +kernel
theorem dX11_singular_4 : decode cX11_singular 4 = .ok (.invokevirtual 159, 3) := by decide +kernel
theorem dX11_singular_7 : decode cX11_singular 7 = .ok (.ireturn, 1) := by decide +kernel
theorem dX11_tangent_0 : decode cX11_tangent 0 = .ok (.iload 4, 2) := by decide +kernel
theorem dX11_tangent_2 : decode cX11_tangent 2 = .ok (.ifCond .lt 33, 3) := by decide +kernel
theorem dX11_tangent_5 : decode cX11_tangent 5 = .ok (.iload 4, 2) := by decide +kernel
theorem dX11_tangent_7 : decode cX11_tangent 7 = .ok (.iconst 1, 1) := by decide +kernel
theorem dX11_tangent_8 : decode cX11_tangent 8 = .ok (.if_icmp .gt 27, 3) := by decide +kernel
theorem dX11_tangent_11 : decode cX11_tangent 11 = .ok (.iload_n 3, 1) := by decide +kernel
theorem dX11_tangent_12 : decode cX11_tangent 12 = .ok (.iconst (-1), 1) := by decide +kernel
theorem dX11_tangent_13 : decode cX11_tangent 13 = .ok (.if_icmp .lt 22, 3) := by decide +kernel
theorem dX11_tangent_16 : decode cX11_tangent 16 = .ok (.aload_n 0, 1) := by decide +kernel
theorem dX11_tangent_17 : decode cX11_tangent 17 = .ok (.iload_n 1, 1) := by decide +kernel
theorem dX11_tangent_18 : decode cX11_tangent 18 = .ok (.iload_n 2, 1) := by decide +kernel
theorem dX11_tangent_19 : decode cX11_tangent 19 = .ok (.invokevirtual 163, 3) := by decide +kernel
theorem dX11_tangent_22 : decode cX11_tangent 22 = .ok (.ifCond .eq 13, 3) := by decide +kernel
theorem dX11_tangent_25 : decode cX11_tangent 25 = .ok (.aload_n 0, 1) := by decide +kernel
theorem dX11_tangent_26 : decode cX11_tangent 26 = .ok (.getfield 43, 3) := by decide +kernel
theorem dX11_tangent_29 : decode cX11_tangent 29 = .ok (.invokevirtual 166, 3) := by decide +kernel
theorem dX11_tangent_32 : decode cX11_tangent 32 = .ok (.ifCond .ne 5, 3) := by decide +kernel
theorem dX11_tangent_35 : decode cX11_tangent 35 = .ok (.iconst (-1), 1) := by decide +kernel
theorem dX11_tangent_36 : decode cX11_tangent 36 = .ok (.ireturn, 1) := by decide +kernel
theorem dX11_tangent_37 : decode cX11_tangent 37 = .ok (.iconst 0, 1) := by decide +kernel
theorem dX11_tangent_38 : decode cX11_tangent 38 = .ok (.istore 5, 2) := by decide +kernel
theorem dX11_tangent_40 : decode cX11_tangent 40 = .ok (.iconst 0, 1) := by decide +kernel
theorem dX11_tangent_41 : decode cX11_tangent 41 = .ok (.istore 6, 2) := by decide +kernel
theorem dX11_tangent_43 : decode cX11_tangent 43 = .ok (.iconst 0, 1) := by decide +kernel
theorem dX11_tangent_44 : decode cX11_tangent 44 = .ok (.istore 7, 2) := by decide +kernel
theorem dX11_tangent_46 : decode cX11_tangent 46 = .ok (.iload 7, 2) := by decide +kernel
theorem dX11_tangent_48 : decode cX11_tangent 48 = .ok (.aload_n 0, 1) := by decide +kernel
theorem dX11_tangent_49 : decode cX11_tangent 49 = .ok (.getfield 22, 3) := by decide +kernel
theorem dX11_tangent_52 : decode cX11_tangent 52 = .ok (.getfield 123, 3) := by decide +kernel
theorem dX11_tangent_55 : decode cX11_tangent 55 = .ok (.if_icmp .gt 57, 3) := by decide +kernel
theorem dX11_tangent_58 : decode cX11_tangent 58 = .ok (.aload_n 0, 1) := by decide +kernel
theorem dX11_tangent_59 : decode cX11_tangent 59 = .ok (.getfield 43, 3) := by decide +kernel
theorem dX11_tangent_62 : decode cX11_tangent 62 = .ok (.iload 7, 2) := by decide +kernel
theorem dX11_tangent_64 : decode cX11_tangent 64 = .ok (.invokevirtual 173, 3) := by decide +kernel
theorem dX11_tangent_67 : decode cX11_tangent 67 = .ok (.istore 8, 2) := by decide +kernel
theorem dX11_tangent_69 : decode cX11_tangent 69 = .ok (.iload 8, 2) := by decide +kernel
theorem dX11_tangent_71 : decode cX11_tangent 71 = .ok (.ifCond .ne 6, 3) := by decide +kernel
theorem dX11_tangent_74 : decode cX11_tangent 74 = .ok (.goto 32, 3) := by decide +kernel
theorem dX11_tangent_77 : decode cX11_tangent 77 = .ok (.iload 5, 2) := by decide +kernel
theorem dX11_tangent_79 : decode cX11_tangent 79 = .ok (.iload_n 3, 1) := by decide +kernel
theorem dX11_tangent_80 : decode cX11_tangent 80 = .ok (.if_icmp .ne 16, 3) := by decide +kernel
theorem dX11_tangent_83 : decode cX11_tangent 83 = .ok (.iload 4, 2) := by decide +kernel
theorem dX11_tangent_85 : decode cX11_tangent 85 = .ok (.ifCond .ne 8, 3) := by decide +kernel
theorem dX11_tangent_88 : decode cX11_tangent 88 = .ok (.iload 7, 2) := by decide +kernel
theorem dX11_tangent_90 : decode cX11_tangent 90 = .ok (.goto 5, 3) := by decide +kernel
theorem dX11_tangent_93 : decode cX11_tangent 93 = .ok (.iload 8, 2) := by decide +kernel
theorem dX11_tangent_95 : decode cX11_tangent 95 = .ok (.ireturn, 1) := by decide +kernel
theorem dX11_tangent_96 : decode cX11_tangent 96 = .ok (.iinc 5 1, 3) := by decide +kernel
theorem dX11_tangent_99 : decode cX11_tangent 99 = .ok (.iload 6, 2) := by decide +kernel
theorem dX11_tangent_101 : decode cX11_tangent 101 = .ok (.iload 8, 2) := by decide +kernel
theorem dX11_tangent_103 : decode cX11_tangent 103 = .ok (.iadd, 1) := by decide +kernel
theorem dX11_tangent_104 : decode cX11_tangent 104 = .ok (.istore 6, 2) := by decide +kernel
theorem dX11_tangent_106 : decode cX11_tangent 106 = .ok (.iinc 7 1, 3) := by decide +kernel
theorem dX11_tangent_109 : decode cX11_tangent 109 = .ok (.goto (-63), 3) := by decide +kernel
theorem dX11_tangent_112 : decode cX11_tangent 112 = .ok (.iload_n 3, 1) := by decide +kernel
theorem dX11_tangent_113 : decode cX11_tangent 113 = .ok (.iconst (-1), 1) := by decide +kernel
theorem dX11_tangent_114 : decode cX11_tangent 114 = .ok (.if_icmp .eq 5, 3) := by decide +kernel
theorem dX11_tangent_117 : decode cX11_tangent 117 = .ok (.iconst (-1), 1) := by decide +kernel
theorem dX11_tangent_118 : decode cX11_tangent 118 = .ok (.ireturn, 1) := by decide +kernel
theorem dX11_tangent_119 : decode cX11_tangent 119 = .ok (.iload 4, 2) := by decide +kernel
theorem dX11_tangent_121 : decode cX11_tangent 121 = .ok (.ifCond .ne 8, 3) := by decide +kernel
theorem dX11_tangent_124 : decode cX11_tangent 124 = .ok (.iload 5, 2) := by decide +kernel
theorem dX11_tangent_126 : decode cX11_tangent 126 = .ok (.goto 5, 3) := by decide +kernel
theorem dX11_tangent_129 : decode cX11_tangent 129 = .ok (.iload 6, 2) := by decide +kernel
theorem dX11_tangent_131 : decode cX11_tangent 131 = .ok (.ireturn, 1) := by decide +kernel
theorem dX11_bend_0 : decode cX11_bend 0 = .ok (.aload_n 0, 1) := by decide +kernel
theorem dX11_bend_1 : decode cX11_bend 1 = .ok (.iload_n 1, 1) := by decide +kernel
theorem dX11_bend_2 : decode cX11_bend 2 = .ok (.iload_n 2, 1) := by decide +kernel
theorem dX11_bend_3 : decode cX11_bend 3 = .ok (.invokevirtual 163, 3) := by decide +kernel
theorem dX11_bend_6 : decode cX11_bend 6 = .ok (.ifCond .eq 13, 3) := by decide +kernel
theorem dX11_bend_9 : decode cX11_bend 9 = .ok (.aload_n 0, 1) := by decide +kernel
theorem dX11_bend_10 : decode cX11_bend 10 = .ok (.getfield 43, 3) := by decide +kernel
theorem dX11_bend_13 : decode cX11_bend 13 = .ok (.invokevirtual 176, 3) := by decide +kernel
theorem dX11_bend_16 : decode cX11_bend 16 = .ok (.goto 4, 3) := by decide +kernel
theorem dX11_bend_19 : decode cX11_bend 19 = .ok (.iconst (-1), 1) := by decide +kernel
theorem dX11_bend_20 : decode cX11_bend 20 = .ok (.ireturn, 1) := by decide +kernel
theorem dX11_flex_0 : decode cX11_flex 0 = .ok (.aload_n 0, 1) := by decide +kernel
theorem dX11_flex_1 : decode cX11_flex 1 = .ok (.iload_n 1, 1) := by decide +kernel
theorem dX11_flex_2 : decode cX11_flex 2 = .ok (.iload_n 2, 1) := by decide +kernel
theorem dX11_flex_3 : decode cX11_flex 3 = .ok (.iconst 2, 1) := by decide +kernel
theorem dX11_flex_4 : decode cX11_flex 4 = .ok (.invokevirtual 159, 3) := by decide +kernel
theorem dX11_flex_7 : decode cX11_flex 7 = .ok (.ireturn, 1) := by decide +kernel
theorem dX11_genus_0 : decode cX11_genus 0 = .ok (.aload_n 0, 1) := by decide +kernel
theorem dX11_genus_1 : decode cX11_genus 1 = .ok (.getfield 22, 3) := by decide +kernel
theorem dX11_genus_4 : decode cX11_genus 4 = .ok (.iload_n 1, 1) := by decide +kernel
theorem dX11_genus_5 : decode cX11_genus 5 = .ok (.invokevirtual 135, 3) := by decide +kernel
theorem dX11_genus_8 : decode cX11_genus 8 = .ok (.astore_n 2, 1) := by decide +kernel
theorem dX11_genus_9 : decode cX11_genus 9 = .ok (.aload_n 2, 1) := by decide +kernel
theorem dX11_genus_10 : decode cX11_genus 10 = .ok (.ifnonnull 6, 3) := by decide +kernel
theorem dX11_genus_13 : decode cX11_genus 13 = .ok (.bipush (-100), 2) := by decide +kernel
theorem dX11_genus_15 : decode cX11_genus 15 = .ok (.ireturn, 1) := by decide +kernel
theorem dX11_genus_16 : decode cX11_genus 16 = .ok (.aload_n 2, 1) := by decide +kernel
theorem dX11_genus_17 : decode cX11_genus 17 = .ok (.invokevirtual 148, 3) := by decide +kernel
theorem dX11_genus_20 : decode cX11_genus 20 = .ok (.istore_n 3, 1) := by decide +kernel
theorem dX11_genus_21 : decode cX11_genus 21 = .ok (.iload_n 3, 1) := by decide +kernel
theorem dX11_genus_22 : decode cX11_genus 22 = .ok (.iconst 1, 1) := by decide +kernel
theorem dX11_genus_23 : decode cX11_genus 23 = .ok (.isub, 1) := by decide +kernel
theorem dX11_genus_24 : decode cX11_genus 24 = .ok (.iload_n 3, 1) := by decide +kernel
theorem dX11_genus_25 : decode cX11_genus 25 = .ok (.iconst 2, 1) := by decide +kernel
theorem dX11_genus_26 : decode cX11_genus 26 = .ok (.isub, 1) := by decide +kernel
theorem dX11_genus_27 : decode cX11_genus 27 = .ok (.imul, 1) := by decide +kernel
theorem dX11_genus_28 : decode cX11_genus 28 = .ok (.iconst 2, 1) := by decide +kernel
theorem dX11_genus_29 : decode cX11_genus 29 = .ok (.idiv, 1) := by decide +kernel
theorem dX11_genus_30 : decode cX11_genus 30 = .ok (.istore 4, 2) := by decide +kernel
theorem dX11_genus_32 : decode cX11_genus 32 = .ok (.aload_n 0, 1) := by decide +kernel
theorem dX11_genus_33 : decode cX11_genus 33 = .ok (.getfield 22, 3) := by decide +kernel
theorem dX11_genus_36 : decode cX11_genus 36 = .ok (.getfield 123, 3) := by decide +kernel
theorem dX11_genus_39 : decode cX11_genus 39 = .ok (.invokestatic 126, 3) := by decide +kernel
theorem dX11_genus_42 : decode cX11_genus 42 = .ok (.istore 5, 2) := by decide +kernel
theorem dX11_genus_44 : decode cX11_genus 44 = .ok (.iconst 0, 1) := by decide +kernel
theorem dX11_genus_45 : decode cX11_genus 45 = .ok (.istore 6, 2) := by decide +kernel
theorem dX11_genus_47 : decode cX11_genus 47 = .ok (.iload 6, 2) := by decide +kernel
theorem dX11_genus_49 : decode cX11_genus 49 = .ok (.iload 5, 2) := by decide +kernel
theorem dX11_genus_51 : decode cX11_genus 51 = .ok (.if_icmp .ge 43, 3) := by decide +kernel
theorem dX11_genus_54 : decode cX11_genus 54 = .ok (.aload_n 0, 1) := by decide +kernel
theorem dX11_genus_55 : decode cX11_genus 55 = .ok (.aload_n 2, 1) := by decide +kernel
theorem dX11_genus_56 : decode cX11_genus 56 = .ok (.iload 6, 2) := by decide +kernel
theorem dX11_genus_58 : decode cX11_genus 58 = .ok (.iconst 1, 1) := by decide +kernel
theorem dX11_genus_59 : decode cX11_genus 59 = .ok (.invokevirtual 179, 3) := by decide +kernel
theorem dX11_genus_62 : decode cX11_genus 62 = .ok (.ifCond .eq 26, 3) := by decide +kernel
theorem dX11_genus_65 : decode cX11_genus 65 = .ok (.aload_n 0, 1) := by decide +kernel
theorem dX11_genus_66 : decode cX11_genus 66 = .ok (.getfield 43, 3) := by decide +kernel
theorem dX11_genus_69 : decode cX11_genus 69 = .ok (.invokevirtual 166, 3) := by decide +kernel
theorem dX11_genus_72 : decode cX11_genus 72 = .ok (.istore 7, 2) := by decide +kernel
theorem dX11_genus_74 : decode cX11_genus 74 = .ok (.iload 4, 2) := by decide +kernel
theorem dX11_genus_76 : decode cX11_genus 76 = .ok (.iload 7, 2) := by decide +kernel
theorem dX11_genus_78 : decode cX11_genus 78 = .ok (.iload 7, 2) := by decide +kernel
theorem dX11_genus_80 : decode cX11_genus 80 = .ok (.iconst 1, 1) := by decide +kernel
theorem dX11_genus_81 : decode cX11_genus 81 = .ok (.isub, 1) := by decide +kernel
theorem dX11_genus_82 : decode cX11_genus 82 = .ok (.imul, 1) := by decide +kernel
theorem dX11_genus_83 : decode cX11_genus 83 = .ok (.iconst 2, 1) := by decide +kernel
theorem dX11_genus_84 : decode cX11_genus 84 = .ok (.idiv, 1) := by decide +kernel
theorem dX11_genus_85 : decode cX11_genus 85 = .ok (.isub, 1) := by decide +kernel
theorem dX11_genus_86 : decode cX11_genus 86 = .ok (.istore 4, 2) := by decide +kernel
theorem dX11_genus_88 : decode cX11_genus 88 = .ok (.iinc 6 1, 3) := by decide +kernel
theorem dX11_genus_91 : decode cX11_genus 91 = .ok (.goto (-44), 3) := by decide +kernel
theorem dX11_genus_94 : decode cX11_genus 94 = .ok (.iload 4, 2) := by decide +kernel
theorem dX11_genus_96 : decode cX11_genus 96 = .ok (.ireturn, 1) := by decide +kernel
theorem dX11_common_0 : decode cX11_common 0 = .ok (.aload_n 0, 1) := by decide +kernel
theorem dX11_common_1 : decode cX11_common 1 = .ok (.getfield 22, 3) := by decide +kernel
theorem dX11_common_4 : decode cX11_common 4 = .ok (.iload_n 1, 1) := by decide +kernel
theorem dX11_common_5 : decode cX11_common 5 = .ok (.invokevirtual 135, 3) := by decide +kernel
theorem dX11_common_8 : decode cX11_common 8 = .ok (.astore_n 3, 1) := by decide +kernel
theorem dX11_common_9 : decode cX11_common 9 = .ok (.aload_n 0, 1) := by decide +kernel
theorem dX11_common_10 : decode cX11_common 10 = .ok (.getfield 22, 3) := by decide +kernel
theorem dX11_common_13 : decode cX11_common 13 = .ok (.iload_n 2, 1) := by decide +kernel
theorem dX11_common_14 : decode cX11_common 14 = .ok (.invokevirtual 135, 3) := by decide +kernel
theorem dX11_common_17 : decode cX11_common 17 = .ok (.astore 4, 2) := by decide +kernel
theorem dX11_common_19 : decode cX11_common 19 = .ok (.aload_n 3, 1) := by decide +kernel
theorem dX11_common_20 : decode cX11_common 20 = .ok (.ifnull 8, 3) := by decide +kernel
theorem dX11_common_23 : decode cX11_common 23 = .ok (.aload 4, 2) := by decide +kernel
theorem dX11_common_25 : decode cX11_common 25 = .ok (.ifnonnull 7, 3) := by decide +kernel
theorem dX11_common_28 : decode cX11_common 28 = .ok (.iconst (-1), 1) := by decide +kernel
theorem dX11_common_29 : decode cX11_common 29 = .ok (.goto 23, 3) := by decide +kernel
theorem dX11_common_32 : decode cX11_common 32 = .ok (.aload_n 0, 1) := by decide +kernel
theorem dX11_common_33 : decode cX11_common 33 = .ok (.getfield 55, 3) := by decide +kernel
theorem dX11_common_36 : decode cX11_common 36 = .ok (.aload_n 3, 1) := by decide +kernel
theorem dX11_common_37 : decode cX11_common 37 = .ok (.aload 4, 2) := by decide +kernel
theorem dX11_common_39 : decode cX11_common 39 = .ok (.aload_n 0, 1) := by decide +kernel
theorem dX11_common_40 : decode cX11_common 40 = .ok (.getfield 22, 3) := by decide +kernel
theorem dX11_common_43 : decode cX11_common 43 = .ok (.getfield 123, 3) := by decide +kernel
theorem dX11_common_46 : decode cX11_common 46 = .ok (.invokevirtual 183, 3) := by decide +kernel
theorem dX11_common_49 : decode cX11_common 49 = .ok (.invokevirtual 148, 3) := by decide +kernel
theorem dX11_common_52 : decode cX11_common 52 = .ok (.ireturn, 1) := by decide +kernel
theorem dX11_commonTerm_0 : decode cX11_commonTerm 0 = .ok (.aload_n 0, 1) := by decide +kernel
theorem dX11_commonTerm_1 : decode cX11_commonTerm 1 = .ok (.getfield 22, 3) := by decide +kernel
theorem dX11_commonTerm_4 : decode cX11_commonTerm 4 = .ok (.iload_n 1, 1) := by decide +kernel
theorem dX11_commonTerm_5 : decode cX11_commonTerm 5 = .ok (.invokevirtual 135, 3) := by decide +kernel
theorem dX11_commonTerm_8 : decode cX11_commonTerm 8 = .ok (.astore 5, 2) := by decide +kernel
theorem dX11_commonTerm_10 : decode cX11_commonTerm 10 = .ok (.aload_n 0, 1) := by decide +kernel
theorem dX11_commonTerm_11 : decode cX11_commonTerm 11 = .ok (.getfield 22, 3) := by decide +kernel
theorem dX11_commonTerm_14 : decode cX11_commonTerm 14 = .ok (.iload_n 2, 1) := by decide +kernel
theorem dX11_commonTerm_15 : decode cX11_commonTerm 15 = .ok (.invokevirtual 135, 3) := by decide +kernel
theorem dX11_commonTerm_18 : decode cX11_commonTerm 18 = .ok (.astore 6, 2) := by decide +kernel
theorem dX11_commonTerm_20 : decode cX11_commonTerm 20 = .ok (.aload 5, 2) := by decide +kernel
theorem dX11_commonTerm_22 : decode cX11_commonTerm 22 = .ok (.ifnull 17, 3) := by decide +kernel
theorem dX11_commonTerm_25 : decode cX11_commonTerm 25 = .ok (.aload 6, 2) := by decide +kernel
theorem dX11_commonTerm_27 : decode cX11_commonTerm 27 = .ok (.ifnull 12, 3) := by decide +kernel
theorem dX11_commonTerm_30 : decode cX11_commonTerm 30 = .ok (.iload_n 3, 1) := by decide +kernel
theorem dX11_commonTerm_31 : decode cX11_commonTerm 31 = .ok (.iload 4, 2) := by decide +kernel
theorem dX11_commonTerm_33 : decode cX11_commonTerm 33 = .ok (.invokestatic 139, 3) := by decide +kernel
theorem dX11_commonTerm_36 : decode cX11_commonTerm 36 = .ok (.ifCond .ne 5, 3) := by decide +kernel
theorem dX11_commonTerm_39 : decode cX11_commonTerm 39 = .ok (.iconst (-1), 1) := by decide +kernel
theorem dX11_commonTerm_40 : decode cX11_commonTerm 40 = .ok (.ireturn, 1) := by decide +kernel
theorem dX11_commonTerm_41 : decode cX11_commonTerm 41 = .ok (.aload_n 0, 1) := by decide +kernel
theorem dX11_commonTerm_42 : decode cX11_commonTerm 42 = .ok (.getfield 55, 3) := by decide +kernel
theorem dX11_commonTerm_45 : decode cX11_commonTerm 45 = .ok (.aload 5, 2) := by decide +kernel
theorem dX11_commonTerm_47 : decode cX11_commonTerm 47 = .ok (.aload 6, 2) := by decide +kernel
theorem dX11_commonTerm_49 : decode cX11_commonTerm 49 = .ok (.aload_n 0, 1) := by decide +kernel
theorem dX11_commonTerm_50 : decode cX11_commonTerm 50 = .ok (.getfield 22, 3) := by decide +kernel
theorem dX11_commonTerm_53 : decode cX11_commonTerm 53 = .ok (.getfield 123, 3) := by decide +kernel
theorem dX11_commonTerm_56 : decode cX11_commonTerm 56 = .ok (.invokevirtual 183, 3) := by decide +kernel
theorem dX11_commonTerm_59 : decode cX11_commonTerm 59 = .ok (.iload_n 3, 1) := by decide +kernel
theorem dX11_commonTerm_60 : decode cX11_commonTerm 60 = .ok (.iload 4, 2) := by decide +kernel
theorem dX11_commonTerm_62 : decode cX11_commonTerm 62 = .ok (.invokevirtual 145, 3) := by decide +kernel
theorem dX11_commonTerm_65 : decode cX11_commonTerm 65 = .ok (.ireturn, 1) := by decide +kernel
theorem dX11_times_0 : decode cX11_times 0 = .ok (.aload_n 0, 1) := by decide +kernel
theorem dX11_times_1 : decode cX11_times 1 = .ok (.getfield 22, 3) := by decide +kernel
theorem dX11_times_4 : decode cX11_times 4 = .ok (.iload_n 1, 1) := by decide +kernel
theorem dX11_times_5 : decode cX11_times 5 = .ok (.invokevirtual 135, 3) := by decide +kernel
theorem dX11_times_8 : decode cX11_times 8 = .ok (.astore 4, 2) := by decide +kernel
theorem dX11_times_10 : decode cX11_times 10 = .ok (.aload_n 0, 1) := by decide +kernel
theorem dX11_times_11 : decode cX11_times 11 = .ok (.getfield 22, 3) := by decide +kernel
theorem dX11_times_14 : decode cX11_times 14 = .ok (.iload_n 2, 1) := by decide +kernel
theorem dX11_times_15 : decode cX11_times 15 = .ok (.invokevirtual 135, 3) := by decide +kernel
theorem dX11_times_18 : decode cX11_times 18 = .ok (.astore 5, 2) := by decide +kernel
theorem dX11_times_20 : decode cX11_times 20 = .ok (.aload 4, 2) := by decide +kernel
theorem dX11_times_22 : decode cX11_times 22 = .ok (.ifnull 22, 3) := by decide +kernel
theorem dX11_times_25 : decode cX11_times 25 = .ok (.aload 5, 2) := by decide +kernel
theorem dX11_times_27 : decode cX11_times 27 = .ok (.ifnull 17, 3) := by decide +kernel
theorem dX11_times_30 : decode cX11_times 30 = .ok (.iload_n 3, 1) := by decide +kernel
theorem dX11_times_31 : decode cX11_times 31 = .ok (.aload_n 0, 1) := by decide +kernel
theorem dX11_times_32 : decode cX11_times 32 = .ok (.getfield 22, 3) := by decide +kernel
theorem dX11_times_35 : decode cX11_times 35 = .ok (.getfield 123, 3) := by decide +kernel
theorem dX11_times_38 : decode cX11_times 38 = .ok (.invokestatic 186, 3) := by decide +kernel
theorem dX11_times_41 : decode cX11_times 41 = .ok (.ifCond .ne 5, 3) := by decide +kernel
theorem dX11_times_44 : decode cX11_times 44 = .ok (.iconst (-1), 1) := by decide +kernel
theorem dX11_times_45 : decode cX11_times 45 = .ok (.ireturn, 1) := by decide +kernel
theorem dX11_times_46 : decode cX11_times 46 = .ok (.aload_n 0, 1) := by decide +kernel
theorem dX11_times_47 : decode cX11_times 47 = .ok (.getfield 55, 3) := by decide +kernel
theorem dX11_times_50 : decode cX11_times 50 = .ok (.aload 4, 2) := by decide +kernel
theorem dX11_times_52 : decode cX11_times 52 = .ok (.aload 5, 2) := by decide +kernel
theorem dX11_times_54 : decode cX11_times 54 = .ok (.aload_n 0, 1) := by decide +kernel
theorem dX11_times_55 : decode cX11_times 55 = .ok (.getfield 22, 3) := by decide +kernel
theorem dX11_times_58 : decode cX11_times 58 = .ok (.getfield 123, 3) := by decide +kernel
theorem dX11_times_61 : decode cX11_times 61 = .ok (.invokevirtual 183, 3) := by decide +kernel
theorem dX11_times_64 : decode cX11_times 64 = .ok (.pop, 1) := by decide +kernel
theorem dX11_times_65 : decode cX11_times 65 = .ok (.aload_n 0, 1) := by decide +kernel
theorem dX11_times_66 : decode cX11_times 66 = .ok (.aload 4, 2) := by decide +kernel
theorem dX11_times_68 : decode cX11_times 68 = .ok (.aload 5, 2) := by decide +kernel
theorem dX11_times_70 : decode cX11_times 70 = .ok (.iload_n 3, 1) := by decide +kernel
theorem dX11_times_71 : decode cX11_times 71 = .ok (.invokevirtual 189, 3) := by decide +kernel
theorem dX11_times_74 : decode cX11_times 74 = .ok (.ireturn, 1) := by decide +kernel
theorem dX11_rules_0 : decode cX11_rules 0 = .ok (.iload 4, 2) := by decide +kernel
theorem dX11_rules_2 : decode cX11_rules 2 = .ok (.ifCond .lt 9, 3) := by decide +kernel
theorem dX11_rules_5 : decode cX11_rules 5 = .ok (.iload 4, 2) := by decide +kernel
theorem dX11_rules_7 : decode cX11_rules 7 = .ok (.iconst 4, 1) := by decide +kernel
theorem dX11_rules_8 : decode cX11_rules 8 = .ok (.if_icmp .lt 5, 3) := by decide +kernel
theorem dX11_rules_11 : decode cX11_rules 11 = .ok (.iconst (-1), 1) := by decide +kernel
theorem dX11_rules_12 : decode cX11_rules 12 = .ok (.ireturn, 1) := by decide +kernel
theorem dX11_rules_13 : decode cX11_rules 13 = .ok (.aload_n 0, 1) := by decide +kernel
theorem dX11_rules_14 : decode cX11_rules 14 = .ok (.iload_n 1, 1) := by decide +kernel
theorem dX11_rules_15 : decode cX11_rules 15 = .ok (.iload_n 2, 1) := by decide +kernel
theorem dX11_rules_16 : decode cX11_rules 16 = .ok (.iload_n 3, 1) := by decide +kernel
theorem dX11_rules_17 : decode cX11_rules 17 = .ok (.invokevirtual 193, 3) := by decide +kernel
theorem dX11_rules_20 : decode cX11_rules 20 = .ok (.ifCond .ge 7, 3) := by decide +kernel
theorem dX11_rules_23 : decode cX11_rules 23 = .ok (.iconst (-1), 1) := by decide +kernel
theorem dX11_rules_24 : decode cX11_rules 24 = .ok (.goto 13, 3) := by decide +kernel
theorem dX11_rules_27 : decode cX11_rules 27 = .ok (.aload_n 0, 1) := by decide +kernel
theorem dX11_rules_28 : decode cX11_rules 28 = .ok (.getfield 62, 3) := by decide +kernel
theorem dX11_rules_31 : decode cX11_rules 31 = .ok (.getfield 196, 3) := by decide +kernel
theorem dX11_rules_34 : decode cX11_rules 34 = .ok (.iload 4, 2) := by decide +kernel
theorem dX11_rules_36 : decode cX11_rules 36 = .ok (.iaload, 1) := by decide +kernel
theorem dX11_rules_37 : decode cX11_rules 37 = .ok (.ireturn, 1) := by decide +kernel
theorem dX11_rule_0 : decode cX11_rule 0 = .ok (.aload_n 0, 1) := by decide +kernel
theorem dX11_rule_1 : decode cX11_rule 1 = .ok (.iload_n 1, 1) := by decide +kernel
theorem dX11_rule_2 : decode cX11_rule 2 = .ok (.iload_n 2, 1) := by decide +kernel
theorem dX11_rule_3 : decode cX11_rule 3 = .ok (.iload_n 3, 1) := by decide +kernel
theorem dX11_rule_4 : decode cX11_rule 4 = .ok (.invokevirtual 193, 3) := by decide +kernel
theorem dX11_rule_7 : decode cX11_rule 7 = .ok (.ifCond .ge 7, 3) := by decide +kernel
theorem dX11_rule_10 : decode cX11_rule 10 = .ok (.iconst (-1), 1) := by decide +kernel
theorem dX11_rule_11 : decode cX11_rule 11 = .ok (.goto 12, 3) := by decide +kernel
theorem dX11_rule_14 : decode cX11_rule 14 = .ok (.aload_n 0, 1) := by decide +kernel
theorem dX11_rule_15 : decode cX11_rule 15 = .ok (.getfield 62, 3) := by decide +kernel
theorem dX11_rule_18 : decode cX11_rule 18 = .ok (.iload 4, 2) := by decide +kernel
theorem dX11_rule_20 : decode cX11_rule 20 = .ok (.invokevirtual 199, 3) := by decide +kernel
theorem dX11_rule_23 : decode cX11_rule 23 = .ok (.ireturn, 1) := by decide +kernel
theorem dX11_size_0 : decode cX11_size 0 = .ok (.aload_n 0, 1) := by decide +kernel
theorem dX11_size_1 : decode cX11_size 1 = .ok (.getfield 22, 3) := by decide +kernel
theorem dX11_size_4 : decode cX11_size 4 = .ok (.iload_n 1, 1) := by decide +kernel
theorem dX11_size_5 : decode cX11_size 5 = .ok (.invokevirtual 135, 3) := by decide +kernel
theorem dX11_size_8 : decode cX11_size 8 = .ok (.astore 4, 2) := by decide +kernel
theorem dX11_size_10 : decode cX11_size 10 = .ok (.aload_n 0, 1) := by decide +kernel
theorem dX11_size_11 : decode cX11_size 11 = .ok (.getfield 22, 3) := by decide +kernel
theorem dX11_size_14 : decode cX11_size 14 = .ok (.iload_n 2, 1) := by decide +kernel
theorem dX11_size_15 : decode cX11_size 15 = .ok (.invokevirtual 135, 3) := by decide +kernel
theorem dX11_size_18 : decode cX11_size 18 = .ok (.astore 5, 2) := by decide +kernel
theorem dX11_size_20 : decode cX11_size 20 = .ok (.aload 4, 2) := by decide +kernel
theorem dX11_size_22 : decode cX11_size 22 = .ok (.ifnull 26, 3) := by decide +kernel
theorem dX11_size_25 : decode cX11_size 25 = .ok (.aload 5, 2) := by decide +kernel
theorem dX11_size_27 : decode cX11_size 27 = .ok (.ifnull 21, 3) := by decide +kernel
theorem dX11_size_30 : decode cX11_size 30 = .ok (.aload_n 0, 1) := by decide +kernel
theorem dX11_size_31 : decode cX11_size 31 = .ok (.getfield 36, 3) := by decide +kernel
theorem dX11_size_34 : decode cX11_size 34 = .ok (.iload_n 3, 1) := by decide +kernel
theorem dX11_size_35 : decode cX11_size 35 = .ok (.aload_n 0, 1) := by decide +kernel
theorem dX11_size_36 : decode cX11_size 36 = .ok (.getfield 22, 3) := by decide +kernel
theorem dX11_size_39 : decode cX11_size 39 = .ok (.getfield 123, 3) := by decide +kernel
theorem dX11_size_42 : decode cX11_size 42 = .ok (.invokevirtual 152, 3) := by decide +kernel
theorem dX11_size_45 : decode cX11_size 45 = .ok (.ifCond .ne 5, 3) := by decide +kernel
theorem dX11_size_48 : decode cX11_size 48 = .ok (.iconst (-1), 1) := by decide +kernel
theorem dX11_size_49 : decode cX11_size 49 = .ok (.ireturn, 1) := by decide +kernel
theorem dX11_size_50 : decode cX11_size 50 = .ok (.aload_n 0, 1) := by decide +kernel
theorem dX11_size_51 : decode cX11_size 51 = .ok (.getfield 43, 3) := by decide +kernel
theorem dX11_size_54 : decode cX11_size 54 = .ok (.aload 4, 2) := by decide +kernel
theorem dX11_size_56 : decode cX11_size 56 = .ok (.aload_n 0, 1) := by decide +kernel
theorem dX11_size_57 : decode cX11_size 57 = .ok (.getfield 36, 3) := by decide +kernel
theorem dX11_size_60 : decode cX11_size 60 = .ok (.aload_n 0, 1) := by decide +kernel
theorem dX11_size_61 : decode cX11_size 61 = .ok (.getfield 22, 3) := by decide +kernel
theorem dX11_size_64 : decode cX11_size 64 = .ok (.getfield 123, 3) := by decide +kernel
theorem dX11_size_67 : decode cX11_size 67 = .ok (.invokevirtual 202, 3) := by decide +kernel
theorem dX11_size_70 : decode cX11_size 70 = .ok (.aload_n 0, 1) := by decide +kernel
theorem dX11_size_71 : decode cX11_size 71 = .ok (.getfield 47, 3) := by decide +kernel
theorem dX11_size_74 : decode cX11_size 74 = .ok (.aload 5, 2) := by decide +kernel
theorem dX11_size_76 : decode cX11_size 76 = .ok (.aload_n 0, 1) := by decide +kernel
theorem dX11_size_77 : decode cX11_size 77 = .ok (.getfield 36, 3) := by decide +kernel
theorem dX11_size_80 : decode cX11_size 80 = .ok (.aload_n 0, 1) := by decide +kernel
theorem dX11_size_81 : decode cX11_size 81 = .ok (.getfield 22, 3) := by decide +kernel
theorem dX11_size_84 : decode cX11_size 84 = .ok (.getfield 123, 3) := by decide +kernel
theorem dX11_size_87 : decode cX11_size 87 = .ok (.invokevirtual 202, 3) := by decide +kernel
theorem dX11_size_90 : decode cX11_size 90 = .ok (.aload_n 0, 1) := by decide +kernel
theorem dX11_size_91 : decode cX11_size 91 = .ok (.getfield 69, 3) := by decide +kernel
theorem dX11_size_94 : decode cX11_size 94 = .ok (.aload_n 0, 1) := by decide +kernel
theorem dX11_size_95 : decode cX11_size 95 = .ok (.getfield 43, 3) := by decide +kernel
theorem dX11_size_98 : decode cX11_size 98 = .ok (.getfield 169, 3) := by decide +kernel
theorem dX11_size_101 : decode cX11_size 101 = .ok (.aload_n 0, 1) := by decide +kernel
theorem dX11_size_102 : decode cX11_size 102 = .ok (.getfield 47, 3) := by decide +kernel
theorem dX11_size_105 : decode cX11_size 105 = .ok (.getfield 169, 3) := by decide +kernel
theorem dX11_size_108 : decode cX11_size 108 = .ok (.aload_n 0, 1) := by decide +kernel
theorem dX11_size_109 : decode cX11_size 109 = .ok (.getfield 22, 3) := by decide +kernel
theorem dX11_size_112 : decode cX11_size 112 = .ok (.getfield 123, 3) := by decide +kernel
theorem dX11_size_115 : decode cX11_size 115 = .ok (.invokevirtual 206, 3) := by decide +kernel
theorem dX11_size_118 : decode cX11_size 118 = .ok (.ireturn, 1) := by decide +kernel
theorem dX11_meet_0 : decode cX11_meet 0 = .ok (.aload_n 0, 1) := by decide +kernel
theorem dX11_meet_1 : decode cX11_meet 1 = .ok (.getfield 22, 3) := by decide +kernel
theorem dX11_meet_4 : decode cX11_meet 4 = .ok (.iload_n 1, 1) := by decide +kernel
theorem dX11_meet_5 : decode cX11_meet 5 = .ok (.invokevirtual 135, 3) := by decide +kernel
theorem dX11_meet_8 : decode cX11_meet 8 = .ok (.astore 5, 2) := by decide +kernel
theorem dX11_meet_10 : decode cX11_meet 10 = .ok (.aload_n 0, 1) := by decide +kernel
theorem dX11_meet_11 : decode cX11_meet 11 = .ok (.getfield 22, 3) := by decide +kernel
theorem dX11_meet_14 : decode cX11_meet 14 = .ok (.iload_n 2, 1) := by decide +kernel
theorem dX11_meet_15 : decode cX11_meet 15 = .ok (.invokevirtual 135, 3) := by decide +kernel
theorem dX11_meet_18 : decode cX11_meet 18 = .ok (.astore 6, 2) := by decide +kernel
theorem dX11_meet_20 : decode cX11_meet 20 = .ok (.aload 5, 2) := by decide +kernel
theorem dX11_meet_22 : decode cX11_meet 22 = .ok (.ifnull 24, 3) := by decide +kernel
theorem dX11_meet_25 : decode cX11_meet 25 = .ok (.aload 6, 2) := by decide +kernel
theorem dX11_meet_27 : decode cX11_meet 27 = .ok (.ifnull 19, 3) := by decide +kernel
theorem dX11_meet_30 : decode cX11_meet 30 = .ok (.iload 4, 2) := by decide +kernel
theorem dX11_meet_32 : decode cX11_meet 32 = .ok (.ifCond .lt 14, 3) := by decide +kernel
theorem dX11_meet_35 : decode cX11_meet 35 = .ok (.iload 4, 2) := by decide +kernel
theorem dX11_meet_37 : decode cX11_meet 37 = .ok (.iconst 1, 1) := by decide +kernel
theorem dX11_meet_38 : decode cX11_meet 38 = .ok (.if_icmp .gt 8, 3) := by decide +kernel
theorem dX11_meet_41 : decode cX11_meet 41 = .ok (.iload_n 3, 1) := by decide +kernel
theorem dX11_meet_42 : decode cX11_meet 42 = .ok (.iconst (-1), 1) := by decide +kernel
theorem dX11_meet_43 : decode cX11_meet 43 = .ok (.if_icmp .ge 5, 3) := by decide +kernel
theorem dX11_meet_46 : decode cX11_meet 46 = .ok (.iconst (-1), 1) := by decide +kernel
theorem dX11_meet_47 : decode cX11_meet 47 = .ok (.ireturn, 1) := by decide +kernel
theorem dX11_meet_48 : decode cX11_meet 48 = .ok (.aload_n 0, 1) := by decide +kernel
theorem dX11_meet_49 : decode cX11_meet 49 = .ok (.getfield 55, 3) := by decide +kernel
theorem dX11_meet_52 : decode cX11_meet 52 = .ok (.aload 5, 2) := by decide +kernel
theorem dX11_meet_54 : decode cX11_meet 54 = .ok (.aload 6, 2) := by decide +kernel
theorem dX11_meet_56 : decode cX11_meet 56 = .ok (.aload_n 0, 1) := by decide +kernel
theorem dX11_meet_57 : decode cX11_meet 57 = .ok (.getfield 22, 3) := by decide +kernel
theorem dX11_meet_60 : decode cX11_meet 60 = .ok (.getfield 123, 3) := by decide +kernel
theorem dX11_meet_63 : decode cX11_meet 63 = .ok (.invokevirtual 183, 3) := by decide +kernel
theorem dX11_meet_66 : decode cX11_meet 66 = .ok (.pop, 1) := by decide +kernel
theorem dX11_meet_67 : decode cX11_meet 67 = .ok (.iload_n 3, 1) := by decide +kernel
theorem dX11_meet_68 : decode cX11_meet 68 = .ok (.iconst (-1), 1) := by decide +kernel
theorem dX11_meet_69 : decode cX11_meet 69 = .ok (.if_icmp .ne 29, 3) := by decide +kernel
theorem dX11_meet_72 : decode cX11_meet 72 = .ok (.iload 4, 2) := by decide +kernel
theorem dX11_meet_74 : decode cX11_meet 74 = .ok (.iconst 1, 1) := by decide +kernel
theorem dX11_meet_75 : decode cX11_meet 75 = .ok (.if_icmp .ne 23, 3) := by decide +kernel
theorem dX11_meet_78 : decode cX11_meet 78 = .ok (.aload_n 0, 1) := by decide +kernel
theorem dX11_meet_79 : decode cX11_meet 79 = .ok (.aload 5, 2) := by decide +kernel
theorem dX11_meet_81 : decode cX11_meet 81 = .ok (.aload 6, 2) := by decide +kernel
theorem dX11_meet_83 : decode cX11_meet 83 = .ok (.iconst 0, 1) := by decide +kernel
theorem dX11_meet_84 : decode cX11_meet 84 = .ok (.aload_n 0, 1) := by decide +kernel
theorem dX11_meet_85 : decode cX11_meet 85 = .ok (.getfield 22, 3) := by decide +kernel
theorem dX11_meet_88 : decode cX11_meet 88 = .ok (.getfield 123, 3) := by decide +kernel
theorem dX11_meet_91 : decode cX11_meet 91 = .ok (.invokestatic 126, 3) := by decide +kernel
theorem dX11_meet_94 : decode cX11_meet 94 = .ok (.invokevirtual 209, 3) := by decide +kernel
theorem dX11_meet_97 : decode cX11_meet 97 = .ok (.ireturn, 1) := by decide +kernel
theorem dX11_meet_98 : decode cX11_meet 98 = .ok (.aload_n 0, 1) := by decide +kernel
theorem dX11_meet_99 : decode cX11_meet 99 = .ok (.getfield 22, 3) := by decide +kernel
theorem dX11_meet_102 : decode cX11_meet 102 = .ok (.getfield 123, 3) := by decide +kernel
theorem dX11_meet_105 : decode cX11_meet 105 = .ok (.invokestatic 126, 3) := by decide +kernel
theorem dX11_meet_108 : decode cX11_meet 108 = .ok (.istore 7, 2) := by decide +kernel
theorem dX11_meet_110 : decode cX11_meet 110 = .ok (.iconst 0, 1) := by decide +kernel
theorem dX11_meet_111 : decode cX11_meet 111 = .ok (.istore 8, 2) := by decide +kernel
theorem dX11_meet_113 : decode cX11_meet 113 = .ok (.iconst 0, 1) := by decide +kernel
theorem dX11_meet_114 : decode cX11_meet 114 = .ok (.istore 9, 2) := by decide +kernel
theorem dX11_meet_116 : decode cX11_meet 116 = .ok (.iload 9, 2) := by decide +kernel
theorem dX11_meet_118 : decode cX11_meet 118 = .ok (.iload 7, 2) := by decide +kernel
theorem dX11_meet_120 : decode cX11_meet 120 = .ok (.if_icmp .ge 55, 3) := by decide +kernel
theorem dX11_meet_123 : decode cX11_meet 123 = .ok (.aload_n 0, 1) := by decide +kernel
theorem dX11_meet_124 : decode cX11_meet 124 = .ok (.aload 5, 2) := by decide +kernel
theorem dX11_meet_126 : decode cX11_meet 126 = .ok (.aload 6, 2) := by decide +kernel
theorem dX11_meet_128 : decode cX11_meet 128 = .ok (.iload 9, 2) := by decide +kernel
theorem dX11_meet_130 : decode cX11_meet 130 = .ok (.invokevirtual 213, 3) := by decide +kernel
theorem dX11_meet_133 : decode cX11_meet 133 = .ok (.ifCond .ne 6, 3) := by decide +kernel
theorem dX11_meet_136 : decode cX11_meet 136 = .ok (.goto 33, 3) := by decide +kernel
theorem dX11_meet_139 : decode cX11_meet 139 = .ok (.iload 8, 2) := by decide +kernel
theorem dX11_meet_141 : decode cX11_meet 141 = .ok (.iload_n 3, 1) := by decide +kernel
theorem dX11_meet_142 : decode cX11_meet 142 = .ok (.if_icmp .ne 24, 3) := by decide +kernel
theorem dX11_meet_145 : decode cX11_meet 145 = .ok (.iload 4, 2) := by decide +kernel
theorem dX11_meet_147 : decode cX11_meet 147 = .ok (.ifCond .ne 8, 3) := by decide +kernel
theorem dX11_meet_150 : decode cX11_meet 150 = .ok (.iload 9, 2) := by decide +kernel
theorem dX11_meet_152 : decode cX11_meet 152 = .ok (.goto 13, 3) := by decide +kernel
theorem dX11_meet_155 : decode cX11_meet 155 = .ok (.aload_n 0, 1) := by decide +kernel
theorem dX11_meet_156 : decode cX11_meet 156 = .ok (.aload 5, 2) := by decide +kernel
theorem dX11_meet_158 : decode cX11_meet 158 = .ok (.aload 6, 2) := by decide +kernel
theorem dX11_meet_160 : decode cX11_meet 160 = .ok (.iload 9, 2) := by decide +kernel
theorem dX11_meet_162 : decode cX11_meet 162 = .ok (.invokevirtual 189, 3) := by decide +kernel
theorem dX11_meet_165 : decode cX11_meet 165 = .ok (.ireturn, 1) := by decide +kernel
theorem dX11_meet_166 : decode cX11_meet 166 = .ok (.iinc 8 1, 3) := by decide +kernel
theorem dX11_meet_169 : decode cX11_meet 169 = .ok (.iinc 9 1, 3) := by decide +kernel
theorem dX11_meet_172 : decode cX11_meet 172 = .ok (.goto (-56), 3) := by decide +kernel
theorem dX11_meet_175 : decode cX11_meet 175 = .ok (.iload_n 3, 1) := by decide +kernel
theorem dX11_meet_176 : decode cX11_meet 176 = .ok (.iconst (-1), 1) := by decide +kernel
theorem dX11_meet_177 : decode cX11_meet 177 = .ok (.if_icmp .ne 8, 3) := by decide +kernel
theorem dX11_meet_180 : decode cX11_meet 180 = .ok (.iload 8, 2) := by decide +kernel
theorem dX11_meet_182 : decode cX11_meet 182 = .ok (.goto 4, 3) := by decide +kernel
theorem dX11_meet_185 : decode cX11_meet 185 = .ok (.iconst (-1), 1) := by decide +kernel
theorem dX11_meet_186 : decode cX11_meet 186 = .ok (.ireturn, 1) := by decide +kernel
theorem dX11_parts_0 : decode cX11_parts 0 = .ok (.aload_n 0, 1) := by decide +kernel
theorem dX11_parts_1 : decode cX11_parts 1 = .ok (.getfield 22, 3) := by decide +kernel
theorem dX11_parts_4 : decode cX11_parts 4 = .ok (.iload_n 1, 1) := by decide +kernel
theorem dX11_parts_5 : decode cX11_parts 5 = .ok (.invokevirtual 135, 3) := by decide +kernel
theorem dX11_parts_8 : decode cX11_parts 8 = .ok (.astore 4, 2) := by decide +kernel
theorem dX11_parts_10 : decode cX11_parts 10 = .ok (.aload_n 0, 1) := by decide +kernel
theorem dX11_parts_11 : decode cX11_parts 11 = .ok (.getfield 22, 3) := by decide +kernel
theorem dX11_parts_14 : decode cX11_parts 14 = .ok (.iload_n 2, 1) := by decide +kernel
theorem dX11_parts_15 : decode cX11_parts 15 = .ok (.invokevirtual 135, 3) := by decide +kernel
theorem dX11_parts_18 : decode cX11_parts 18 = .ok (.astore 5, 2) := by decide +kernel
theorem dX11_parts_20 : decode cX11_parts 20 = .ok (.aload 4, 2) := by decide +kernel
theorem dX11_parts_22 : decode cX11_parts 22 = .ok (.ifnull 18, 3) := by decide +kernel
theorem dX11_parts_25 : decode cX11_parts 25 = .ok (.aload 5, 2) := by decide +kernel
theorem dX11_parts_27 : decode cX11_parts 27 = .ok (.ifnull 13, 3) := by decide +kernel
theorem dX11_parts_30 : decode cX11_parts 30 = .ok (.iload_n 3, 1) := by decide +kernel
theorem dX11_parts_31 : decode cX11_parts 31 = .ok (.ifCond .lt 9, 3) := by decide +kernel
theorem dX11_parts_34 : decode cX11_parts 34 = .ok (.iload_n 3, 1) := by decide +kernel
theorem dX11_parts_35 : decode cX11_parts 35 = .ok (.bipush 24, 2) := by decide +kernel
theorem dX11_parts_37 : decode cX11_parts 37 = .ok (.if_icmp .le 5, 3) := by decide +kernel
theorem dX11_parts_40 : decode cX11_parts 40 = .ok (.iconst (-1), 1) := by decide +kernel
theorem dX11_parts_41 : decode cX11_parts 41 = .ok (.ireturn, 1) := by decide +kernel
theorem dX11_parts_42 : decode cX11_parts 42 = .ok (.aload 4, 2) := by decide +kernel
theorem dX11_parts_44 : decode cX11_parts 44 = .ok (.invokevirtual 148, 3) := by decide +kernel
theorem dX11_parts_47 : decode cX11_parts 47 = .ok (.istore 6, 2) := by decide +kernel
theorem dX11_parts_49 : decode cX11_parts 49 = .ok (.aload 5, 2) := by decide +kernel
theorem dX11_parts_51 : decode cX11_parts 51 = .ok (.invokevirtual 148, 3) := by decide +kernel
theorem dX11_parts_54 : decode cX11_parts 54 = .ok (.istore 7, 2) := by decide +kernel
theorem dX11_parts_56 : decode cX11_parts 56 = .ok (.iload 6, 2) := by decide +kernel
theorem dX11_parts_58 : decode cX11_parts 58 = .ok (.iload 7, 2) := by decide +kernel
theorem dX11_parts_60 : decode cX11_parts 60 = .ok (.iadd, 1) := by decide +kernel
theorem dX11_parts_61 : decode cX11_parts 61 = .ok (.aload_n 0, 1) := by decide +kernel
theorem dX11_parts_62 : decode cX11_parts 62 = .ok (.getfield 55, 3) := by decide +kernel
theorem dX11_parts_65 : decode cX11_parts 65 = .ok (.aload 4, 2) := by decide +kernel
theorem dX11_parts_67 : decode cX11_parts 67 = .ok (.aload 5, 2) := by decide +kernel
theorem dX11_parts_69 : decode cX11_parts 69 = .ok (.aload_n 0, 1) := by decide +kernel
theorem dX11_parts_70 : decode cX11_parts 70 = .ok (.getfield 22, 3) := by decide +kernel
theorem dX11_parts_73 : decode cX11_parts 73 = .ok (.getfield 123, 3) := by decide +kernel
theorem dX11_parts_76 : decode cX11_parts 76 = .ok (.invokevirtual 183, 3) := by decide +kernel
theorem dX11_parts_79 : decode cX11_parts 79 = .ok (.invokevirtual 148, 3) := by decide +kernel
theorem dX11_parts_82 : decode cX11_parts 82 = .ok (.isub, 1) := by decide +kernel
theorem dX11_parts_83 : decode cX11_parts 83 = .ok (.istore 8, 2) := by decide +kernel
theorem dX11_parts_85 : decode cX11_parts 85 = .ok (.iload_n 3, 1) := by decide +kernel
theorem dX11_parts_86 : decode cX11_parts 86 = .ok (.invokestatic 217, 3) := by decide +kernel
theorem dX11_parts_89 : decode cX11_parts 89 = .ok (.iload_n 3, 1) := by decide +kernel
theorem dX11_parts_90 : decode cX11_parts 90 = .ok (.iload 6, 2) := by decide +kernel
theorem dX11_parts_92 : decode cX11_parts 92 = .ok (.isub, 1) := by decide +kernel
theorem dX11_parts_93 : decode cX11_parts 93 = .ok (.invokestatic 217, 3) := by decide +kernel
theorem dX11_parts_96 : decode cX11_parts 96 = .ok (.isub, 1) := by decide +kernel
theorem dX11_parts_97 : decode cX11_parts 97 = .ok (.iload_n 3, 1) := by decide +kernel
theorem dX11_parts_98 : decode cX11_parts 98 = .ok (.iload 7, 2) := by decide +kernel
theorem dX11_parts_100 : decode cX11_parts 100 = .ok (.isub, 1) := by decide +kernel
theorem dX11_parts_101 : decode cX11_parts 101 = .ok (.invokestatic 217, 3) := by decide +kernel
theorem dX11_parts_104 : decode cX11_parts 104 = .ok (.isub, 1) := by decide +kernel
theorem dX11_parts_105 : decode cX11_parts 105 = .ok (.iload_n 3, 1) := by decide +kernel
theorem dX11_parts_106 : decode cX11_parts 106 = .ok (.iload 8, 2) := by decide +kernel
theorem dX11_parts_108 : decode cX11_parts 108 = .ok (.isub, 1) := by decide +kernel
theorem dX11_parts_109 : decode cX11_parts 109 = .ok (.invokestatic 217, 3) := by decide +kernel
theorem dX11_parts_112 : decode cX11_parts 112 = .ok (.iadd, 1) := by decide +kernel
theorem dX11_parts_113 : decode cX11_parts 113 = .ok (.ireturn, 1) := by decide +kernel
theorem dX11_total_0 : decode cX11_total 0 = .ok (.aload_n 0, 1) := by decide +kernel
theorem dX11_total_1 : decode cX11_total 1 = .ok (.getfield 22, 3) := by decide +kernel
theorem dX11_total_4 : decode cX11_total 4 = .ok (.iload_n 1, 1) := by decide +kernel
theorem dX11_total_5 : decode cX11_total 5 = .ok (.invokevirtual 135, 3) := by decide +kernel
theorem dX11_total_8 : decode cX11_total 8 = .ok (.astore 4, 2) := by decide +kernel
theorem dX11_total_10 : decode cX11_total 10 = .ok (.aload_n 0, 1) := by decide +kernel
theorem dX11_total_11 : decode cX11_total 11 = .ok (.getfield 22, 3) := by decide +kernel
theorem dX11_total_14 : decode cX11_total 14 = .ok (.iload_n 2, 1) := by decide +kernel
theorem dX11_total_15 : decode cX11_total 15 = .ok (.invokevirtual 135, 3) := by decide +kernel
theorem dX11_total_18 : decode cX11_total 18 = .ok (.astore 5, 2) := by decide +kernel
theorem dX11_total_20 : decode cX11_total 20 = .ok (.aload 4, 2) := by decide +kernel
theorem dX11_total_22 : decode cX11_total 22 = .ok (.ifnull 32, 3) := by decide +kernel
theorem dX11_total_25 : decode cX11_total 25 = .ok (.aload 5, 2) := by decide +kernel
theorem dX11_total_27 : decode cX11_total 27 = .ok (.ifnull 27, 3) := by decide +kernel
theorem dX11_total_30 : decode cX11_total 30 = .ok (.aload_n 0, 1) := by decide +kernel
theorem dX11_total_31 : decode cX11_total 31 = .ok (.getfield 55, 3) := by decide +kernel
theorem dX11_total_34 : decode cX11_total 34 = .ok (.aload 4, 2) := by decide +kernel
theorem dX11_total_36 : decode cX11_total 36 = .ok (.aload 5, 2) := by decide +kernel
theorem dX11_total_38 : decode cX11_total 38 = .ok (.aload_n 0, 1) := by decide +kernel
theorem dX11_total_39 : decode cX11_total 39 = .ok (.getfield 22, 3) := by decide +kernel
theorem dX11_total_42 : decode cX11_total 42 = .ok (.getfield 123, 3) := by decide +kernel
theorem dX11_total_45 : decode cX11_total 45 = .ok (.invokevirtual 183, 3) := by decide +kernel
theorem dX11_total_48 : decode cX11_total 48 = .ok (.invokevirtual 148, 3) := by decide +kernel
theorem dX11_total_51 : decode cX11_total 51 = .ok (.ifCond .le 5, 3) := by decide +kernel
theorem dX11_total_54 : decode cX11_total 54 = .ok (.iconst (-1), 1) := by decide +kernel
theorem dX11_total_55 : decode cX11_total 55 = .ok (.ireturn, 1) := by decide +kernel
theorem dX11_total_56 : decode cX11_total 56 = .ok (.aload 4, 2) := by decide +kernel
theorem dX11_total_58 : decode cX11_total 58 = .ok (.invokevirtual 148, 3) := by decide +kernel
theorem dX11_total_61 : decode cX11_total 61 = .ok (.aload 5, 2) := by decide +kernel
theorem dX11_total_63 : decode cX11_total 63 = .ok (.invokevirtual 148, 3) := by decide +kernel
theorem dX11_total_66 : decode cX11_total 66 = .ok (.imul, 1) := by decide +kernel
theorem dX11_total_67 : decode cX11_total 67 = .ok (.istore 6, 2) := by decide +kernel
theorem dX11_total_69 : decode cX11_total 69 = .ok (.aload_n 0, 1) := by decide +kernel
theorem dX11_total_70 : decode cX11_total 70 = .ok (.getfield 22, 3) := by decide +kernel
theorem dX11_total_73 : decode cX11_total 73 = .ok (.getfield 123, 3) := by decide +kernel
theorem dX11_total_76 : decode cX11_total 76 = .ok (.aload_n 0, 1) := by decide +kernel
theorem dX11_total_77 : decode cX11_total 77 = .ok (.getfield 22, 3) := by decide +kernel
theorem dX11_total_80 : decode cX11_total 80 = .ok (.getfield 123, 3) := by decide +kernel
theorem dX11_total_83 : decode cX11_total 83 = .ok (.imul, 1) := by decide +kernel
theorem dX11_total_84 : decode cX11_total 84 = .ok (.istore 7, 2) := by decide +kernel
theorem dX11_total_86 : decode cX11_total 86 = .ok (.iload_n 3, 1) := by decide +kernel
theorem dX11_total_87 : decode cX11_total 87 = .ok (.tableswitch 110 0 4 #[33, 36, 55, 77, 89], 33) := by decide +kernel
theorem dX11_total_120 : decode cX11_total 120 = .ok (.iload 6, 2) := by decide +kernel
theorem dX11_total_122 : decode cX11_total 122 = .ok (.ireturn, 1) := by decide +kernel
theorem dX11_total_123 : decode cX11_total 123 = .ok (.aload_n 0, 1) := by decide +kernel
theorem dX11_total_124 : decode cX11_total 124 = .ok (.getfield 69, 3) := by decide +kernel
theorem dX11_total_127 : decode cX11_total 127 = .ok (.aload 4, 2) := by decide +kernel
theorem dX11_total_129 : decode cX11_total 129 = .ok (.aload 5, 2) := by decide +kernel
theorem dX11_total_131 : decode cX11_total 131 = .ok (.aload_n 0, 1) := by decide +kernel
theorem dX11_total_132 : decode cX11_total 132 = .ok (.getfield 22, 3) := by decide +kernel
theorem dX11_total_135 : decode cX11_total 135 = .ok (.getfield 123, 3) := by decide +kernel
theorem dX11_total_138 : decode cX11_total 138 = .ok (.invokevirtual 220, 3) := by decide +kernel
theorem dX11_total_141 : decode cX11_total 141 = .ok (.ireturn, 1) := by decide +kernel
theorem dX11_total_142 : decode cX11_total 142 = .ok (.iload 6, 2) := by decide +kernel
theorem dX11_total_144 : decode cX11_total 144 = .ok (.aload_n 0, 1) := by decide +kernel
theorem dX11_total_145 : decode cX11_total 145 = .ok (.getfield 69, 3) := by decide +kernel
theorem dX11_total_148 : decode cX11_total 148 = .ok (.aload 4, 2) := by decide +kernel
theorem dX11_total_150 : decode cX11_total 150 = .ok (.aload 5, 2) := by decide +kernel
theorem dX11_total_152 : decode cX11_total 152 = .ok (.aload_n 0, 1) := by decide +kernel
theorem dX11_total_153 : decode cX11_total 153 = .ok (.getfield 22, 3) := by decide +kernel
theorem dX11_total_156 : decode cX11_total 156 = .ok (.getfield 123, 3) := by decide +kernel
theorem dX11_total_159 : decode cX11_total 159 = .ok (.invokevirtual 220, 3) := by decide +kernel
theorem dX11_total_162 : decode cX11_total 162 = .ok (.isub, 1) := by decide +kernel
theorem dX11_total_163 : decode cX11_total 163 = .ok (.ireturn, 1) := by decide +kernel
theorem dX11_total_164 : decode cX11_total 164 = .ok (.aload_n 0, 1) := by decide +kernel
theorem dX11_total_165 : decode cX11_total 165 = .ok (.aload 4, 2) := by decide +kernel
theorem dX11_total_167 : decode cX11_total 167 = .ok (.aload 5, 2) := by decide +kernel
theorem dX11_total_169 : decode cX11_total 169 = .ok (.iconst 0, 1) := by decide +kernel
theorem dX11_total_170 : decode cX11_total 170 = .ok (.iload 7, 2) := by decide +kernel
theorem dX11_total_172 : decode cX11_total 172 = .ok (.invokevirtual 209, 3) := by decide +kernel
theorem dX11_total_175 : decode cX11_total 175 = .ok (.ireturn, 1) := by decide +kernel
theorem dX11_total_176 : decode cX11_total 176 = .ok (.aload_n 0, 1) := by decide +kernel
theorem dX11_total_177 : decode cX11_total 177 = .ok (.aload 4, 2) := by decide +kernel
theorem dX11_total_179 : decode cX11_total 179 = .ok (.aload 5, 2) := by decide +kernel
theorem dX11_total_181 : decode cX11_total 181 = .ok (.iload 7, 2) := by decide +kernel
theorem dX11_total_183 : decode cX11_total 183 = .ok (.aload_n 0, 1) := by decide +kernel
theorem dX11_total_184 : decode cX11_total 184 = .ok (.getfield 22, 3) := by decide +kernel
theorem dX11_total_187 : decode cX11_total 187 = .ok (.getfield 123, 3) := by decide +kernel
theorem dX11_total_190 : decode cX11_total 190 = .ok (.invokestatic 126, 3) := by decide +kernel
theorem dX11_total_193 : decode cX11_total 193 = .ok (.invokevirtual 209, 3) := by decide +kernel
theorem dX11_total_196 : decode cX11_total 196 = .ok (.ireturn, 1) := by decide +kernel
theorem dX11_total_197 : decode cX11_total 197 = .ok (.iconst (-1), 1) := by decide +kernel
theorem dX11_total_198 : decode cX11_total 198 = .ok (.ireturn, 1) := by decide +kernel
theorem dX11_knot_0 : decode cX11_knot 0 = .ok (.iload_n 2, 1) := by decide +kernel
theorem dX11_knot_1 : decode cX11_knot 1 = .ok (.ifCond .lt 22, 3) := by decide +kernel
theorem dX11_knot_4 : decode cX11_knot 4 = .ok (.iload_n 2, 1) := by decide +kernel
theorem dX11_knot_5 : decode cX11_knot 5 = .ok (.iconst 1, 1) := by decide +kernel
theorem dX11_knot_6 : decode cX11_knot 6 = .ok (.if_icmp .gt 17, 3) := by decide +kernel
theorem dX11_knot_9 : decode cX11_knot 9 = .ok (.iload_n 1, 1) := by decide +kernel
theorem dX11_knot_10 : decode cX11_knot 10 = .ok (.aload_n 0, 1) := by decide +kernel
theorem dX11_knot_11 : decode cX11_knot 11 = .ok (.getfield 22, 3) := by decide +kernel
theorem dX11_knot_14 : decode cX11_knot 14 = .ok (.getfield 123, 3) := by decide +kernel
theorem dX11_knot_17 : decode cX11_knot 17 = .ok (.invokestatic 186, 3) := by decide +kernel
theorem dX11_knot_20 : decode cX11_knot 20 = .ok (.ifCond .ne 5, 3) := by decide +kernel
theorem dX11_knot_23 : decode cX11_knot 23 = .ok (.iconst (-1), 1) := by decide +kernel
theorem dX11_knot_24 : decode cX11_knot 24 = .ok (.ireturn, 1) := by decide +kernel
theorem dX11_knot_25 : decode cX11_knot 25 = .ok (.iload_n 2, 1) := by decide +kernel
theorem dX11_knot_26 : decode cX11_knot 26 = .ok (.ifCond .ne 11, 3) := by decide +kernel
theorem dX11_knot_29 : decode cX11_knot 29 = .ok (.aload_n 0, 1) := by decide +kernel
theorem dX11_knot_30 : decode cX11_knot 30 = .ok (.iload_n 1, 1) := by decide +kernel
theorem dX11_knot_31 : decode cX11_knot 31 = .ok (.invokevirtual 223, 3) := by decide +kernel
theorem dX11_knot_34 : decode cX11_knot 34 = .ok (.goto 8, 3) := by decide +kernel
theorem dX11_knot_37 : decode cX11_knot 37 = .ok (.aload_n 0, 1) := by decide +kernel
theorem dX11_knot_38 : decode cX11_knot 38 = .ok (.iload_n 1, 1) := by decide +kernel
theorem dX11_knot_39 : decode cX11_knot 39 = .ok (.invokevirtual 226, 3) := by decide +kernel
theorem dX11_knot_42 : decode cX11_knot 42 = .ok (.ireturn, 1) := by decide +kernel
theorem dX11_most_0 : decode cX11_most 0 = .ok (.aload_n 0, 1) := by decide +kernel
theorem dX11_most_1 : decode cX11_most 1 = .ok (.getfield 22, 3) := by decide +kernel
theorem dX11_most_4 : decode cX11_most 4 = .ok (.iload_n 1, 1) := by decide +kernel
theorem dX11_most_5 : decode cX11_most 5 = .ok (.invokevirtual 135, 3) := by decide +kernel
theorem dX11_most_8 : decode cX11_most 8 = .ok (.astore 4, 2) := by decide +kernel
theorem dX11_most_10 : decode cX11_most 10 = .ok (.aload_n 0, 1) := by decide +kernel
theorem dX11_most_11 : decode cX11_most 11 = .ok (.getfield 22, 3) := by decide +kernel
theorem dX11_most_14 : decode cX11_most 14 = .ok (.iload_n 2, 1) := by decide +kernel
theorem dX11_most_15 : decode cX11_most 15 = .ok (.invokevirtual 135, 3) := by decide +kernel
theorem dX11_most_18 : decode cX11_most 18 = .ok (.astore 5, 2) := by decide +kernel
theorem dX11_most_20 : decode cX11_most 20 = .ok (.aload 4, 2) := by decide +kernel
theorem dX11_most_22 : decode cX11_most 22 = .ok (.ifnull 17, 3) := by decide +kernel
