theorem dX9_valueOf_57 : decode cX9_valueOf 57 = .ok (.istore 6, 2) := by decide +kernel
theorem dX9_valueOf_59 : decode cX9_valueOf 59 = .ok (.aload_n 0, 1) := by decide +kernel
theorem dX9_valueOf_60 : decode cX9_valueOf 60 = .ok (.getfield 18, 3) := by decide +kernel
theorem dX9_valueOf_63 : decode cX9_valueOf 63 = .ok (.iconst 1, 1) := by decide +kernel
theorem dX9_valueOf_64 : decode cX9_valueOf 64 = .ok (.if_icmp .eq 12, 3) := by decide +kernel
theorem dX9_valueOf_67 : decode cX9_valueOf 67 = .ok (.iload 5, 2) := by decide +kernel
theorem dX9_valueOf_69 : decode cX9_valueOf 69 = .ok (.iload 7, 2) := by decide +kernel
theorem dX9_valueOf_71 : decode cX9_valueOf 71 = .ok (.iadd, 1) := by decide +kernel
theorem dX9_valueOf_72 : decode cX9_valueOf 72 = .ok (.iload_n 3, 1) := by decide +kernel
theorem dX9_valueOf_73 : decode cX9_valueOf 73 = .ok (.if_icmp .ne 20, 3) := by decide +kernel
theorem dX9_valueOf_76 : decode cX9_valueOf 76 = .ok (.iload 6, 2) := by decide +kernel
theorem dX9_valueOf_78 : decode cX9_valueOf 78 = .ok (.aload_n 1, 1) := by decide +kernel
theorem dX9_valueOf_79 : decode cX9_valueOf 79 = .ok (.getfield 35, 3) := by decide +kernel
theorem dX9_valueOf_82 : decode cX9_valueOf 82 = .ok (.iload 5, 2) := by decide +kernel
theorem dX9_valueOf_84 : decode cX9_valueOf 84 = .ok (.iconst 5, 1) := by decide +kernel
theorem dX9_valueOf_85 : decode cX9_valueOf 85 = .ok (.imul, 1) := by decide +kernel
theorem dX9_valueOf_86 : decode cX9_valueOf 86 = .ok (.iload 7, 2) := by decide +kernel
theorem dX9_valueOf_88 : decode cX9_valueOf 88 = .ok (.iadd, 1) := by decide +kernel
theorem dX9_valueOf_89 : decode cX9_valueOf 89 = .ok (.iaload, 1) := by decide +kernel
theorem dX9_valueOf_90 : decode cX9_valueOf 90 = .ok (.iadd, 1) := by decide +kernel
theorem dX9_valueOf_91 : decode cX9_valueOf 91 = .ok (.istore 6, 2) := by decide +kernel
theorem dX9_valueOf_93 : decode cX9_valueOf 93 = .ok (.iinc 7 (-1), 3) := by decide +kernel
theorem dX9_valueOf_96 : decode cX9_valueOf 96 = .ok (.goto (-53), 3) := by decide +kernel
theorem dX9_valueOf_99 : decode cX9_valueOf 99 = .ok (.iload 4, 2) := by decide +kernel
theorem dX9_valueOf_101 : decode cX9_valueOf 101 = .ok (.aload_n 0, 1) := by decide +kernel
theorem dX9_valueOf_102 : decode cX9_valueOf 102 = .ok (.getfield 9, 3) := by decide +kernel
theorem dX9_valueOf_105 : decode cX9_valueOf 105 = .ok (.imul, 1) := by decide +kernel
theorem dX9_valueOf_106 : decode cX9_valueOf 106 = .ok (.iload 6, 2) := by decide +kernel
theorem dX9_valueOf_108 : decode cX9_valueOf 108 = .ok (.iadd, 1) := by decide +kernel
theorem dX9_valueOf_109 : decode cX9_valueOf 109 = .ok (.iload_n 2, 1) := by decide +kernel
theorem dX9_valueOf_110 : decode cX9_valueOf 110 = .ok (.irem, 1) := by decide +kernel
theorem dX9_valueOf_111 : decode cX9_valueOf 111 = .ok (.istore 4, 2) := by decide +kernel
theorem dX9_valueOf_113 : decode cX9_valueOf 113 = .ok (.iinc 5 (-1), 3) := by decide +kernel
theorem dX9_valueOf_116 : decode cX9_valueOf 116 = .ok (.goto (-87), 3) := by decide +kernel
theorem dX9_valueOf_119 : decode cX9_valueOf 119 = .ok (.iload 4, 2) := by decide +kernel
theorem dX9_valueOf_121 : decode cX9_valueOf 121 = .ok (.ireturn, 1) := by decide +kernel
theorem dX10_init_0 : decode cX10_init 0 = .ok (.aload_n 0, 1) := by decide +kernel
theorem dX10_init_1 : decode cX10_init 1 = .ok (.invokespecial 3, 3) := by decide +kernel
theorem dX10_init_4 : decode cX10_init 4 = .ok (.aload_n 0, 1) := by decide +kernel
theorem dX10_init_5 : decode cX10_init 5 = .ok (.new 9, 3) := by decide +kernel
theorem dX10_init_8 : decode cX10_init 8 = .ok (.dup, 1) := by decide +kernel
theorem dX10_init_9 : decode cX10_init 9 = .ok (.invokespecial 11, 3) := by decide +kernel
theorem dX10_init_12 : decode cX10_init 12 = .ok (.putfield 12, 3) := by decide +kernel
theorem dX10_init_15 : decode cX10_init 15 = .ok (.aload_n 0, 1) := by decide +kernel
theorem dX10_init_16 : decode cX10_init 16 = .ok (.iconst 5, 1) := by decide +kernel
theorem dX10_init_17 : decode cX10_init 17 = .ok (.newarray .int, 2) := by decide +kernel
theorem dX10_init_19 : decode cX10_init 19 = .ok (.putfield 18, 3) := by decide +kernel
theorem dX10_init_22 : decode cX10_init 22 = .ok (.aload_n 0, 1) := by decide +kernel
theorem dX10_init_23 : decode cX10_init 23 = .ok (.bipush 7, 2) := by decide +kernel
theorem dX10_init_25 : decode cX10_init 25 = .ok (.putfield 22, 3) := by decide +kernel
theorem dX10_init_28 : decode cX10_init 28 = .ok (.return_, 1) := by decide +kernel
theorem dX10_look_0 : decode cX10_look 0 = .ok (.aload_n 0, 1) := by decide +kernel
theorem dX10_look_1 : decode cX10_look 1 = .ok (.iload_n 3, 1) := by decide +kernel
theorem dX10_look_2 : decode cX10_look 2 = .ok (.putfield 22, 3) := by decide +kernel
theorem dX10_look_5 : decode cX10_look 5 = .ok (.aload_n 0, 1) := by decide +kernel
theorem dX10_look_6 : decode cX10_look 6 = .ok (.getfield 12, 3) := by decide +kernel
theorem dX10_look_9 : decode cX10_look 9 = .ok (.iconst 0, 1) := by decide +kernel
theorem dX10_look_10 : decode cX10_look 10 = .ok (.invokevirtual 26, 3) := by decide +kernel
theorem dX10_look_13 : decode cX10_look 13 = .ok (.aload_n 1, 1) := by decide +kernel
theorem dX10_look_14 : decode cX10_look 14 = .ok (.invokevirtual 30, 3) := by decide +kernel
theorem dX10_look_17 : decode cX10_look 17 = .ok (.istore 4, 2) := by decide +kernel
theorem dX10_look_19 : decode cX10_look 19 = .ok (.iconst 0, 1) := by decide +kernel
theorem dX10_look_20 : decode cX10_look 20 = .ok (.istore 5, 2) := by decide +kernel
theorem dX10_look_22 : decode cX10_look 22 = .ok (.iload 5, 2) := by decide +kernel
theorem dX10_look_24 : decode cX10_look 24 = .ok (.iconst 4, 1) := by decide +kernel
theorem dX10_look_25 : decode cX10_look 25 = .ok (.if_icmp .gt 80, 3) := by decide +kernel
theorem dX10_look_28 : decode cX10_look 28 = .ok (.iconst 0, 1) := by decide +kernel
theorem dX10_look_29 : decode cX10_look 29 = .ok (.istore 6, 2) := by decide +kernel
theorem dX10_look_31 : decode cX10_look 31 = .ok (.iload 6, 2) := by decide +kernel
theorem dX10_look_33 : decode cX10_look 33 = .ok (.iconst 4, 1) := by decide +kernel
theorem dX10_look_34 : decode cX10_look 34 = .ok (.iload 5, 2) := by decide +kernel
theorem dX10_look_36 : decode cX10_look 36 = .ok (.isub, 1) := by decide +kernel
theorem dX10_look_37 : decode cX10_look 37 = .ok (.if_icmp .gt 62, 3) := by decide +kernel
theorem dX10_look_40 : decode cX10_look 40 = .ok (.aload_n 1, 1) := by decide +kernel
theorem dX10_look_41 : decode cX10_look 41 = .ok (.iload 5, 2) := by decide +kernel
theorem dX10_look_43 : decode cX10_look 43 = .ok (.iload 6, 2) := by decide +kernel
theorem dX10_look_45 : decode cX10_look 45 = .ok (.invokevirtual 34, 3) := by decide +kernel
theorem dX10_look_48 : decode cX10_look 48 = .ok (.istore 7, 2) := by decide +kernel
theorem dX10_look_50 : decode cX10_look 50 = .ok (.iload 7, 2) := by decide +kernel
theorem dX10_look_52 : decode cX10_look 52 = .ok (.ifCond .ne 6, 3) := by decide +kernel
theorem dX10_look_55 : decode cX10_look 55 = .ok (.goto 38, 3) := by decide +kernel
theorem dX10_look_58 : decode cX10_look 58 = .ok (.aload_n 2, 1) := by decide +kernel
theorem dX10_look_59 : decode cX10_look 59 = .ok (.getfield 38, 3) := by decide +kernel
theorem dX10_look_62 : decode cX10_look 62 = .ok (.iconst 1, 1) := by decide +kernel
theorem dX10_look_63 : decode cX10_look 63 = .ok (.if_icmp .ne 17, 3) := by decide +kernel
theorem dX10_look_66 : decode cX10_look 66 = .ok (.aload_n 0, 1) := by decide +kernel
theorem dX10_look_67 : decode cX10_look 67 = .ok (.iload 7, 2) := by decide +kernel
theorem dX10_look_69 : decode cX10_look 69 = .ok (.iload 5, 2) := by decide +kernel
theorem dX10_look_71 : decode cX10_look 71 = .ok (.iload 6, 2) := by decide +kernel
theorem dX10_look_73 : decode cX10_look 73 = .ok (.aload_n 2, 1) := by decide +kernel
theorem dX10_look_74 : decode cX10_look 74 = .ok (.invokevirtual 43, 3) := by decide +kernel
theorem dX10_look_77 : decode cX10_look 77 = .ok (.goto 16, 3) := by decide +kernel
theorem dX10_look_80 : decode cX10_look 80 = .ok (.aload_n 0, 1) := by decide +kernel
theorem dX10_look_81 : decode cX10_look 81 = .ok (.iload 7, 2) := by decide +kernel
theorem dX10_look_83 : decode cX10_look 83 = .ok (.iload 5, 2) := by decide +kernel
theorem dX10_look_85 : decode cX10_look 85 = .ok (.iload 6, 2) := by decide +kernel
theorem dX10_look_87 : decode cX10_look 87 = .ok (.iload 4, 2) := by decide +kernel
theorem dX10_look_89 : decode cX10_look 89 = .ok (.aload_n 2, 1) := by decide +kernel
theorem dX10_look_90 : decode cX10_look 90 = .ok (.invokevirtual 47, 3) := by decide +kernel
theorem dX10_look_93 : decode cX10_look 93 = .ok (.iinc 6 1, 3) := by decide +kernel
theorem dX10_look_96 : decode cX10_look 96 = .ok (.goto (-65), 3) := by decide +kernel
theorem dX10_look_99 : decode cX10_look 99 = .ok (.iinc 5 1, 3) := by decide +kernel
theorem dX10_look_102 : decode cX10_look 102 = .ok (.goto (-80), 3) := by decide +kernel
theorem dX10_look_105 : decode cX10_look 105 = .ok (.return_, 1) := by decide +kernel
theorem dX10_addNear_0 : decode cX10_addNear 0 = .ok (.iconst 0, 1) := by decide +kernel
theorem dX10_addNear_1 : decode cX10_addNear 1 = .ok (.istore 5, 2) := by decide +kernel
theorem dX10_addNear_3 : decode cX10_addNear 3 = .ok (.iload 5, 2) := by decide +kernel
theorem dX10_addNear_5 : decode cX10_addNear 5 = .ok (.iload_n 2, 1) := by decide +kernel
theorem dX10_addNear_6 : decode cX10_addNear 6 = .ok (.if_icmp .gt 77, 3) := by decide +kernel
theorem dX10_addNear_9 : decode cX10_addNear 9 = .ok (.iload_n 1, 1) := by decide +kernel
theorem dX10_addNear_10 : decode cX10_addNear 10 = .ok (.aload_n 0, 1) := by decide +kernel
theorem dX10_addNear_11 : decode cX10_addNear 11 = .ok (.aload 4, 2) := by decide +kernel
theorem dX10_addNear_13 : decode cX10_addNear 13 = .ok (.getfield 51, 3) := by decide +kernel
theorem dX10_addNear_16 : decode cX10_addNear 16 = .ok (.iload_n 2, 1) := by decide +kernel
theorem dX10_addNear_17 : decode cX10_addNear 17 = .ok (.iload 5, 2) := by decide +kernel
theorem dX10_addNear_19 : decode cX10_addNear 19 = .ok (.invokevirtual 54, 3) := by decide +kernel
theorem dX10_addNear_22 : decode cX10_addNear 22 = .ok (.imul, 1) := by decide +kernel
theorem dX10_addNear_23 : decode cX10_addNear 23 = .ok (.aload_n 0, 1) := by decide +kernel
theorem dX10_addNear_24 : decode cX10_addNear 24 = .ok (.getfield 22, 3) := by decide +kernel
theorem dX10_addNear_27 : decode cX10_addNear 27 = .ok (.invokestatic 58, 3) := by decide +kernel
theorem dX10_addNear_30 : decode cX10_addNear 30 = .ok (.istore 6, 2) := by decide +kernel
theorem dX10_addNear_32 : decode cX10_addNear 32 = .ok (.iconst 0, 1) := by decide +kernel
theorem dX10_addNear_33 : decode cX10_addNear 33 = .ok (.istore 7, 2) := by decide +kernel
theorem dX10_addNear_35 : decode cX10_addNear 35 = .ok (.iload 7, 2) := by decide +kernel
theorem dX10_addNear_37 : decode cX10_addNear 37 = .ok (.iload_n 3, 1) := by decide +kernel
theorem dX10_addNear_38 : decode cX10_addNear 38 = .ok (.if_icmp .gt 39, 3) := by decide +kernel
theorem dX10_addNear_41 : decode cX10_addNear 41 = .ok (.aload_n 0, 1) := by decide +kernel
theorem dX10_addNear_42 : decode cX10_addNear 42 = .ok (.getfield 12, 3) := by decide +kernel
theorem dX10_addNear_45 : decode cX10_addNear 45 = .ok (.iload 5, 2) := by decide +kernel
theorem dX10_addNear_47 : decode cX10_addNear 47 = .ok (.iload 7, 2) := by decide +kernel
theorem dX10_addNear_49 : decode cX10_addNear 49 = .ok (.iload 6, 2) := by decide +kernel
theorem dX10_addNear_51 : decode cX10_addNear 51 = .ok (.aload_n 0, 1) := by decide +kernel
theorem dX10_addNear_52 : decode cX10_addNear 52 = .ok (.aload 4, 2) := by decide +kernel
theorem dX10_addNear_54 : decode cX10_addNear 54 = .ok (.getfield 61, 3) := by decide +kernel
theorem dX10_addNear_57 : decode cX10_addNear 57 = .ok (.iload_n 3, 1) := by decide +kernel
theorem dX10_addNear_58 : decode cX10_addNear 58 = .ok (.iload 7, 2) := by decide +kernel
theorem dX10_addNear_60 : decode cX10_addNear 60 = .ok (.invokevirtual 54, 3) := by decide +kernel
theorem dX10_addNear_63 : decode cX10_addNear 63 = .ok (.imul, 1) := by decide +kernel
theorem dX10_addNear_64 : decode cX10_addNear 64 = .ok (.aload_n 0, 1) := by decide +kernel
theorem dX10_addNear_65 : decode cX10_addNear 65 = .ok (.getfield 22, 3) := by decide +kernel
theorem dX10_addNear_68 : decode cX10_addNear 68 = .ok (.invokevirtual 64, 3) := by decide +kernel
theorem dX10_addNear_71 : decode cX10_addNear 71 = .ok (.iinc 7 1, 3) := by decide +kernel
theorem dX10_addNear_74 : decode cX10_addNear 74 = .ok (.goto (-39), 3) := by decide +kernel
theorem dX10_addNear_77 : decode cX10_addNear 77 = .ok (.iinc 5 1, 3) := by decide +kernel
theorem dX10_addNear_80 : decode cX10_addNear 80 = .ok (.goto (-77), 3) := by decide +kernel
theorem dX10_addNear_83 : decode cX10_addNear 83 = .ok (.return_, 1) := by decide +kernel
theorem dX10_addFar_0 : decode cX10_addFar 0 = .ok (.aload 5, 2) := by decide +kernel
theorem dX10_addFar_2 : decode cX10_addFar 2 = .ok (.getfield 51, 3) := by decide +kernel
theorem dX10_addFar_5 : decode cX10_addFar 5 = .ok (.ifCond .ne 23, 3) := by decide +kernel
theorem dX10_addFar_8 : decode cX10_addFar 8 = .ok (.aload_n 0, 1) := by decide +kernel
theorem dX10_addFar_9 : decode cX10_addFar 9 = .ok (.getfield 12, 3) := by decide +kernel
theorem dX10_addFar_12 : decode cX10_addFar 12 = .ok (.iload_n 2, 1) := by decide +kernel
theorem dX10_addFar_13 : decode cX10_addFar 13 = .ok (.iload 4, 2) := by decide +kernel
theorem dX10_addFar_15 : decode cX10_addFar 15 = .ok (.iload_n 2, 1) := by decide +kernel
theorem dX10_addFar_16 : decode cX10_addFar 16 = .ok (.isub, 1) := by decide +kernel
theorem dX10_addFar_17 : decode cX10_addFar 17 = .ok (.iload_n 3, 1) := by decide +kernel
theorem dX10_addFar_18 : decode cX10_addFar 18 = .ok (.isub, 1) := by decide +kernel
theorem dX10_addFar_19 : decode cX10_addFar 19 = .ok (.iload_n 1, 1) := by decide +kernel
theorem dX10_addFar_20 : decode cX10_addFar 20 = .ok (.aload_n 0, 1) := by decide +kernel
theorem dX10_addFar_21 : decode cX10_addFar 21 = .ok (.getfield 22, 3) := by decide +kernel
theorem dX10_addFar_24 : decode cX10_addFar 24 = .ok (.invokevirtual 64, 3) := by decide +kernel
theorem dX10_addFar_27 : decode cX10_addFar 27 = .ok (.return_, 1) := by decide +kernel
theorem dX10_addFar_28 : decode cX10_addFar 28 = .ok (.iconst 0, 1) := by decide +kernel
theorem dX10_addFar_29 : decode cX10_addFar 29 = .ok (.istore 6, 2) := by decide +kernel
theorem dX10_addFar_31 : decode cX10_addFar 31 = .ok (.iload 6, 2) := by decide +kernel
theorem dX10_addFar_33 : decode cX10_addFar 33 = .ok (.iload_n 3, 1) := by decide +kernel
theorem dX10_addFar_34 : decode cX10_addFar 34 = .ok (.if_icmp .gt 42, 3) := by decide +kernel
theorem dX10_addFar_37 : decode cX10_addFar 37 = .ok (.aload_n 0, 1) := by decide +kernel
theorem dX10_addFar_38 : decode cX10_addFar 38 = .ok (.getfield 12, 3) := by decide +kernel
theorem dX10_addFar_41 : decode cX10_addFar 41 = .ok (.iload 6, 2) := by decide +kernel
theorem dX10_addFar_43 : decode cX10_addFar 43 = .ok (.iload 4, 2) := by decide +kernel
theorem dX10_addFar_45 : decode cX10_addFar 45 = .ok (.iload_n 2, 1) := by decide +kernel
theorem dX10_addFar_46 : decode cX10_addFar 46 = .ok (.isub, 1) := by decide +kernel
theorem dX10_addFar_47 : decode cX10_addFar 47 = .ok (.iload_n 3, 1) := by decide +kernel
theorem dX10_addFar_48 : decode cX10_addFar 48 = .ok (.isub, 1) := by decide +kernel
theorem dX10_addFar_49 : decode cX10_addFar 49 = .ok (.iload_n 1, 1) := by decide +kernel
theorem dX10_addFar_50 : decode cX10_addFar 50 = .ok (.aload_n 0, 1) := by decide +kernel
theorem dX10_addFar_51 : decode cX10_addFar 51 = .ok (.aload 5, 2) := by decide +kernel
theorem dX10_addFar_53 : decode cX10_addFar 53 = .ok (.getfield 61, 3) := by decide +kernel
theorem dX10_addFar_56 : decode cX10_addFar 56 = .ok (.iload_n 3, 1) := by decide +kernel
theorem dX10_addFar_57 : decode cX10_addFar 57 = .ok (.iload 6, 2) := by decide +kernel
theorem dX10_addFar_59 : decode cX10_addFar 59 = .ok (.invokevirtual 54, 3) := by decide +kernel
theorem dX10_addFar_62 : decode cX10_addFar 62 = .ok (.imul, 1) := by decide +kernel
theorem dX10_addFar_63 : decode cX10_addFar 63 = .ok (.aload_n 0, 1) := by decide +kernel
theorem dX10_addFar_64 : decode cX10_addFar 64 = .ok (.getfield 22, 3) := by decide +kernel
theorem dX10_addFar_67 : decode cX10_addFar 67 = .ok (.invokevirtual 64, 3) := by decide +kernel
theorem dX10_addFar_70 : decode cX10_addFar 70 = .ok (.iinc 6 1, 3) := by decide +kernel
theorem dX10_addFar_73 : decode cX10_addFar 73 = .ok (.goto (-42), 3) := by decide +kernel
theorem dX10_addFar_76 : decode cX10_addFar 76 = .ok (.return_, 1) := by decide +kernel
theorem dX10_shifted_0 : decode cX10_shifted 0 = .ok (.iload_n 2, 1) := by decide +kernel
theorem dX10_shifted_1 : decode cX10_shifted 1 = .ok (.iconst 0, 1) := by decide +kernel
theorem dX10_shifted_2 : decode cX10_shifted 2 = .ok (.invokestatic 68, 3) := by decide +kernel
theorem dX10_shifted_5 : decode cX10_shifted 5 = .ok (.ifCond .eq 11, 3) := by decide +kernel
theorem dX10_shifted_8 : decode cX10_shifted 8 = .ok (.iload_n 3, 1) := by decide +kernel
theorem dX10_shifted_9 : decode cX10_shifted 9 = .ok (.iconst 0, 1) := by decide +kernel
theorem dX10_shifted_10 : decode cX10_shifted 10 = .ok (.invokestatic 68, 3) := by decide +kernel
theorem dX10_shifted_13 : decode cX10_shifted 13 = .ok (.ifCond .ne 5, 3) := by decide +kernel
theorem dX10_shifted_16 : decode cX10_shifted 16 = .ok (.iconst 0, 1) := by decide +kernel
theorem dX10_shifted_17 : decode cX10_shifted 17 = .ok (.ireturn, 1) := by decide +kernel
theorem dX10_shifted_18 : decode cX10_shifted 18 = .ok (.getstatic 72, 3) := by decide +kernel
theorem dX10_shifted_21 : decode cX10_shifted 21 = .ok (.iload_n 2, 1) := by decide +kernel
theorem dX10_shifted_22 : decode cX10_shifted 22 = .ok (.iconst 5, 1) := by decide +kernel
theorem dX10_shifted_23 : decode cX10_shifted 23 = .ok (.imul, 1) := by decide +kernel
theorem dX10_shifted_24 : decode cX10_shifted 24 = .ok (.iload_n 3, 1) := by decide +kernel
theorem dX10_shifted_25 : decode cX10_shifted 25 = .ok (.iadd, 1) := by decide +kernel
theorem dX10_shifted_26 : decode cX10_shifted 26 = .ok (.iaload, 1) := by decide +kernel
theorem dX10_shifted_27 : decode cX10_shifted 27 = .ok (.iload_n 1, 1) := by decide +kernel
theorem dX10_shifted_28 : decode cX10_shifted 28 = .ok (.iload_n 2, 1) := by decide +kernel
theorem dX10_shifted_29 : decode cX10_shifted 29 = .ok (.iload_n 3, 1) := by decide +kernel
theorem dX10_shifted_30 : decode cX10_shifted 30 = .ok (.isub, 1) := by decide +kernel
theorem dX10_shifted_31 : decode cX10_shifted 31 = .ok (.aload_n 0, 1) := by decide +kernel
theorem dX10_shifted_32 : decode cX10_shifted 32 = .ok (.getfield 22, 3) := by decide +kernel
theorem dX10_shifted_35 : decode cX10_shifted 35 = .ok (.invokestatic 75, 3) := by decide +kernel
theorem dX10_shifted_38 : decode cX10_shifted 38 = .ok (.imul, 1) := by decide +kernel
theorem dX10_shifted_39 : decode cX10_shifted 39 = .ok (.aload_n 0, 1) := by decide +kernel
theorem dX10_shifted_40 : decode cX10_shifted 40 = .ok (.getfield 22, 3) := by decide +kernel
theorem dX10_shifted_43 : decode cX10_shifted 43 = .ok (.invokestatic 58, 3) := by decide +kernel
theorem dX10_shifted_46 : decode cX10_shifted 46 = .ok (.ireturn, 1) := by decide +kernel
theorem dX10_least_0 : decode cX10_least 0 = .ok (.iconst 0, 1) := by decide +kernel
theorem dX10_least_1 : decode cX10_least 1 = .ok (.istore_n 1, 1) := by decide +kernel
theorem dX10_least_2 : decode cX10_least 2 = .ok (.iload_n 1, 1) := by decide +kernel
theorem dX10_least_3 : decode cX10_least 3 = .ok (.iconst 4, 1) := by decide +kernel
theorem dX10_least_4 : decode cX10_least 4 = .ok (.if_icmp .gt 22, 3) := by decide +kernel
theorem dX10_least_7 : decode cX10_least 7 = .ok (.aload_n 0, 1) := by decide +kernel
theorem dX10_least_8 : decode cX10_least 8 = .ok (.getfield 12, 3) := by decide +kernel
theorem dX10_least_11 : decode cX10_least 11 = .ok (.iload_n 1, 1) := by decide +kernel
theorem dX10_least_12 : decode cX10_least 12 = .ok (.invokevirtual 78, 3) := by decide +kernel
theorem dX10_least_15 : decode cX10_least 15 = .ok (.ifCond .lt 5, 3) := by decide +kernel
theorem dX10_least_18 : decode cX10_least 18 = .ok (.iload_n 1, 1) := by decide +kernel
theorem dX10_least_19 : decode cX10_least 19 = .ok (.ireturn, 1) := by decide +kernel
theorem dX10_least_20 : decode cX10_least 20 = .ok (.iinc 1 1, 3) := by decide +kernel
theorem dX10_least_23 : decode cX10_least 23 = .ok (.goto (-21), 3) := by decide +kernel
theorem dX10_least_26 : decode cX10_least 26 = .ok (.iconst 4, 1) := by decide +kernel
theorem dX10_least_27 : decode cX10_least 27 = .ok (.ireturn, 1) := by decide +kernel
theorem dX11_init_0 : decode cX11_init 0 = .ok (.aload_n 0, 1) := by decide +kernel
theorem dX11_init_1 : decode cX11_init 1 = .ok (.invokespecial 1, 3) := by decide +kernel
theorem dX11_init_4 : decode cX11_init 4 = .ok (.new 7, 3) := by decide +kernel
theorem dX11_init_7 : decode cX11_init 7 = .ok (.dup, 1) := by decide +kernel
theorem dX11_init_8 : decode cX11_init 8 = .ok (.invokespecial 9, 3) := by decide +kernel
theorem dX11_init_11 : decode cX11_init 11 = .ok (.astore_n 1, 1) := by decide +kernel
theorem dX11_init_12 : decode cX11_init 12 = .ok (.aload_n 0, 1) := by decide +kernel
theorem dX11_init_13 : decode cX11_init 13 = .ok (.new 10, 3) := by decide +kernel
theorem dX11_init_16 : decode cX11_init 16 = .ok (.dup, 1) := by decide +kernel
theorem dX11_init_17 : decode cX11_init 17 = .ok (.invokespecial 12, 3) := by decide +kernel
theorem dX11_init_20 : decode cX11_init 20 = .ok (.putfield 13, 3) := by decide +kernel
theorem dX11_init_23 : decode cX11_init 23 = .ok (.aload_n 0, 1) := by decide +kernel
theorem dX11_init_24 : decode cX11_init 24 = .ok (.new 19, 3) := by decide +kernel
theorem dX11_init_27 : decode cX11_init 27 = .ok (.dup, 1) := by decide +kernel
theorem dX11_init_28 : decode cX11_init 28 = .ok (.invokespecial 21, 3) := by decide +kernel
theorem dX11_init_31 : decode cX11_init 31 = .ok (.putfield 22, 3) := by decide +kernel
theorem dX11_init_34 : decode cX11_init 34 = .ok (.aload_n 0, 1) := by decide +kernel
theorem dX11_init_35 : decode cX11_init 35 = .ok (.new 26, 3) := by decide +kernel
theorem dX11_init_38 : decode cX11_init 38 = .ok (.dup, 1) := by decide +kernel
theorem dX11_init_39 : decode cX11_init 39 = .ok (.invokespecial 28, 3) := by decide +kernel
theorem dX11_init_42 : decode cX11_init 42 = .ok (.putfield 29, 3) := by decide +kernel
theorem dX11_init_45 : decode cX11_init 45 = .ok (.aload_n 0, 1) := by decide +kernel
theorem dX11_init_46 : decode cX11_init 46 = .ok (.new 33, 3) := by decide +kernel
theorem dX11_init_49 : decode cX11_init 49 = .ok (.dup, 1) := by decide +kernel
theorem dX11_init_50 : decode cX11_init 50 = .ok (.invokespecial 35, 3) := by decide +kernel
theorem dX11_init_53 : decode cX11_init 53 = .ok (.putfield 36, 3) := by decide +kernel
theorem dX11_init_56 : decode cX11_init 56 = .ok (.aload_n 0, 1) := by decide +kernel
theorem dX11_init_57 : decode cX11_init 57 = .ok (.new 40, 3) := by decide +kernel
theorem dX11_init_60 : decode cX11_init 60 = .ok (.dup, 1) := by decide +kernel
theorem dX11_init_61 : decode cX11_init 61 = .ok (.invokespecial 42, 3) := by decide +kernel
theorem dX11_init_64 : decode cX11_init 64 = .ok (.putfield 43, 3) := by decide +kernel
theorem dX11_init_67 : decode cX11_init 67 = .ok (.aload_n 0, 1) := by decide +kernel
theorem dX11_init_68 : decode cX11_init 68 = .ok (.new 40, 3) := by decide +kernel
theorem dX11_init_71 : decode cX11_init 71 = .ok (.dup, 1) := by decide +kernel
theorem dX11_init_72 : decode cX11_init 72 = .ok (.invokespecial 42, 3) := by decide +kernel
theorem dX11_init_75 : decode cX11_init 75 = .ok (.putfield 47, 3) := by decide +kernel
theorem dX11_init_78 : decode cX11_init 78 = .ok (.aload_n 0, 1) := by decide +kernel
theorem dX11_init_79 : decode cX11_init 79 = .ok (.new 50, 3) := by decide +kernel
theorem dX11_init_82 : decode cX11_init 82 = .ok (.dup, 1) := by decide +kernel
theorem dX11_init_83 : decode cX11_init 83 = .ok (.aload_n 1, 1) := by decide +kernel
theorem dX11_init_84 : decode cX11_init 84 = .ok (.invokespecial 52, 3) := by decide +kernel
theorem dX11_init_87 : decode cX11_init 87 = .ok (.putfield 55, 3) := by decide +kernel
theorem dX11_init_90 : decode cX11_init 90 = .ok (.aload_n 0, 1) := by decide +kernel
theorem dX11_init_91 : decode cX11_init 91 = .ok (.new 59, 3) := by decide +kernel
theorem dX11_init_94 : decode cX11_init 94 = .ok (.dup, 1) := by decide +kernel
theorem dX11_init_95 : decode cX11_init 95 = .ok (.invokespecial 61, 3) := by decide +kernel
theorem dX11_init_98 : decode cX11_init 98 = .ok (.putfield 62, 3) := by decide +kernel
theorem dX11_init_101 : decode cX11_init 101 = .ok (.aload_n 0, 1) := by decide +kernel
theorem dX11_init_102 : decode cX11_init 102 = .ok (.new 66, 3) := by decide +kernel
theorem dX11_init_105 : decode cX11_init 105 = .ok (.dup, 1) := by decide +kernel
theorem dX11_init_106 : decode cX11_init 106 = .ok (.aload_n 1, 1) := by decide +kernel
theorem dX11_init_107 : decode cX11_init 107 = .ok (.invokespecial 68, 3) := by decide +kernel
theorem dX11_init_110 : decode cX11_init 110 = .ok (.putfield 69, 3) := by decide +kernel
theorem dX11_init_113 : decode cX11_init 113 = .ok (.aload_n 0, 1) := by decide +kernel
theorem dX11_init_114 : decode cX11_init 114 = .ok (.new 73, 3) := by decide +kernel
theorem dX11_init_117 : decode cX11_init 117 = .ok (.dup, 1) := by decide +kernel
theorem dX11_init_118 : decode cX11_init 118 = .ok (.invokespecial 75, 3) := by decide +kernel
theorem dX11_init_121 : decode cX11_init 121 = .ok (.putfield 76, 3) := by decide +kernel
theorem dX11_init_124 : decode cX11_init 124 = .ok (.aload_n 0, 1) := by decide +kernel
theorem dX11_init_125 : decode cX11_init 125 = .ok (.iconst 5, 1) := by decide +kernel
theorem dX11_init_126 : decode cX11_init 126 = .ok (.newarray .int, 2) := by decide +kernel
theorem dX11_init_128 : decode cX11_init 128 = .ok (.putfield 80, 3) := by decide +kernel
theorem dX11_init_131 : decode cX11_init 131 = .ok (.aload_n 0, 1) := by decide +kernel
theorem dX11_init_132 : decode cX11_init 132 = .ok (.iconst 0, 1) := by decide +kernel
theorem dX11_init_133 : decode cX11_init 133 = .ok (.putfield 84, 3) := by decide +kernel
theorem dX11_init_136 : decode cX11_init 136 = .ok (.aload_n 0, 1) := by decide +kernel
theorem dX11_init_137 : decode cX11_init 137 = .ok (.iconst (-1), 1) := by decide +kernel
theorem dX11_init_138 : decode cX11_init 138 = .ok (.putfield 88, 3) := by decide +kernel
theorem dX11_init_141 : decode cX11_init 141 = .ok (.return_, 1) := by decide +kernel
theorem dX11_feed_0 : decode cX11_feed 0 = .ok (.aload_n 0, 1) := by decide +kernel
theorem dX11_feed_1 : decode cX11_feed 1 = .ok (.getfield 13, 3) := by decide +kernel
theorem dX11_feed_4 : decode cX11_feed 4 = .ok (.invokevirtual 91, 3) := by decide +kernel
theorem dX11_feed_7 : decode cX11_feed 7 = .ok (.ifCond .ne 10, 3) := by decide +kernel
theorem dX11_feed_10 : decode cX11_feed 10 = .ok (.aload_n 0, 1) := by decide +kernel
theorem dX11_feed_11 : decode cX11_feed 11 = .ok (.iconst 0, 1) := by decide +kernel
theorem dX11_feed_12 : decode cX11_feed 12 = .ok (.invokevirtual 95, 3) := by decide +kernel
theorem dX11_feed_15 : decode cX11_feed 15 = .ok (.iconst (-1), 1) := by decide +kernel
theorem dX11_feed_16 : decode cX11_feed 16 = .ok (.ireturn, 1) := by decide +kernel
theorem dX11_feed_17 : decode cX11_feed 17 = .ok (.aload_n 0, 1) := by decide +kernel
theorem dX11_feed_18 : decode cX11_feed 18 = .ok (.getfield 13, 3) := by decide +kernel
theorem dX11_feed_21 : decode cX11_feed 21 = .ok (.iload_n 1, 1) := by decide +kernel
theorem dX11_feed_22 : decode cX11_feed 22 = .ok (.invokevirtual 99, 3) := by decide +kernel
theorem dX11_feed_25 : decode cX11_feed 25 = .ok (.aload_n 0, 1) := by decide +kernel
theorem dX11_feed_26 : decode cX11_feed 26 = .ok (.getfield 13, 3) := by decide +kernel
theorem dX11_feed_29 : decode cX11_feed 29 = .ok (.iload_n 2, 1) := by decide +kernel
theorem dX11_feed_30 : decode cX11_feed 30 = .ok (.invokevirtual 99, 3) := by decide +kernel
theorem dX11_feed_33 : decode cX11_feed 33 = .ok (.aload_n 0, 1) := by decide +kernel
theorem dX11_feed_34 : decode cX11_feed 34 = .ok (.getfield 13, 3) := by decide +kernel
theorem dX11_feed_37 : decode cX11_feed 37 = .ok (.iload_n 3, 1) := by decide +kernel
theorem dX11_feed_38 : decode cX11_feed 38 = .ok (.invokevirtual 99, 3) := by decide +kernel
theorem dX11_feed_41 : decode cX11_feed 41 = .ok (.aload_n 0, 1) := by decide +kernel
theorem dX11_feed_42 : decode cX11_feed 42 = .ok (.getfield 13, 3) := by decide +kernel
theorem dX11_feed_45 : decode cX11_feed 45 = .ok (.iload 4, 2) := by decide +kernel
theorem dX11_feed_47 : decode cX11_feed 47 = .ok (.invokevirtual 99, 3) := by decide +kernel
theorem dX11_feed_50 : decode cX11_feed 50 = .ok (.aload_n 0, 1) := by decide +kernel
theorem dX11_feed_51 : decode cX11_feed 51 = .ok (.getfield 13, 3) := by decide +kernel
theorem dX11_feed_54 : decode cX11_feed 54 = .ok (.iload 5, 2) := by decide +kernel
theorem dX11_feed_56 : decode cX11_feed 56 = .ok (.invokevirtual 99, 3) := by decide +kernel
theorem dX11_feed_59 : decode cX11_feed 59 = .ok (.aload_n 0, 1) := by decide +kernel
theorem dX11_feed_60 : decode cX11_feed 60 = .ok (.getfield 13, 3) := by decide +kernel
theorem dX11_feed_63 : decode cX11_feed 63 = .ok (.getfield 102, 3) := by decide +kernel
theorem dX11_feed_66 : decode cX11_feed 66 = .ok (.ireturn, 1) := by decide +kernel
theorem dX11_end_0 : decode cX11_end 0 = .ok (.iload_n 1, 1) := by decide +kernel
theorem dX11_end_1 : decode cX11_end 1 = .ok (.ifCond .lt 14, 3) := by decide +kernel
theorem dX11_end_4 : decode cX11_end 4 = .ok (.iload_n 1, 1) := by decide +kernel
theorem dX11_end_5 : decode cX11_end 5 = .ok (.aload_n 0, 1) := by decide +kernel
theorem dX11_end_6 : decode cX11_end 6 = .ok (.getfield 13, 3) := by decide +kernel
theorem dX11_end_9 : decode cX11_end 9 = .ok (.getfield 102, 3) := by decide +kernel
theorem dX11_end_12 : decode cX11_end 12 = .ok (.if_icmp .le 10, 3) := by decide +kernel
theorem dX11_end_15 : decode cX11_end 15 = .ok (.aload_n 0, 1) := by decide +kernel
theorem dX11_end_16 : decode cX11_end 16 = .ok (.iconst 0, 1) := by decide +kernel
theorem dX11_end_17 : decode cX11_end 17 = .ok (.invokevirtual 95, 3) := by decide +kernel
theorem dX11_end_20 : decode cX11_end 20 = .ok (.iconst 0, 1) := by decide +kernel
theorem dX11_end_21 : decode cX11_end 21 = .ok (.ireturn, 1) := by decide +kernel
theorem dX11_end_22 : decode cX11_end 22 = .ok (.aload_n 0, 1) := by decide +kernel
theorem dX11_end_23 : decode cX11_end 23 = .ok (.getfield 13, 3) := by decide +kernel
theorem dX11_end_26 : decode cX11_end 26 = .ok (.iload_n 1, 1) := by decide +kernel
theorem dX11_end_27 : decode cX11_end 27 = .ok (.putfield 102, 3) := by decide +kernel
theorem dX11_end_30 : decode cX11_end 30 = .ok (.iconst 1, 1) := by decide +kernel
theorem dX11_end_31 : decode cX11_end 31 = .ok (.ireturn, 1) := by decide +kernel
theorem dX11_curves_0 : decode cX11_curves 0 = .ok (.aload_n 0, 1) := by decide +kernel
theorem dX11_curves_1 : decode cX11_curves 1 = .ok (.getfield 13, 3) := by decide +kernel
theorem dX11_curves_4 : decode cX11_curves 4 = .ok (.invokevirtual 105, 3) := by decide +kernel
theorem dX11_curves_7 : decode cX11_curves 7 = .ok (.istore_n 1, 1) := by decide +kernel
theorem dX11_curves_8 : decode cX11_curves 8 = .ok (.aload_n 0, 1) := by decide +kernel
theorem dX11_curves_9 : decode cX11_curves 9 = .ok (.getfield 13, 3) := by decide +kernel
theorem dX11_curves_12 : decode cX11_curves 12 = .ok (.iconst 0, 1) := by decide +kernel
theorem dX11_curves_13 : decode cX11_curves 13 = .ok (.putfield 102, 3) := by decide +kernel
theorem dX11_curves_16 : decode cX11_curves 16 = .ok (.aload_n 0, 1) := by decide +kernel
theorem dX11_curves_17 : decode cX11_curves 17 = .ok (.aload_n 0, 1) := by decide +kernel
theorem dX11_curves_18 : decode cX11_curves 18 = .ok (.getfield 13, 3) := by decide +kernel
theorem dX11_curves_21 : decode cX11_curves 21 = .ok (.getfield 108, 3) := by decide +kernel
theorem dX11_curves_24 : decode cX11_curves 24 = .ok (.putfield 84, 3) := by decide +kernel
theorem dX11_curves_27 : decode cX11_curves 27 = .ok (.aload_n 0, 1) := by decide +kernel
theorem dX11_curves_28 : decode cX11_curves 28 = .ok (.aload_n 0, 1) := by decide +kernel
theorem dX11_curves_29 : decode cX11_curves 29 = .ok (.getfield 13, 3) := by decide +kernel
theorem dX11_curves_32 : decode cX11_curves 32 = .ok (.getfield 109, 3) := by decide +kernel
theorem dX11_curves_35 : decode cX11_curves 35 = .ok (.putfield 88, 3) := by decide +kernel
theorem dX11_curves_38 : decode cX11_curves 38 = .ok (.iload_n 1, 1) := by decide +kernel
theorem dX11_curves_39 : decode cX11_curves 39 = .ok (.ifCond .ne 10, 3) := by decide +kernel
theorem dX11_curves_42 : decode cX11_curves 42 = .ok (.aload_n 0, 1) := by decide +kernel
theorem dX11_curves_43 : decode cX11_curves 43 = .ok (.iconst 1, 1) := by decide +kernel
theorem dX11_curves_44 : decode cX11_curves 44 = .ok (.invokevirtual 95, 3) := by decide +kernel
theorem dX11_curves_47 : decode cX11_curves 47 = .ok (.iconst (-1), 1) := by decide +kernel
theorem dX11_curves_48 : decode cX11_curves 48 = .ok (.ireturn, 1) := by decide +kernel
theorem dX11_curves_49 : decode cX11_curves 49 = .ok (.aload_n 0, 1) := by decide +kernel
theorem dX11_curves_50 : decode cX11_curves 50 = .ok (.getfield 22, 3) := by decide +kernel
theorem dX11_curves_53 : decode cX11_curves 53 = .ok (.aload_n 0, 1) := by decide +kernel
theorem dX11_curves_54 : decode cX11_curves 54 = .ok (.getfield 13, 3) := by decide +kernel
theorem dX11_curves_57 : decode cX11_curves 57 = .ok (.getfield 110, 3) := by decide +kernel
theorem dX11_curves_60 : decode cX11_curves 60 = .ok (.invokevirtual 113, 3) := by decide +kernel
theorem dX11_curves_63 : decode cX11_curves 63 = .ok (.aload_n 0, 1) := by decide +kernel
theorem dX11_curves_64 : decode cX11_curves 64 = .ok (.getfield 29, 3) := by decide +kernel
theorem dX11_curves_67 : decode cX11_curves 67 = .ok (.invokevirtual 117, 3) := by decide +kernel
theorem dX11_curves_70 : decode cX11_curves 70 = .ok (.aload_n 0, 1) := by decide +kernel
theorem dX11_curves_71 : decode cX11_curves 71 = .ok (.getfield 22, 3) := by decide +kernel
theorem dX11_curves_74 : decode cX11_curves 74 = .ok (.getfield 120, 3) := by decide +kernel
theorem dX11_curves_77 : decode cX11_curves 77 = .ok (.ireturn, 1) := by decide +kernel
theorem dX11_has_0 : decode cX11_has 0 = .ok (.iload_n 1, 1) := by decide +kernel
theorem dX11_has_1 : decode cX11_has 1 = .ok (.tableswitch 66 0 3 #[31, 39, 47, 58], 31) := by decide +kernel
theorem dX11_has_32 : decode cX11_has 32 = .ok (.aload_n 0, 1) := by decide +kernel
theorem dX11_has_33 : decode cX11_has 33 = .ok (.getfield 22, 3) := by decide +kernel
theorem dX11_has_36 : decode cX11_has 36 = .ok (.getfield 123, 3) := by decide +kernel
theorem dX11_has_39 : decode cX11_has 39 = .ok (.ireturn, 1) := by decide +kernel
theorem dX11_has_40 : decode cX11_has 40 = .ok (.aload_n 0, 1) := by decide +kernel
theorem dX11_has_41 : decode cX11_has 41 = .ok (.getfield 22, 3) := by decide +kernel
theorem dX11_has_44 : decode cX11_has 44 = .ok (.getfield 120, 3) := by decide +kernel
theorem dX11_has_47 : decode cX11_has 47 = .ok (.ireturn, 1) := by decide +kernel
theorem dX11_has_48 : decode cX11_has 48 = .ok (.aload_n 0, 1) := by decide +kernel
theorem dX11_has_49 : decode cX11_has 49 = .ok (.getfield 22, 3) := by decide +kernel
theorem dX11_has_52 : decode cX11_has 52 = .ok (.getfield 123, 3) := by decide +kernel
theorem dX11_has_55 : decode cX11_has 55 = .ok (.invokestatic 126, 3) := by decide +kernel
theorem dX11_has_58 : decode cX11_has 58 = .ok (.ireturn, 1) := by decide +kernel
theorem dX11_has_59 : decode cX11_has 59 = .ok (.aload_n 0, 1) := by decide +kernel
theorem dX11_has_60 : decode cX11_has 60 = .ok (.getfield 29, 3) := by decide +kernel
theorem dX11_has_63 : decode cX11_has 63 = .ok (.getfield 130, 3) := by decide +kernel
theorem dX11_has_66 : decode cX11_has 66 = .ok (.ireturn, 1) := by decide +kernel
theorem dX11_has_67 : decode cX11_has 67 = .ok (.iconst (-1), 1) := by decide +kernel
theorem dX11_has_68 : decode cX11_has 68 = .ok (.ireturn, 1) := by decide +kernel
theorem dX11_degree_0 : decode cX11_degree 0 = .ok (.aload_n 0, 1) := by decide +kernel
theorem dX11_degree_1 : decode cX11_degree 1 = .ok (.getfield 22, 3) := by decide +kernel
theorem dX11_degree_4 : decode cX11_degree 4 = .ok (.iload_n 1, 1) := by decide +kernel
theorem dX11_degree_5 : decode cX11_degree 5 = .ok (.invokevirtual 135, 3) := by decide +kernel
theorem dX11_degree_8 : decode cX11_degree 8 = .ok (.astore_n 2, 1) := by decide +kernel
theorem dX11_degree_9 : decode cX11_degree 9 = .ok (.aload_n 2, 1) := by decide +kernel
theorem dX11_degree_10 : decode cX11_degree 10 = .ok (.ifnonnull 7, 3) := by decide +kernel
theorem dX11_degree_13 : decode cX11_degree 13 = .ok (.iconst (-1), 1) := by decide +kernel
theorem dX11_degree_14 : decode cX11_degree 14 = .ok (.goto 7, 3) := by decide +kernel
theorem dX11_degree_17 : decode cX11_degree 17 = .ok (.aload_n 2, 1) := by decide +kernel
theorem dX11_degree_18 : decode cX11_degree 18 = .ok (.invokevirtual 148, 3) := by decide +kernel
theorem dX11_degree_21 : decode cX11_degree 21 = .ok (.ireturn, 1) := by decide +kernel
theorem dX11_value_0 : decode cX11_value 0 = .ok (.aload_n 0, 1) := by decide +kernel
theorem dX11_value_1 : decode cX11_value 1 = .ok (.getfield 22, 3) := by decide +kernel
theorem dX11_value_4 : decode cX11_value 4 = .ok (.iload_n 1, 1) := by decide +kernel
theorem dX11_value_5 : decode cX11_value 5 = .ok (.invokevirtual 135, 3) := by decide +kernel
theorem dX11_value_8 : decode cX11_value 8 = .ok (.astore_n 3, 1) := by decide +kernel
theorem dX11_value_9 : decode cX11_value 9 = .ok (.aload_n 3, 1) := by decide +kernel
theorem dX11_value_10 : decode cX11_value 10 = .ok (.ifnull 21, 3) := by decide +kernel
theorem dX11_value_13 : decode cX11_value 13 = .ok (.aload_n 0, 1) := by decide +kernel
theorem dX11_value_14 : decode cX11_value 14 = .ok (.getfield 36, 3) := by decide +kernel
theorem dX11_value_17 : decode cX11_value 17 = .ok (.iload_n 2, 1) := by decide +kernel
theorem dX11_value_18 : decode cX11_value 18 = .ok (.aload_n 0, 1) := by decide +kernel
theorem dX11_value_19 : decode cX11_value 19 = .ok (.getfield 22, 3) := by decide +kernel
theorem dX11_value_22 : decode cX11_value 22 = .ok (.getfield 123, 3) := by decide +kernel
theorem dX11_value_25 : decode cX11_value 25 = .ok (.invokevirtual 152, 3) := by decide +kernel
theorem dX11_value_28 : decode cX11_value 28 = .ok (.ifCond .ne 5, 3) := by decide +kernel
theorem dX11_value_31 : decode cX11_value 31 = .ok (.iconst (-1), 1) := by decide +kernel
theorem dX11_value_32 : decode cX11_value 32 = .ok (.ireturn, 1) := by decide +kernel
theorem dX11_value_33 : decode cX11_value 33 = .ok (.aload_n 0, 1) := by decide +kernel
theorem dX11_value_34 : decode cX11_value 34 = .ok (.getfield 36, 3) := by decide +kernel
theorem dX11_value_37 : decode cX11_value 37 = .ok (.aload_n 3, 1) := by decide +kernel
theorem dX11_value_38 : decode cX11_value 38 = .ok (.aload_n 0, 1) := by decide +kernel
theorem dX11_value_39 : decode cX11_value 39 = .ok (.getfield 22, 3) := by decide +kernel
theorem dX11_value_42 : decode cX11_value 42 = .ok (.getfield 123, 3) := by decide +kernel
theorem dX11_value_45 : decode cX11_value 45 = .ok (.invokevirtual 155, 3) := by decide +kernel
theorem dX11_value_48 : decode cX11_value 48 = .ok (.ireturn, 1) := by decide +kernel
theorem dX11_order_0 : decode cX11_order 0 = .ok (.aload_n 0, 1) := by decide +kernel
theorem dX11_order_1 : decode cX11_order 1 = .ok (.iload_n 1, 1) := by decide +kernel
theorem dX11_order_2 : decode cX11_order 2 = .ok (.iload_n 2, 1) := by decide +kernel
theorem dX11_order_3 : decode cX11_order 3 = .ok (.invokevirtual 163, 3) := by decide +kernel
theorem dX11_order_6 : decode cX11_order 6 = .ok (.ifCond .eq 13, 3) := by decide +kernel
theorem dX11_order_9 : decode cX11_order 9 = .ok (.aload_n 0, 1) := by decide +kernel
theorem dX11_order_10 : decode cX11_order 10 = .ok (.getfield 43, 3) := by decide +kernel
theorem dX11_order_13 : decode cX11_order 13 = .ok (.invokevirtual 166, 3) := by decide +kernel
theorem dX11_order_16 : decode cX11_order 16 = .ok (.goto 4, 3) := by decide +kernel
theorem dX11_order_19 : decode cX11_order 19 = .ok (.iconst (-1), 1) := by decide +kernel
theorem dX11_order_20 : decode cX11_order 20 = .ok (.ireturn, 1) := by decide +kernel
theorem dX11_common_0 : decode cX11_common 0 = .ok (.aload_n 0, 1) := by decide +kernel
theorem dX11_common_1 : decode cX11_common 1 = .ok (.getfield 22, 3) := by decide +kernel
theorem dX11_common_4 : decode cX11_common 4 = .ok (.iload_n 1, 1) := by decide +kernel
theorem dX11_common_5 : decode cX11_common 5 = .ok (.invokevirtual 135, 3) := by decide +kernel
theorem dX11_common_8 : decode cX11_common 8 = .ok (.astore_n 3, 1) := by decide +kernel
theorem dX11_common_9 : decode cX11_common 9 = .ok (.aload_n 0, 1) := by decide +kernel
theorem dX11_common_10 : decode cX11_common 10 = .ok (.getfield 22, 3) := by decide +kernel
theorem dX11_common_13 : decode cX11_common 13 = .ok (.iload_n 2, 1) := by decide +kernel
theorem dX11_common_14 : decode cX11_common 14 = .ok (.invokevirtual 135, 3) := by decide +kernel
theorem dX11_common_17 : decode cX11_common 17 = .ok (.astore 4, 2) := by decide +kernel
theorem dX11_common_19 : decode cX11_common 19 = .ok (.aload_n 3, 1) := by decide +kernel
theorem dX11_common_20 : decode cX11_common 20 = .ok (.ifnull 8, 3) := by decide +kernel
theorem dX11_common_23 : decode cX11_common 23 = .ok (.aload 4, 2) := by decide +kernel
theorem dX11_common_25 : decode cX11_common 25 = .ok (.ifnonnull 7, 3) := by decide +kernel
theorem dX11_common_28 : decode cX11_common 28 = .ok (.iconst (-1), 1) := by decide +kernel
theorem dX11_common_29 : decode cX11_common 29 = .ok (.goto 23, 3) := by decide +kernel
theorem dX11_common_32 : decode cX11_common 32 = .ok (.aload_n 0, 1) := by decide +kernel
theorem dX11_common_33 : decode cX11_common 33 = .ok (.getfield 55, 3) := by decide +kernel
theorem dX11_common_36 : decode cX11_common 36 = .ok (.aload_n 3, 1) := by decide +kernel
theorem dX11_common_37 : decode cX11_common 37 = .ok (.aload 4, 2) := by decide +kernel
theorem dX11_common_39 : decode cX11_common 39 = .ok (.aload_n 0, 1) := by decide +kernel
theorem dX11_common_40 : decode cX11_common 40 = .ok (.getfield 22, 3) := by decide +kernel
theorem dX11_common_43 : decode cX11_common 43 = .ok (.getfield 123, 3) := by decide +kernel
theorem dX11_common_46 : decode cX11_common 46 = .ok (.invokevirtual 183, 3) := by decide +kernel
theorem dX11_common_49 : decode cX11_common 49 = .ok (.invokevirtual 148, 3) := by decide +kernel
theorem dX11_common_52 : decode cX11_common 52 = .ok (.ireturn, 1) := by decide +kernel
theorem dX11_times_0 : decode cX11_times 0 = .ok (.aload_n 0, 1) := by decide +kernel
theorem dX11_times_1 : decode cX11_times 1 = .ok (.getfield 22, 3) := by decide +kernel
theorem dX11_times_4 : decode cX11_times 4 = .ok (.iload_n 1, 1) := by decide +kernel
theorem dX11_times_5 : decode cX11_times 5 = .ok (.invokevirtual 135, 3) := by decide +kernel
theorem dX11_times_8 : decode cX11_times 8 = .ok (.astore 4, 2) := by decide +kernel
theorem dX11_times_10 : decode cX11_times 10 = .ok (.aload_n 0, 1) := by decide +kernel
theorem dX11_times_11 : decode cX11_times 11 = .ok (.getfield 22, 3) := by decide +kernel
theorem dX11_times_14 : decode cX11_times 14 = .ok (.iload_n 2, 1) := by decide +kernel
theorem dX11_times_15 : decode cX11_times 15 = .ok (.invokevirtual 135, 3) := by decide +kernel
theorem dX11_times_18 : decode cX11_times 18 = .ok (.astore 5, 2) := by decide +kernel
theorem dX11_times_20 : decode cX11_times 20 = .ok (.aload 4, 2) := by decide +kernel
theorem dX11_times_22 : decode cX11_times 22 = .ok (.ifnull 22, 3) := by decide +kernel
theorem dX11_times_25 : decode cX11_times 25 = .ok (.aload 5, 2) := by decide +kernel
theorem dX11_times_27 : decode cX11_times 27 = .ok (.ifnull 17, 3) := by decide +kernel
theorem dX11_times_30 : decode cX11_times 30 = .ok (.iload_n 3, 1) := by decide +kernel
theorem dX11_times_31 : decode cX11_times 31 = .ok (.aload_n 0, 1) := by decide +kernel
theorem dX11_times_32 : decode cX11_times 32 = .ok (.getfield 22, 3) := by decide +kernel
theorem dX11_times_35 : decode cX11_times 35 = .ok (.getfield 123, 3) := by decide +kernel
theorem dX11_times_38 : decode cX11_times 38 = .ok (.invokestatic 186, 3) := by decide +kernel
theorem dX11_times_41 : decode cX11_times 41 = .ok (.ifCond .ne 5, 3) := by decide +kernel
theorem dX11_times_44 : decode cX11_times 44 = .ok (.iconst (-1), 1) := by decide +kernel
theorem dX11_times_45 : decode cX11_times 45 = .ok (.ireturn, 1) := by decide +kernel
theorem dX11_times_46 : decode cX11_times 46 = .ok (.aload_n 0, 1) := by decide +kernel
theorem dX11_times_47 : decode cX11_times 47 = .ok (.getfield 55, 3) := by decide +kernel
theorem dX11_times_50 : decode cX11_times 50 = .ok (.aload 4, 2) := by decide +kernel
theorem dX11_times_52 : decode cX11_times 52 = .ok (.aload 5, 2) := by decide +kernel
theorem dX11_times_54 : decode cX11_times 54 = .ok (.aload_n 0, 1) := by decide +kernel
theorem dX11_times_55 : decode cX11_times 55 = .ok (.getfield 22, 3) := by decide +kernel
theorem dX11_times_58 : decode cX11_times 58 = .ok (.getfield 123, 3) := by decide +kernel
theorem dX11_times_61 : decode cX11_times 61 = .ok (.invokevirtual 183, 3) := by decide +kernel
theorem dX11_times_64 : decode cX11_times 64 = .ok (.pop, 1) := by decide +kernel
theorem dX11_times_65 : decode cX11_times 65 = .ok (.aload_n 0, 1) := by decide +kernel
theorem dX11_times_66 : decode cX11_times 66 = .ok (.aload 4, 2) := by decide +kernel
theorem dX11_times_68 : decode cX11_times 68 = .ok (.aload 5, 2) := by decide +kernel
theorem dX11_times_70 : decode cX11_times 70 = .ok (.iload_n 3, 1) := by decide +kernel
theorem dX11_times_71 : decode cX11_times 71 = .ok (.invokevirtual 189, 3) := by decide +kernel
theorem dX11_times_74 : decode cX11_times 74 = .ok (.ireturn, 1) := by decide +kernel
theorem dX11_rules_0 : decode cX11_rules 0 = .ok (.iload 4, 2) := by decide +kernel
theorem dX11_rules_2 : decode cX11_rules 2 = .ok (.ifCond .lt 9, 3) := by decide +kernel
theorem dX11_rules_5 : decode cX11_rules 5 = .ok (.iload 4, 2) := by decide +kernel
theorem dX11_rules_7 : decode cX11_rules 7 = .ok (.iconst 4, 1) := by decide +kernel
theorem dX11_rules_8 : decode cX11_rules 8 = .ok (.if_icmp .lt 5, 3) := by decide +kernel
theorem dX11_rules_11 : decode cX11_rules 11 = .ok (.iconst (-1), 1) := by decide +kernel
theorem dX11_rules_12 : decode cX11_rules 12 = .ok (.ireturn, 1) := by decide +kernel
theorem dX11_rules_13 : decode cX11_rules 13 = .ok (.aload_n 0, 1) := by decide +kernel
theorem dX11_rules_14 : decode cX11_rules 14 = .ok (.iload_n 1, 1) := by decide +kernel
theorem dX11_rules_15 : decode cX11_rules 15 = .ok (.iload_n 2, 1) := by decide +kernel
theorem dX11_rules_16 : decode cX11_rules 16 = .ok (.iload_n 3, 1) := by decide +kernel
theorem dX11_rules_17 : decode cX11_rules 17 = .ok (.invokevirtual 193, 3) := by decide +kernel
theorem dX11_rules_20 : decode cX11_rules 20 = .ok (.ifCond .ge 7, 3) := by decide +kernel
theorem dX11_rules_23 : decode cX11_rules 23 = .ok (.iconst (-1), 1) := by decide +kernel
theorem dX11_rules_24 : decode cX11_rules 24 = .ok (.goto 13, 3) := by decide +kernel
theorem dX11_rules_27 : decode cX11_rules 27 = .ok (.aload_n 0, 1) := by decide +kernel
theorem dX11_rules_28 : decode cX11_rules 28 = .ok (.getfield 62, 3) := by decide +kernel
theorem dX11_rules_31 : decode cX11_rules 31 = .ok (.getfield 196, 3) := by decide +kernel
theorem dX11_rules_34 : decode cX11_rules 34 = .ok (.iload 4, 2) := by decide +kernel
theorem dX11_rules_36 : decode cX11_rules 36 = .ok (.iaload, 1) := by decide +kernel
theorem dX11_rules_37 : decode cX11_rules 37 = .ok (.ireturn, 1) := by decide +kernel
theorem dX11_rule_0 : decode cX11_rule 0 = .ok (.aload_n 0, 1) := by decide +kernel
theorem dX11_rule_1 : decode cX11_rule 1 = .ok (.iload_n 1, 1) := by decide +kernel
theorem dX11_rule_2 : decode cX11_rule 2 = .ok (.iload_n 2, 1) := by decide +kernel
theorem dX11_rule_3 : decode cX11_rule 3 = .ok (.iload_n 3, 1) := by decide +kernel
theorem dX11_rule_4 : decode cX11_rule 4 = .ok (.invokevirtual 193, 3) := by decide +kernel
theorem dX11_rule_7 : decode cX11_rule 7 = .ok (.ifCond .ge 7, 3) := by decide +kernel
theorem dX11_rule_10 : decode cX11_rule 10 = .ok (.iconst (-1), 1) := by decide +kernel
theorem dX11_rule_11 : decode cX11_rule 11 = .ok (.goto 12, 3) := by decide +kernel
theorem dX11_rule_14 : decode cX11_rule 14 = .ok (.aload_n 0, 1) := by decide +kernel
theorem dX11_rule_15 : decode cX11_rule 15 = .ok (.getfield 62, 3) := by decide +kernel
theorem dX11_rule_18 : decode cX11_rule 18 = .ok (.iload 4, 2) := by decide +kernel
theorem dX11_rule_20 : decode cX11_rule 20 = .ok (.invokevirtual 199, 3) := by decide +kernel
theorem dX11_rule_23 : decode cX11_rule 23 = .ok (.ireturn, 1) := by decide +kernel
theorem dX11_size_0 : decode cX11_size 0 = .ok (.aload_n 0, 1) := by decide +kernel
theorem dX11_size_1 : decode cX11_size 1 = .ok (.getfield 22, 3) := by decide +kernel
theorem dX11_size_4 : decode cX11_size 4 = .ok (.iload_n 1, 1) := by decide +kernel
theorem dX11_size_5 : decode cX11_size 5 = .ok (.invokevirtual 135, 3) := by decide +kernel
theorem dX11_size_8 : decode cX11_size 8 = .ok (.astore 4, 2) := by decide +kernel
theorem dX11_size_10 : decode cX11_size 10 = .ok (.aload_n 0, 1) := by decide +kernel
theorem dX11_size_11 : decode cX11_size 11 = .ok (.getfield 22, 3) := by decide +kernel
theorem dX11_size_14 : decode cX11_size 14 = .ok (.iload_n 2, 1) := by decide +kernel
theorem dX11_size_15 : decode cX11_size 15 = .ok (.invokevirtual 135, 3) := by decide +kernel
theorem dX11_size_18 : decode cX11_size 18 = .ok (.astore 5, 2) := by decide +kernel
theorem dX11_size_20 : decode cX11_size 20 = .ok (.aload 4, 2) := by decide +kernel
theorem dX11_size_22 : decode cX11_size 22 = .ok (.ifnull 26, 3) := by decide +kernel
theorem dX11_size_25 : decode cX11_size 25 = .ok (.aload 5, 2) := by decide +kernel
theorem dX11_size_27 : decode cX11_size 27 = .ok (.ifnull 21, 3) := by decide +kernel
theorem dX11_size_30 : decode cX11_size 30 = .ok (.aload_n 0, 1) := by decide +kernel
theorem dX11_size_31 : decode cX11_size 31 = .ok (.getfield 36, 3) := by decide +kernel
theorem dX11_size_34 : decode cX11_size 34 = .ok (.iload_n 3, 1) := by decide +kernel
theorem dX11_size_35 : decode cX11_size 35 = .ok (.aload_n 0, 1) := by decide +kernel
theorem dX11_size_36 : decode cX11_size 36 = .ok (.getfield 22, 3) := by decide +kernel
theorem dX11_size_39 : decode cX11_size 39 = .ok (.getfield 123, 3) := by decide +kernel
theorem dX11_size_42 : decode cX11_size 42 = .ok (.invokevirtual 152, 3) := by decide +kernel
theorem dX11_size_45 : decode cX11_size 45 = .ok (.ifCond .ne 5, 3) := by decide +kernel
theorem dX11_size_48 : decode cX11_size 48 = .ok (.iconst (-1), 1) := by decide +kernel
theorem dX11_size_49 : decode cX11_size 49 = .ok (.ireturn, 1) := by decide +kernel
theorem dX11_size_50 : decode cX11_size 50 = .ok (.aload_n 0, 1) := by decide +kernel
theorem dX11_size_51 : decode cX11_size 51 = .ok (.getfield 43, 3) := by decide +kernel
theorem dX11_size_54 : decode cX11_size 54 = .ok (.aload 4, 2) := by decide +kernel
theorem dX11_size_56 : decode cX11_size 56 = .ok (.aload_n 0, 1) := by decide +kernel
theorem dX11_size_57 : decode cX11_size 57 = .ok (.getfield 36, 3) := by decide +kernel
theorem dX11_size_60 : decode cX11_size 60 = .ok (.aload_n 0, 1) := by decide +kernel
theorem dX11_size_61 : decode cX11_size 61 = .ok (.getfield 22, 3) := by decide +kernel
theorem dX11_size_64 : decode cX11_size 64 = .ok (.getfield 123, 3) := by decide +kernel
theorem dX11_size_67 : decode cX11_size 67 = .ok (.invokevirtual 202, 3) := by decide +kernel
theorem dX11_size_70 : decode cX11_size 70 = .ok (.aload_n 0, 1) := by decide +kernel
theorem dX11_size_71 : decode cX11_size 71 = .ok (.getfield 47, 3) := by decide +kernel
theorem dX11_size_74 : decode cX11_size 74 = .ok (.aload 5, 2) := by decide +kernel
theorem dX11_size_76 : decode cX11_size 76 = .ok (.aload_n 0, 1) := by decide +kernel
theorem dX11_size_77 : decode cX11_size 77 = .ok (.getfield 36, 3) := by decide +kernel
theorem dX11_size_80 : decode cX11_size 80 = .ok (.aload_n 0, 1) := by decide +kernel
theorem dX11_size_81 : decode cX11_size 81 = .ok (.getfield 22, 3) := by decide +kernel
theorem dX11_size_84 : decode cX11_size 84 = .ok (.getfield 123, 3) := by decide +kernel
theorem dX11_size_87 : decode cX11_size 87 = .ok (.invokevirtual 202, 3) := by decide +kernel
theorem dX11_size_90 : decode cX11_size 90 = .ok (.aload_n 0, 1) := by decide +kernel
theorem dX11_size_91 : decode cX11_size 91 = .ok (.getfield 69, 3) := by decide +kernel
theorem dX11_size_94 : decode cX11_size 94 = .ok (.aload_n 0, 1) := by decide +kernel
theorem dX11_size_95 : decode cX11_size 95 = .ok (.getfield 43, 3) := by decide +kernel
theorem dX11_size_98 : decode cX11_size 98 = .ok (.getfield 169, 3) := by decide +kernel
theorem dX11_size_101 : decode cX11_size 101 = .ok (.aload_n 0, 1) := by decide +kernel
theorem dX11_size_102 : decode cX11_size 102 = .ok (.getfield 47, 3) := by decide +kernel
theorem dX11_size_105 : decode cX11_size 105 = .ok (.getfield 169, 3) := by decide +kernel
theorem dX11_size_108 : decode cX11_size 108 = .ok (.aload_n 0, 1) := by decide +kernel
theorem dX11_size_109 : decode cX11_size 109 = .ok (.getfield 22, 3) := by decide +kernel
theorem dX11_size_112 : decode cX11_size 112 = .ok (.getfield 123, 3) := by decide +kernel
theorem dX11_size_115 : decode cX11_size 115 = .ok (.invokevirtual 206, 3) := by decide +kernel
theorem dX11_size_118 : decode cX11_size 118 = .ok (.ireturn, 1) := by decide +kernel
theorem dX11_meet_0 : decode cX11_meet 0 = .ok (.aload_n 0, 1) := by decide +kernel
theorem dX11_meet_1 : decode cX11_meet 1 = .ok (.getfield 22, 3) := by decide +kernel
theorem dX11_meet_4 : decode cX11_meet 4 = .ok (.iload_n 1, 1) := by decide +kernel
theorem dX11_meet_5 : decode cX11_meet 5 = .ok (.invokevirtual 135, 3) := by decide +kernel
theorem dX11_meet_8 : decode cX11_meet 8 = .ok (.astore 5, 2) := by decide +kernel
theorem dX11_meet_10 : decode cX11_meet 10 = .ok (.aload_n 0, 1) := by decide +kernel
theorem dX11_meet_11 : decode cX11_meet 11 = .ok (.getfield 22, 3) := by decide +kernel
theorem dX11_meet_14 : decode cX11_meet 14 = .ok (.iload_n 2, 1) := by decide +kernel
theorem dX11_meet_15 : decode cX11_meet 15 = .ok (.invokevirtual 135, 3) := by decide +kernel
theorem dX11_meet_18 : decode cX11_meet 18 = .ok (.astore 6, 2) := by decide +kernel
theorem dX11_meet_20 : decode cX11_meet 20 = .ok (.aload 5, 2) := by decide +kernel
theorem dX11_meet_22 : decode cX11_meet 22 = .ok (.ifnull 24, 3) := by decide +kernel
theorem dX11_meet_25 : decode cX11_meet 25 = .ok (.aload 6, 2) := by decide +kernel
theorem dX11_meet_27 : decode cX11_meet 27 = .ok (.ifnull 19, 3) := by decide +kernel
theorem dX11_meet_30 : decode cX11_meet 30 = .ok (.iload 4, 2) := by decide +kernel
theorem dX11_meet_32 : decode cX11_meet 32 = .ok (.ifCond .lt 14, 3) := by decide +kernel
theorem dX11_meet_35 : decode cX11_meet 35 = .ok (.iload 4, 2) := by decide +kernel
theorem dX11_meet_37 : decode cX11_meet 37 = .ok (.iconst 1, 1) := by decide +kernel
theorem dX11_meet_38 : decode cX11_meet 38 = .ok (.if_icmp .gt 8, 3) := by decide +kernel
theorem dX11_meet_41 : decode cX11_meet 41 = .ok (.iload_n 3, 1) := by decide +kernel
theorem dX11_meet_42 : decode cX11_meet 42 = .ok (.iconst (-1), 1) := by decide +kernel
theorem dX11_meet_43 : decode cX11_meet 43 = .ok (.if_icmp .ge 5, 3) := by decide +kernel
theorem dX11_meet_46 : decode cX11_meet 46 = .ok (.iconst (-1), 1) := by decide +kernel
theorem dX11_meet_47 : decode cX11_meet 47 = .ok (.ireturn, 1) := by decide +kernel
theorem dX11_meet_48 : decode cX11_meet 48 = .ok (.aload_n 0, 1) := by decide +kernel
theorem dX11_meet_49 : decode cX11_meet 49 = .ok (.getfield 55, 3) := by decide +kernel
theorem dX11_meet_52 : decode cX11_meet 52 = .ok (.aload 5, 2) := by decide +kernel
theorem dX11_meet_54 : decode cX11_meet 54 = .ok (.aload 6, 2) := by decide +kernel
theorem dX11_meet_56 : decode cX11_meet 56 = .ok (.aload_n 0, 1) := by decide +kernel
theorem dX11_meet_57 : decode cX11_meet 57 = .ok (.getfield 22, 3) := by decide +kernel
theorem dX11_meet_60 : decode cX11_meet 60 = .ok (.getfield 123, 3) := by decide +kernel
theorem dX11_meet_63 : decode cX11_meet 63 = .ok (.invokevirtual 183, 3) := by decide +kernel
theorem dX11_meet_66 : decode cX11_meet 66 = .ok (.pop, 1) := by decide +kernel
theorem dX11_meet_67 : decode cX11_meet 67 = .ok (.iload_n 3, 1) := by decide +kernel
theorem dX11_meet_68 : decode cX11_meet 68 = .ok (.iconst (-1), 1) := by decide +kernel
theorem dX11_meet_69 : decode cX11_meet 69 = .ok (.if_icmp .ne 29, 3) := by decide +kernel
theorem dX11_meet_72 : decode cX11_meet 72 = .ok (.iload 4, 2) := by decide +kernel
theorem dX11_meet_74 : decode cX11_meet 74 = .ok (.iconst 1, 1) := by decide +kernel
theorem dX11_meet_75 : decode cX11_meet 75 = .ok (.if_icmp .ne 23, 3) := by decide +kernel
theorem dX11_meet_78 : decode cX11_meet 78 = .ok (.aload_n 0, 1) := by decide +kernel
theorem dX11_meet_79 : decode cX11_meet 79 = .ok (.aload 5, 2) := by decide +kernel
theorem dX11_meet_81 : decode cX11_meet 81 = .ok (.aload 6, 2) := by decide +kernel
theorem dX11_meet_83 : decode cX11_meet 83 = .ok (.iconst 0, 1) := by decide +kernel
theorem dX11_meet_84 : decode cX11_meet 84 = .ok (.aload_n 0, 1) := by decide +kernel
theorem dX11_meet_85 : decode cX11_meet 85 = .ok (.getfield 22, 3) := by decide +kernel
theorem dX11_meet_88 : decode cX11_meet 88 = .ok (.getfield 123, 3) := by decide +kernel
theorem dX11_meet_91 : decode cX11_meet 91 = .ok (.invokestatic 126, 3) := by decide +kernel
theorem dX11_meet_94 : decode cX11_meet 94 = .ok (.invokevirtual 209, 3) := by decide +kernel
theorem dX11_meet_97 : decode cX11_meet 97 = .ok (.ireturn, 1) := by decide +kernel
theorem dX11_meet_98 : decode cX11_meet 98 = .ok (.aload_n 0, 1) := by decide +kernel
theorem dX11_meet_99 : decode cX11_meet 99 = .ok (.getfield 22, 3) := by decide +kernel
theorem dX11_meet_102 : decode cX11_meet 102 = .ok (.getfield 123, 3) := by decide +kernel
theorem dX11_meet_105 : decode cX11_meet 105 = .ok (.invokestatic 126, 3) := by decide +kernel
theorem dX11_meet_108 : decode cX11_meet 108 = .ok (.istore 7, 2) := by decide +kernel
theorem dX11_meet_110 : decode cX11_meet 110 = .ok (.iconst 0, 1) := by decide +kernel
theorem dX11_meet_111 : decode cX11_meet 111 = .ok (.istore 8, 2) := by decide +kernel
theorem dX11_meet_113 : decode cX11_meet 113 = .ok (.iconst 0, 1) := by decide +kernel
theorem dX11_meet_114 : decode cX11_meet 114 = .ok (.istore 9, 2) := by decide +kernel
theorem dX11_meet_116 : decode cX11_meet 116 = .ok (.iload 9, 2) := by decide +kernel
theorem dX11_meet_118 : decode cX11_meet 118 = .ok (.iload 7, 2) := by decide +kernel
theorem dX11_meet_120 : decode cX11_meet 120 = .ok (.if_icmp .ge 55, 3) := by decide +kernel
theorem dX11_meet_123 : decode cX11_meet 123 = .ok (.aload_n 0, 1) := by decide +kernel
theorem dX11_meet_124 : decode cX11_meet 124 = .ok (.aload 5, 2) := by decide +kernel
theorem dX11_meet_126 : decode cX11_meet 126 = .ok (.aload 6, 2) := by decide +kernel
theorem dX11_meet_128 : decode cX11_meet 128 = .ok (.iload 9, 2) := by decide +kernel
theorem dX11_meet_130 : decode cX11_meet 130 = .ok (.invokevirtual 213, 3) := by decide +kernel
theorem dX11_meet_133 : decode cX11_meet 133 = .ok (.ifCond .ne 6, 3) := by decide +kernel
theorem dX11_meet_136 : decode cX11_meet 136 = .ok (.goto 33, 3) := by decide +kernel
theorem dX11_meet_139 : decode cX11_meet 139 = .ok (.iload 8, 2) := by decide +kernel
theorem dX11_meet_141 : decode cX11_meet 141 = .ok (.iload_n 3, 1) := by decide +kernel
theorem dX11_meet_142 : decode cX11_meet 142 = .ok (.if_icmp .ne 24, 3) := by decide +kernel
theorem dX11_meet_145 : decode cX11_meet 145 = .ok (.iload 4, 2) := by decide +kernel
theorem dX11_meet_147 : decode cX11_meet 147 = .ok (.ifCond .ne 8, 3) := by decide +kernel
theorem dX11_meet_150 : decode cX11_meet 150 = .ok (.iload 9, 2) := by decide +kernel
theorem dX11_meet_152 : decode cX11_meet 152 = .ok (.goto 13, 3) := by decide +kernel
theorem dX11_meet_155 : decode cX11_meet 155 = .ok (.aload_n 0, 1) := by decide +kernel
theorem dX11_meet_156 : decode cX11_meet 156 = .ok (.aload 5, 2) := by decide +kernel
theorem dX11_meet_158 : decode cX11_meet 158 = .ok (.aload 6, 2) := by decide +kernel
theorem dX11_meet_160 : decode cX11_meet 160 = .ok (.iload 9, 2) := by decide +kernel
theorem dX11_meet_162 : decode cX11_meet 162 = .ok (.invokevirtual 189, 3) := by decide +kernel
theorem dX11_meet_165 : decode cX11_meet 165 = .ok (.ireturn, 1) := by decide +kernel
theorem dX11_meet_166 : decode cX11_meet 166 = .ok (.iinc 8 1, 3) := by decide +kernel
theorem dX11_meet_169 : decode cX11_meet 169 = .ok (.iinc 9 1, 3) := by decide +kernel
theorem dX11_meet_172 : decode cX11_meet 172 = .ok (.goto (-56), 3) := by decide +kernel
theorem dX11_meet_175 : decode cX11_meet 175 = .ok (.iload_n 3, 1) := by decide +kernel
theorem dX11_meet_176 : decode cX11_meet 176 = .ok (.iconst (-1), 1) := by decide +kernel
theorem dX11_meet_177 : decode cX11_meet 177 = .ok (.if_icmp .ne 8, 3) := by decide +kernel
theorem dX11_meet_180 : decode cX11_meet 180 = .ok (.iload 8, 2) := by decide +kernel
theorem dX11_meet_182 : decode cX11_meet 182 = .ok (.goto 4, 3) := by decide +kernel
theorem dX11_meet_185 : decode cX11_meet 185 = .ok (.iconst (-1), 1) := by decide +kernel
theorem dX11_meet_186 : decode cX11_meet 186 = .ok (.ireturn, 1) := by decide +kernel
theorem dX11_parts_0 : decode cX11_parts 0 = .ok (.aload_n 0, 1) := by decide +kernel
theorem dX11_parts_1 : decode cX11_parts 1 = .ok (.getfield 22, 3) := by decide +kernel
theorem dX11_parts_4 : decode cX11_parts 4 = .ok (.iload_n 1, 1) := by decide +kernel
theorem dX11_parts_5 : decode cX11_parts 5 = .ok (.invokevirtual 135, 3) := by decide +kernel
theorem dX11_parts_8 : decode cX11_parts 8 = .ok (.astore 4, 2) := by decide +kernel
theorem dX11_parts_10 : decode cX11_parts 10 = .ok (.aload_n 0, 1) := by decide +kernel
theorem dX11_parts_11 : decode cX11_parts 11 = .ok (.getfield 22, 3) := by decide +kernel
theorem dX11_parts_14 : decode cX11_parts 14 = .ok (.iload_n 2, 1) := by decide +kernel
theorem dX11_parts_15 : decode cX11_parts 15 = .ok (.invokevirtual 135, 3) := by decide +kernel
theorem dX11_parts_18 : decode cX11_parts 18 = .ok (.astore 5, 2) := by decide +kernel
theorem dX11_parts_20 : decode cX11_parts 20 = .ok (.aload 4, 2) := by decide +kernel
theorem dX11_parts_22 : decode cX11_parts 22 = .ok (.ifnull 18, 3) := by decide +kernel
theorem dX11_parts_25 : decode cX11_parts 25 = .ok (.aload 5, 2) := by decide +kernel
theorem dX11_parts_27 : decode cX11_parts 27 = .ok (.ifnull 13, 3) := by decide +kernel
theorem dX11_parts_30 : decode cX11_parts 30 = .ok (.iload_n 3, 1) := by decide +kernel
theorem dX11_parts_31 : decode cX11_parts 31 = .ok (.ifCond .lt 9, 3) := by decide +kernel
theorem dX11_parts_34 : decode cX11_parts 34 = .ok (.iload_n 3, 1) := by decide +kernel
theorem dX11_parts_35 : decode cX11_parts 35 = .ok (.bipush 24, 2) := by decide +kernel
theorem dX11_parts_37 : decode cX11_parts 37 = .ok (.if_icmp .le 5, 3) := by decide +kernel
theorem dX11_parts_40 : decode cX11_parts 40 = .ok (.iconst (-1), 1) := by decide +kernel
theorem dX11_parts_41 : decode cX11_parts 41 = .ok (.ireturn, 1) := by decide +kernel
theorem dX11_parts_42 : decode cX11_parts 42 = .ok (.aload 4, 2) := by decide +kernel
theorem dX11_parts_44 : decode cX11_parts 44 = .ok (.invokevirtual 148, 3) := by decide +kernel
theorem dX11_parts_47 : decode cX11_parts 47 = .ok (.istore 6, 2) := by decide +kernel
theorem dX11_parts_49 : decode cX11_parts 49 = .ok (.aload 5, 2) := by decide +kernel
theorem dX11_parts_51 : decode cX11_parts 51 = .ok (.invokevirtual 148, 3) := by decide +kernel
theorem dX11_parts_54 : decode cX11_parts 54 = .ok (.istore 7, 2) := by decide +kernel
theorem dX11_parts_56 : decode cX11_parts 56 = .ok (.iload 6, 2) := by decide +kernel
theorem dX11_parts_58 : decode cX11_parts 58 = .ok (.iload 7, 2) := by decide +kernel
theorem dX11_parts_60 : decode cX11_parts 60 = .ok (.iadd, 1) := by decide +kernel
theorem dX11_parts_61 : decode cX11_parts 61 = .ok (.aload_n 0, 1) := by decide +kernel
theorem dX11_parts_62 : decode cX11_parts 62 = .ok (.getfield 55, 3) := by decide +kernel
theorem dX11_parts_65 : decode cX11_parts 65 = .ok (.aload 4, 2) := by decide +kernel
theorem dX11_parts_67 : decode cX11_parts 67 = .ok (.aload 5, 2) := by decide +kernel
theorem dX11_parts_69 : decode cX11_parts 69 = .ok (.aload_n 0, 1) := by decide +kernel
theorem dX11_parts_70 : decode cX11_parts 70 = .ok (.getfield 22, 3) := by decide +kernel
theorem dX11_parts_73 : decode cX11_parts 73 = .ok (.getfield 123, 3) := by decide +kernel
theorem dX11_parts_76 : decode cX11_parts 76 = .ok (.invokevirtual 183, 3) := by decide +kernel
theorem dX11_parts_79 : decode cX11_parts 79 = .ok (.invokevirtual 148, 3) := by decide +kernel
theorem dX11_parts_82 : decode cX11_parts 82 = .ok (.isub, 1) := by decide +kernel
theorem dX11_parts_83 : decode cX11_parts 83 = .ok (.istore 8, 2) := by decide +kernel
theorem dX11_parts_85 : decode cX11_parts 85 = .ok (.iload_n 3, 1) := by decide +kernel
theorem dX11_parts_86 : decode cX11_parts 86 = .ok (.invokestatic 217, 3) := by decide +kernel
theorem dX11_parts_89 : decode cX11_parts 89 = .ok (.iload_n 3, 1) := by decide +kernel
theorem dX11_parts_90 : decode cX11_parts 90 = .ok (.iload 6, 2) := by decide +kernel
theorem dX11_parts_92 : decode cX11_parts 92 = .ok (.isub, 1) := by decide +kernel
theorem dX11_parts_93 : decode cX11_parts 93 = .ok (.invokestatic 217, 3) := by decide +kernel
theorem dX11_parts_96 : decode cX11_parts 96 = .ok (.isub, 1) := by decide +kernel
theorem dX11_parts_97 : decode cX11_parts 97 = .ok (.iload_n 3, 1) := by decide +kernel
theorem dX11_parts_98 : decode cX11_parts 98 = .ok (.iload 7, 2) := by decide +kernel
theorem dX11_parts_100 : decode cX11_parts 100 = .ok (.isub, 1) := by decide +kernel
theorem dX11_parts_101 : decode cX11_parts 101 = .ok (.invokestatic 217, 3) := by decide +kernel
theorem dX11_parts_104 : decode cX11_parts 104 = .ok (.isub, 1) := by decide +kernel
theorem dX11_parts_105 : decode cX11_parts 105 = .ok (.iload_n 3, 1) := by decide +kernel
theorem dX11_parts_106 : decode cX11_parts 106 = .ok (.iload 8, 2) := by decide +kernel
theorem dX11_parts_108 : decode cX11_parts 108 = .ok (.isub, 1) := by decide +kernel
theorem dX11_parts_109 : decode cX11_parts 109 = .ok (.invokestatic 217, 3) := by decide +kernel
theorem dX11_parts_112 : decode cX11_parts 112 = .ok (.iadd, 1) := by decide +kernel
theorem dX11_parts_113 : decode cX11_parts 113 = .ok (.ireturn, 1) := by decide +kernel
theorem dX11_total_0 : decode cX11_total 0 = .ok (.aload_n 0, 1) := by decide +kernel
theorem dX11_total_1 : decode cX11_total 1 = .ok (.getfield 22, 3) := by decide +kernel
theorem dX11_total_4 : decode cX11_total 4 = .ok (.iload_n 1, 1) := by decide +kernel
theorem dX11_total_5 : decode cX11_total 5 = .ok (.invokevirtual 135, 3) := by decide +kernel
theorem dX11_total_8 : decode cX11_total 8 = .ok (.astore 4, 2) := by decide +kernel
theorem dX11_total_10 : decode cX11_total 10 = .ok (.aload_n 0, 1) := by decide +kernel
theorem dX11_total_11 : decode cX11_total 11 = .ok (.getfield 22, 3) := by decide +kernel
theorem dX11_total_14 : decode cX11_total 14 = .ok (.iload_n 2, 1) := by decide +kernel
theorem dX11_total_15 : decode cX11_total 15 = .ok (.invokevirtual 135, 3) := by decide +kernel
theorem dX11_total_18 : decode cX11_total 18 = .ok (.astore 5, 2) := by decide +kernel
theorem dX11_total_20 : decode cX11_total 20 = .ok (.aload 4, 2) := by decide +kernel
theorem dX11_total_22 : decode cX11_total 22 = .ok (.ifnull 32, 3) := by decide +kernel
theorem dX11_total_25 : decode cX11_total 25 = .ok (.aload 5, 2) := by decide +kernel
theorem dX11_total_27 : decode cX11_total 27 = .ok (.ifnull 27, 3) := by decide +kernel
theorem dX11_total_30 : decode cX11_total 30 = .ok (.aload_n 0, 1) := by decide +kernel
theorem dX11_total_31 : decode cX11_total 31 = .ok (.getfield 55, 3) := by decide +kernel
theorem dX11_total_34 : decode cX11_total 34 = .ok (.aload 4, 2) := by decide +kernel
theorem dX11_total_36 : decode cX11_total 36 = .ok (.aload 5, 2) := by decide +kernel
theorem dX11_total_38 : decode cX11_total 38 = .ok (.aload_n 0, 1) := by decide +kernel
theorem dX11_total_39 : decode cX11_total 39 = .ok (.getfield 22, 3) := by decide +kernel
theorem dX11_total_42 : decode cX11_total 42 = .ok (.getfield 123, 3) := by decide +kernel
theorem dX11_total_45 : decode cX11_total 45 = .ok (.invokevirtual 183, 3) := by decide +kernel
theorem dX11_total_48 : decode cX11_total 48 = .ok (.invokevirtual 148, 3) := by decide +kernel
theorem dX11_total_51 : decode cX11_total 51 = .ok (.ifCond .le 5, 3) := by decide +kernel
theorem dX11_total_54 : decode cX11_total 54 = .ok (.iconst (-1), 1) := by decide +kernel
theorem dX11_total_55 : decode cX11_total 55 = .ok (.ireturn, 1) := by decide +kernel
theorem dX11_total_56 : decode cX11_total 56 = .ok (.aload 4, 2) := by decide +kernel
theorem dX11_total_58 : decode cX11_total 58 = .ok (.invokevirtual 148, 3) := by decide +kernel
theorem dX11_total_61 : decode cX11_total 61 = .ok (.aload 5, 2) := by decide +kernel
theorem dX11_total_63 : decode cX11_total 63 = .ok (.invokevirtual 148, 3) := by decide +kernel
theorem dX11_total_66 : decode cX11_total 66 = .ok (.imul, 1) := by decide +kernel
theorem dX11_total_67 : decode cX11_total 67 = .ok (.istore 6, 2) := by decide +kernel
theorem dX11_total_69 : decode cX11_total 69 = .ok (.aload_n 0, 1) := by decide +kernel
theorem dX11_total_70 : decode cX11_total 70 = .ok (.getfield 22, 3) := by decide +kernel
theorem dX11_total_73 : decode cX11_total 73 = .ok (.getfield 123, 3) := by decide +kernel
theorem dX11_total_76 : decode cX11_total 76 = .ok (.aload_n 0, 1) := by decide +kernel
theorem dX11_total_77 : decode cX11_total 77 = .ok (.getfield 22, 3) := by decide +kernel
theorem dX11_total_80 : decode cX11_total 80 = .ok (.getfield 123, 3) := by decide +kernel
theorem dX11_total_83 : decode cX11_total 83 = .ok (.imul, 1) := by decide +kernel
theorem dX11_total_84 : decode cX11_total 84 = .ok (.istore 7, 2) := by decide +kernel
theorem dX11_total_86 : decode cX11_total 86 = .ok (.iload_n 3, 1) := by decide +kernel
theorem dX11_total_87 : decode cX11_total 87 = .ok (.tableswitch 110 0 4 #[33, 36, 55, 77, 89], 33) := by decide +kernel
theorem dX11_total_120 : decode cX11_total 120 = .ok (.iload 6, 2) := by decide +kernel
theorem dX11_total_122 : decode cX11_total 122 = .ok (.ireturn, 1) := by decide +kernel
theorem dX11_total_123 : decode cX11_total 123 = .ok (.aload_n 0, 1) := by decide +kernel
theorem dX11_total_124 : decode cX11_total 124 = .ok (.getfield 69, 3) := by decide +kernel
theorem dX11_total_127 : decode cX11_total 127 = .ok (.aload 4, 2) := by decide +kernel
theorem dX11_total_129 : decode cX11_total 129 = .ok (.aload 5, 2) := by decide +kernel
theorem dX11_total_131 : decode cX11_total 131 = .ok (.aload_n 0, 1) := by decide +kernel
theorem dX11_total_132 : decode cX11_total 132 = .ok (.getfield 22, 3) := by decide +kernel
theorem dX11_total_135 : decode cX11_total 135 = .ok (.getfield 123, 3) := by decide +kernel
theorem dX11_total_138 : decode cX11_total 138 = .ok (.invokevirtual 220, 3) := by decide +kernel
theorem dX11_total_141 : decode cX11_total 141 = .ok (.ireturn, 1) := by decide +kernel
theorem dX11_total_142 : decode cX11_total 142 = .ok (.iload 6, 2) := by decide +kernel
theorem dX11_total_144 : decode cX11_total 144 = .ok (.aload_n 0, 1) := by decide +kernel
theorem dX11_total_145 : decode cX11_total 145 = .ok (.getfield 69, 3) := by decide +kernel
theorem dX11_total_148 : decode cX11_total 148 = .ok (.aload 4, 2) := by decide +kernel
theorem dX11_total_150 : decode cX11_total 150 = .ok (.aload 5, 2) := by decide +kernel
theorem dX11_total_152 : decode cX11_total 152 = .ok (.aload_n 0, 1) := by decide +kernel
theorem dX11_total_153 : decode cX11_total 153 = .ok (.getfield 22, 3) := by decide +kernel
theorem dX11_total_156 : decode cX11_total 156 = .ok (.getfield 123, 3) := by decide +kernel
theorem dX11_total_159 : decode cX11_total 159 = .ok (.invokevirtual 220, 3) := by decide +kernel
theorem dX11_total_162 : decode cX11_total 162 = .ok (.isub, 1) := by decide +kernel
theorem dX11_total_163 : decode cX11_total 163 = .ok (.ireturn, 1) := by decide +kernel
theorem dX11_total_164 : decode cX11_total 164 = .ok (.aload_n 0, 1) := by decide +kernel
theorem dX11_total_165 : decode cX11_total 165 = .ok (.aload 4, 2) := by decide +kernel
theorem dX11_total_167 : decode cX11_total 167 = .ok (.aload 5, 2) := by decide +kernel
theorem dX11_total_169 : decode cX11_total 169 = .ok (.iconst 0, 1) := by decide +kernel
theorem dX11_total_170 : decode cX11_total 170 = .ok (.iload 7, 2) := by decide +kernel
theorem dX11_total_172 : decode cX11_total 172 = .ok (.invokevirtual 209, 3) := by decide +kernel
theorem dX11_total_175 : decode cX11_total 175 = .ok (.ireturn, 1) := by decide +kernel
theorem dX11_total_176 : decode cX11_total 176 = .ok (.aload_n 0, 1) := by decide +kernel
theorem dX11_total_177 : decode cX11_total 177 = .ok (.aload 4, 2) := by decide +kernel
theorem dX11_total_179 : decode cX11_total 179 = .ok (.aload 5, 2) := by decide +kernel
theorem dX11_total_181 : decode cX11_total 181 = .ok (.iload 7, 2) := by decide +kernel
theorem dX11_total_183 : decode cX11_total 183 = .ok (.aload_n 0, 1) := by decide +kernel
theorem dX11_total_184 : decode cX11_total 184 = .ok (.getfield 22, 3) := by decide +kernel
theorem dX11_total_187 : decode cX11_total 187 = .ok (.getfield 123, 3) := by decide +kernel
theorem dX11_total_190 : decode cX11_total 190 = .ok (.invokestatic 126, 3) := by decide +kernel
theorem dX11_total_193 : decode cX11_total 193 = .ok (.invokevirtual 209, 3) := by decide +kernel
theorem dX11_total_196 : decode cX11_total 196 = .ok (.ireturn, 1) := by decide +kernel
theorem dX11_total_197 : decode cX11_total 197 = .ok (.iconst (-1), 1) := by decide +kernel
theorem dX11_total_198 : decode cX11_total 198 = .ok (.ireturn, 1) := by decide +kernel
theorem dX11_most_0 : decode cX11_most 0 = .ok (.aload_n 0, 1) := by decide +kernel
theorem dX11_most_1 : decode cX11_most 1 = .ok (.getfield 22, 3) := by decide +kernel
theorem dX11_most_4 : decode cX11_most 4 = .ok (.iload_n 1, 1) := by decide +kernel
theorem dX11_most_5 : decode cX11_most 5 = .ok (.invokevirtual 135, 3) := by decide +kernel
theorem dX11_most_8 : decode cX11_most 8 = .ok (.astore 4, 2) := by decide +kernel
theorem dX11_most_10 : decode cX11_most 10 = .ok (.aload_n 0, 1) := by decide +kernel
theorem dX11_most_11 : decode cX11_most 11 = .ok (.getfield 22, 3) := by decide +kernel
theorem dX11_most_14 : decode cX11_most 14 = .ok (.iload_n 2, 1) := by decide +kernel
theorem dX11_most_15 : decode cX11_most 15 = .ok (.invokevirtual 135, 3) := by decide +kernel
theorem dX11_most_18 : decode cX11_most 18 = .ok (.astore 5, 2) := by decide +kernel
theorem dX11_most_20 : decode cX11_most 20 = .ok (.aload 4, 2) := by decide +kernel
theorem dX11_most_22 : decode cX11_most 22 = .ok (.ifnull 17, 3) := by decide +kernel
theorem dX11_most_25 : decode cX11_most 25 = .ok (.aload 5, 2) := by decide +kernel
theorem dX11_most_27 : decode cX11_most 27 = .ok (.ifnull 12, 3) := by decide +kernel
theorem dX11_most_30 : decode cX11_most 30 = .ok (.iload_n 3, 1) := by decide +kernel
theorem dX11_most_31 : decode cX11_most 31 = .ok (.ifCond .lt 8, 3) := by decide +kernel
theorem dX11_most_34 : decode cX11_most 34 = .ok (.iload_n 3, 1) := by decide +kernel
theorem dX11_most_35 : decode cX11_most 35 = .ok (.iconst 1, 1) := by decide +kernel
theorem dX11_most_36 : decode cX11_most 36 = .ok (.if_icmp .le 5, 3) := by decide +kernel
theorem dX11_most_39 : decode cX11_most 39 = .ok (.iconst (-1), 1) := by decide +kernel
theorem dX11_most_40 : decode cX11_most 40 = .ok (.ireturn, 1) := by decide +kernel
theorem dX11_most_41 : decode cX11_most 41 = .ok (.aload_n 0, 1) := by decide +kernel
theorem dX11_most_42 : decode cX11_most 42 = .ok (.getfield 55, 3) := by decide +kernel
theorem dX11_most_45 : decode cX11_most 45 = .ok (.aload 4, 2) := by decide +kernel
theorem dX11_most_47 : decode cX11_most 47 = .ok (.aload 5, 2) := by decide +kernel
theorem dX11_most_49 : decode cX11_most 49 = .ok (.aload_n 0, 1) := by decide +kernel
theorem dX11_most_50 : decode cX11_most 50 = .ok (.getfield 22, 3) := by decide +kernel
theorem dX11_most_53 : decode cX11_most 53 = .ok (.getfield 123, 3) := by decide +kernel
theorem dX11_most_56 : decode cX11_most 56 = .ok (.invokevirtual 183, 3) := by decide +kernel
theorem dX11_most_59 : decode cX11_most 59 = .ok (.pop, 1) := by decide +kernel
theorem dX11_most_60 : decode cX11_most 60 = .ok (.iconst 0, 1) := by decide +kernel
theorem dX11_most_61 : decode cX11_most 61 = .ok (.istore 6, 2) := by decide +kernel
theorem dX11_most_63 : decode cX11_most 63 = .ok (.iconst (-1), 1) := by decide +kernel
theorem dX11_most_64 : decode cX11_most 64 = .ok (.istore 7, 2) := by decide +kernel
theorem dX11_most_66 : decode cX11_most 66 = .ok (.aload_n 0, 1) := by decide +kernel
theorem dX11_most_67 : decode cX11_most 67 = .ok (.getfield 22, 3) := by decide +kernel
theorem dX11_most_70 : decode cX11_most 70 = .ok (.getfield 123, 3) := by decide +kernel
theorem dX11_most_73 : decode cX11_most 73 = .ok (.invokestatic 126, 3) := by decide +kernel
theorem dX11_most_76 : decode cX11_most 76 = .ok (.istore 8, 2) := by decide +kernel
theorem dX11_most_78 : decode cX11_most 78 = .ok (.iconst 0, 1) := by decide +kernel
theorem dX11_most_79 : decode cX11_most 79 = .ok (.istore 9, 2) := by decide +kernel
theorem dX11_most_81 : decode cX11_most 81 = .ok (.iload 9, 2) := by decide +kernel
theorem dX11_most_83 : decode cX11_most 83 = .ok (.iload 8, 2) := by decide +kernel
theorem dX11_most_85 : decode cX11_most 85 = .ok (.if_icmp .ge 72, 3) := by decide +kernel
theorem dX11_most_88 : decode cX11_most 88 = .ok (.aload_n 0, 1) := by decide +kernel
theorem dX11_most_89 : decode cX11_most 89 = .ok (.aload 4, 2) := by decide +kernel
theorem dX11_most_91 : decode cX11_most 91 = .ok (.aload 5, 2) := by decide +kernel
theorem dX11_most_93 : decode cX11_most 93 = .ok (.iload 9, 2) := by decide +kernel
theorem dX11_most_95 : decode cX11_most 95 = .ok (.invokevirtual 213, 3) := by decide +kernel
theorem dX11_most_98 : decode cX11_most 98 = .ok (.ifCond .eq 16, 3) := by decide +kernel
theorem dX11_most_101 : decode cX11_most 101 = .ok (.aload_n 0, 1) := by decide +kernel
theorem dX11_most_102 : decode cX11_most 102 = .ok (.aload 4, 2) := by decide +kernel
theorem dX11_most_104 : decode cX11_most 104 = .ok (.aload 5, 2) := by decide +kernel
theorem dX11_most_106 : decode cX11_most 106 = .ok (.iload 9, 2) := by decide +kernel
theorem dX11_most_108 : decode cX11_most 108 = .ok (.invokevirtual 189, 3) := by decide +kernel
theorem dX11_most_111 : decode cX11_most 111 = .ok (.goto 4, 3) := by decide +kernel
theorem dX11_most_114 : decode cX11_most 114 = .ok (.iconst 0, 1) := by decide +kernel
theorem dX11_most_115 : decode cX11_most 115 = .ok (.istore 10, 2) := by decide +kernel
theorem dX11_most_117 : decode cX11_most 117 = .ok (.iload 10, 2) := by decide +kernel
theorem dX11_most_119 : decode cX11_most 119 = .ok (.bipush (-2), 2) := by decide +kernel
theorem dX11_most_121 : decode cX11_most 121 = .ok (.if_icmp .ne 15, 3) := by decide +kernel
theorem dX11_most_124 : decode cX11_most 124 = .ok (.iload_n 3, 1) := by decide +kernel
theorem dX11_most_125 : decode cX11_most 125 = .ok (.ifCond .ne 8, 3) := by decide +kernel
theorem dX11_most_128 : decode cX11_most 128 = .ok (.bipush (-2), 2) := by decide +kernel
theorem dX11_most_130 : decode cX11_most 130 = .ok (.goto 5, 3) := by decide +kernel
theorem dX11_most_133 : decode cX11_most 133 = .ok (.iload 9, 2) := by decide +kernel
theorem dX11_most_135 : decode cX11_most 135 = .ok (.ireturn, 1) := by decide +kernel
theorem dX11_most_136 : decode cX11_most 136 = .ok (.iload 10, 2) := by decide +kernel
theorem dX11_most_138 : decode cX11_most 138 = .ok (.iload 6, 2) := by decide +kernel
theorem dX11_most_140 : decode cX11_most 140 = .ok (.if_icmp .le 11, 3) := by decide +kernel
theorem dX11_most_143 : decode cX11_most 143 = .ok (.iload 10, 2) := by decide +kernel
theorem dX11_most_145 : decode cX11_most 145 = .ok (.istore 6, 2) := by decide +kernel
theorem dX11_most_147 : decode cX11_most 147 = .ok (.iload 9, 2) := by decide +kernel
theorem dX11_most_149 : decode cX11_most 149 = .ok (.istore 7, 2) := by decide +kernel
theorem dX11_most_151 : decode cX11_most 151 = .ok (.iinc 9 1, 3) := by decide +kernel
theorem dX11_most_154 : decode cX11_most 154 = .ok (.goto (-73), 3) := by decide +kernel
theorem dX11_most_157 : decode cX11_most 157 = .ok (.iload_n 3, 1) := by decide +kernel
theorem dX11_most_158 : decode cX11_most 158 = .ok (.ifCond .ne 8, 3) := by decide +kernel
theorem dX11_most_161 : decode cX11_most 161 = .ok (.iload 6, 2) := by decide +kernel
theorem dX11_most_163 : decode cX11_most 163 = .ok (.goto 5, 3) := by decide +kernel
theorem dX11_most_166 : decode cX11_most 166 = .ok (.iload 7, 2) := by decide +kernel
theorem dX11_most_168 : decode cX11_most 168 = .ok (.ireturn, 1) := by decide +kernel
theorem dX11_refuse_0 : decode cX11_refuse 0 = .ok (.iload_n 1, 1) := by decide +kernel
theorem dX11_refuse_1 : decode cX11_refuse 1 = .ok (.ifCond .lt 18, 3) := by decide +kernel
theorem dX11_refuse_4 : decode cX11_refuse 4 = .ok (.iload_n 1, 1) := by decide +kernel
theorem dX11_refuse_5 : decode cX11_refuse 5 = .ok (.iconst 5, 1) := by decide +kernel
theorem dX11_refuse_6 : decode cX11_refuse 6 = .ok (.if_icmp .ge 13, 3) := by decide +kernel
theorem dX11_refuse_9 : decode cX11_refuse 9 = .ok (.aload_n 0, 1) := by decide +kernel
theorem dX11_refuse_10 : decode cX11_refuse 10 = .ok (.getfield 80, 3) := by decide +kernel
theorem dX11_refuse_13 : decode cX11_refuse 13 = .ok (.iload_n 1, 1) := by decide +kernel
theorem dX11_refuse_14 : decode cX11_refuse 14 = .ok (.dup2, 1) := by decide +kernel
theorem dX11_refuse_15 : decode cX11_refuse 15 = .ok (.iaload, 1) := by decide +kernel
theorem dX11_refuse_16 : decode cX11_refuse 16 = .ok (.iconst 1, 1) := by decide +kernel
theorem dX11_refuse_17 : decode cX11_refuse 17 = .ok (.iadd, 1) := by decide +kernel
theorem dX11_refuse_18 : decode cX11_refuse 18 = .ok (.iastore, 1) := by decide +kernel
theorem dX11_refuse_19 : decode cX11_refuse 19 = .ok (.return_, 1) := by decide +kernel
theorem dX11_lookAt_0 : decode cX11_lookAt 0 = .ok (.aload_n 0, 1) := by decide +kernel
theorem dX11_lookAt_1 : decode cX11_lookAt 1 = .ok (.getfield 22, 3) := by decide +kernel
theorem dX11_lookAt_4 : decode cX11_lookAt 4 = .ok (.iload_n 1, 1) := by decide +kernel
theorem dX11_lookAt_5 : decode cX11_lookAt 5 = .ok (.invokevirtual 135, 3) := by decide +kernel
theorem dX11_lookAt_8 : decode cX11_lookAt 8 = .ok (.astore_n 3, 1) := by decide +kernel
theorem dX11_lookAt_9 : decode cX11_lookAt 9 = .ok (.aload_n 3, 1) := by decide +kernel
theorem dX11_lookAt_10 : decode cX11_lookAt 10 = .ok (.ifnull 21, 3) := by decide +kernel
theorem dX11_lookAt_13 : decode cX11_lookAt 13 = .ok (.aload_n 0, 1) := by decide +kernel
theorem dX11_lookAt_14 : decode cX11_lookAt 14 = .ok (.getfield 36, 3) := by decide +kernel
theorem dX11_lookAt_17 : decode cX11_lookAt 17 = .ok (.iload_n 2, 1) := by decide +kernel
theorem dX11_lookAt_18 : decode cX11_lookAt 18 = .ok (.aload_n 0, 1) := by decide +kernel
theorem dX11_lookAt_19 : decode cX11_lookAt 19 = .ok (.getfield 22, 3) := by decide +kernel
theorem dX11_lookAt_22 : decode cX11_lookAt 22 = .ok (.getfield 123, 3) := by decide +kernel
theorem dX11_lookAt_25 : decode cX11_lookAt 25 = .ok (.invokevirtual 152, 3) := by decide +kernel
theorem dX11_lookAt_28 : decode cX11_lookAt 28 = .ok (.ifCond .ne 5, 3) := by decide +kernel
theorem dX11_lookAt_31 : decode cX11_lookAt 31 = .ok (.iconst 0, 1) := by decide +kernel
theorem dX11_lookAt_32 : decode cX11_lookAt 32 = .ok (.ireturn, 1) := by decide +kernel
theorem dX11_lookAt_33 : decode cX11_lookAt 33 = .ok (.aload_n 0, 1) := by decide +kernel
theorem dX11_lookAt_34 : decode cX11_lookAt 34 = .ok (.getfield 43, 3) := by decide +kernel
theorem dX11_lookAt_37 : decode cX11_lookAt 37 = .ok (.aload_n 3, 1) := by decide +kernel
theorem dX11_lookAt_38 : decode cX11_lookAt 38 = .ok (.aload_n 0, 1) := by decide +kernel
theorem dX11_lookAt_39 : decode cX11_lookAt 39 = .ok (.getfield 36, 3) := by decide +kernel
theorem dX11_lookAt_42 : decode cX11_lookAt 42 = .ok (.aload_n 0, 1) := by decide +kernel
theorem dX11_lookAt_43 : decode cX11_lookAt 43 = .ok (.getfield 22, 3) := by decide +kernel
theorem dX11_lookAt_46 : decode cX11_lookAt 46 = .ok (.getfield 123, 3) := by decide +kernel
theorem dX11_lookAt_49 : decode cX11_lookAt 49 = .ok (.invokevirtual 202, 3) := by decide +kernel
theorem dX11_lookAt_52 : decode cX11_lookAt 52 = .ok (.iconst 1, 1) := by decide +kernel
theorem dX11_lookAt_53 : decode cX11_lookAt 53 = .ok (.ireturn, 1) := by decide +kernel
theorem dX11_timesAt_0 : decode cX11_timesAt 0 = .ok (.aload_n 0, 1) := by decide +kernel
theorem dX11_timesAt_1 : decode cX11_timesAt 1 = .ok (.getfield 36, 3) := by decide +kernel
theorem dX11_timesAt_4 : decode cX11_timesAt 4 = .ok (.iload_n 3, 1) := by decide +kernel
theorem dX11_timesAt_5 : decode cX11_timesAt 5 = .ok (.aload_n 0, 1) := by decide +kernel
theorem dX11_timesAt_6 : decode cX11_timesAt 6 = .ok (.getfield 22, 3) := by decide +kernel
theorem dX11_timesAt_9 : decode cX11_timesAt 9 = .ok (.getfield 123, 3) := by decide +kernel
theorem dX11_timesAt_12 : decode cX11_timesAt 12 = .ok (.invokevirtual 152, 3) := by decide +kernel
theorem dX11_timesAt_15 : decode cX11_timesAt 15 = .ok (.ifCond .ne 5, 3) := by decide +kernel
theorem dX11_timesAt_18 : decode cX11_timesAt 18 = .ok (.iconst (-1), 1) := by decide +kernel
theorem dX11_timesAt_19 : decode cX11_timesAt 19 = .ok (.ireturn, 1) := by decide +kernel
theorem dX11_timesAt_20 : decode cX11_timesAt 20 = .ok (.aload_n 0, 1) := by decide +kernel
theorem dX11_timesAt_21 : decode cX11_timesAt 21 = .ok (.getfield 36, 3) := by decide +kernel
theorem dX11_timesAt_24 : decode cX11_timesAt 24 = .ok (.aload_n 0, 1) := by decide +kernel
theorem dX11_timesAt_25 : decode cX11_timesAt 25 = .ok (.getfield 55, 3) := by decide +kernel
theorem dX11_timesAt_28 : decode cX11_timesAt 28 = .ok (.getfield 261, 3) := by decide +kernel
theorem dX11_timesAt_31 : decode cX11_timesAt 31 = .ok (.aload_n 0, 1) := by decide +kernel
theorem dX11_timesAt_32 : decode cX11_timesAt 32 = .ok (.getfield 22, 3) := by decide +kernel
theorem dX11_timesAt_35 : decode cX11_timesAt 35 = .ok (.getfield 123, 3) := by decide +kernel
theorem dX11_timesAt_38 : decode cX11_timesAt 38 = .ok (.invokevirtual 155, 3) := by decide +kernel
theorem dX11_timesAt_41 : decode cX11_timesAt 41 = .ok (.ifCond .ne 6, 3) := by decide +kernel
theorem dX11_timesAt_44 : decode cX11_timesAt 44 = .ok (.bipush (-2), 2) := by decide +kernel
theorem dX11_timesAt_46 : decode cX11_timesAt 46 = .ok (.ireturn, 1) := by decide +kernel
theorem dX11_timesAt_47 : decode cX11_timesAt 47 = .ok (.aload_n 0, 1) := by decide +kernel
theorem dX11_timesAt_48 : decode cX11_timesAt 48 = .ok (.getfield 43, 3) := by decide +kernel
theorem dX11_timesAt_51 : decode cX11_timesAt 51 = .ok (.aload_n 1, 1) := by decide +kernel
theorem dX11_timesAt_52 : decode cX11_timesAt 52 = .ok (.aload_n 0, 1) := by decide +kernel
theorem dX11_timesAt_53 : decode cX11_timesAt 53 = .ok (.getfield 36, 3) := by decide +kernel
theorem dX11_timesAt_56 : decode cX11_timesAt 56 = .ok (.aload_n 0, 1) := by decide +kernel
theorem dX11_timesAt_57 : decode cX11_timesAt 57 = .ok (.getfield 22, 3) := by decide +kernel
theorem dX11_timesAt_60 : decode cX11_timesAt 60 = .ok (.getfield 123, 3) := by decide +kernel
theorem dX11_timesAt_63 : decode cX11_timesAt 63 = .ok (.invokevirtual 202, 3) := by decide +kernel
theorem dX11_timesAt_66 : decode cX11_timesAt 66 = .ok (.aload_n 0, 1) := by decide +kernel
theorem dX11_timesAt_67 : decode cX11_timesAt 67 = .ok (.getfield 47, 3) := by decide +kernel
theorem dX11_timesAt_70 : decode cX11_timesAt 70 = .ok (.aload_n 2, 1) := by decide +kernel
theorem dX11_timesAt_71 : decode cX11_timesAt 71 = .ok (.aload_n 0, 1) := by decide +kernel
theorem dX11_timesAt_72 : decode cX11_timesAt 72 = .ok (.getfield 36, 3) := by decide +kernel
theorem dX11_timesAt_75 : decode cX11_timesAt 75 = .ok (.aload_n 0, 1) := by decide +kernel
theorem dX11_timesAt_76 : decode cX11_timesAt 76 = .ok (.getfield 22, 3) := by decide +kernel
theorem dX11_timesAt_79 : decode cX11_timesAt 79 = .ok (.getfield 123, 3) := by decide +kernel
theorem dX11_timesAt_82 : decode cX11_timesAt 82 = .ok (.invokevirtual 202, 3) := by decide +kernel
theorem dX11_timesAt_85 : decode cX11_timesAt 85 = .ok (.aload_n 0, 1) := by decide +kernel
theorem dX11_timesAt_86 : decode cX11_timesAt 86 = .ok (.getfield 62, 3) := by decide +kernel
theorem dX11_timesAt_89 : decode cX11_timesAt 89 = .ok (.aload_n 0, 1) := by decide +kernel
theorem dX11_timesAt_90 : decode cX11_timesAt 90 = .ok (.getfield 43, 3) := by decide +kernel
theorem dX11_timesAt_93 : decode cX11_timesAt 93 = .ok (.getfield 169, 3) := by decide +kernel
theorem dX11_timesAt_96 : decode cX11_timesAt 96 = .ok (.aload_n 0, 1) := by decide +kernel
theorem dX11_timesAt_97 : decode cX11_timesAt 97 = .ok (.getfield 47, 3) := by decide +kernel
theorem dX11_timesAt_100 : decode cX11_timesAt 100 = .ok (.getfield 169, 3) := by decide +kernel
theorem dX11_timesAt_103 : decode cX11_timesAt 103 = .ok (.aload_n 0, 1) := by decide +kernel
theorem dX11_timesAt_104 : decode cX11_timesAt 104 = .ok (.getfield 22, 3) := by decide +kernel
theorem dX11_timesAt_107 : decode cX11_timesAt 107 = .ok (.getfield 123, 3) := by decide +kernel
theorem dX11_timesAt_110 : decode cX11_timesAt 110 = .ok (.invokevirtual 264, 3) := by decide +kernel
theorem dX11_timesAt_113 : decode cX11_timesAt 113 = .ok (.ireturn, 1) := by decide +kernel
theorem dX11_areBothOn_0 : decode cX11_areBothOn 0 = .ok (.aload_n 0, 1) := by decide +kernel
theorem dX11_areBothOn_1 : decode cX11_areBothOn 1 = .ok (.getfield 36, 3) := by decide +kernel
theorem dX11_areBothOn_4 : decode cX11_areBothOn 4 = .ok (.iload_n 3, 1) := by decide +kernel
theorem dX11_areBothOn_5 : decode cX11_areBothOn 5 = .ok (.aload_n 0, 1) := by decide +kernel
theorem dX11_areBothOn_6 : decode cX11_areBothOn 6 = .ok (.getfield 22, 3) := by decide +kernel
theorem dX11_areBothOn_9 : decode cX11_areBothOn 9 = .ok (.getfield 123, 3) := by decide +kernel
theorem dX11_areBothOn_12 : decode cX11_areBothOn 12 = .ok (.invokevirtual 152, 3) := by decide +kernel
theorem dX11_areBothOn_15 : decode cX11_areBothOn 15 = .ok (.ifCond .eq 43, 3) := by decide +kernel
theorem dX11_areBothOn_18 : decode cX11_areBothOn 18 = .ok (.aload_n 0, 1) := by decide +kernel
theorem dX11_areBothOn_19 : decode cX11_areBothOn 19 = .ok (.getfield 36, 3) := by decide +kernel
theorem dX11_areBothOn_22 : decode cX11_areBothOn 22 = .ok (.aload_n 1, 1) := by decide +kernel
theorem dX11_areBothOn_23 : decode cX11_areBothOn 23 = .ok (.aload_n 0, 1) := by decide +kernel
theorem dX11_areBothOn_24 : decode cX11_areBothOn 24 = .ok (.getfield 22, 3) := by decide +kernel
theorem dX11_areBothOn_27 : decode cX11_areBothOn 27 = .ok (.getfield 123, 3) := by decide +kernel
theorem dX11_areBothOn_30 : decode cX11_areBothOn 30 = .ok (.invokevirtual 155, 3) := by decide +kernel
theorem dX11_areBothOn_33 : decode cX11_areBothOn 33 = .ok (.ifCond .ne 25, 3) := by decide +kernel
theorem dX11_areBothOn_36 : decode cX11_areBothOn 36 = .ok (.aload_n 0, 1) := by decide +kernel
theorem dX11_areBothOn_37 : decode cX11_areBothOn 37 = .ok (.getfield 36, 3) := by decide +kernel
theorem dX11_areBothOn_40 : decode cX11_areBothOn 40 = .ok (.aload_n 2, 1) := by decide +kernel
theorem dX11_areBothOn_41 : decode cX11_areBothOn 41 = .ok (.aload_n 0, 1) := by decide +kernel
theorem dX11_areBothOn_42 : decode cX11_areBothOn 42 = .ok (.getfield 22, 3) := by decide +kernel
theorem dX11_areBothOn_45 : decode cX11_areBothOn 45 = .ok (.getfield 123, 3) := by decide +kernel
theorem dX11_areBothOn_48 : decode cX11_areBothOn 48 = .ok (.invokevirtual 155, 3) := by decide +kernel
theorem dX11_areBothOn_51 : decode cX11_areBothOn 51 = .ok (.ifCond .ne 7, 3) := by decide +kernel
theorem dX11_areBothOn_54 : decode cX11_areBothOn 54 = .ok (.iconst 1, 1) := by decide +kernel
theorem dX11_areBothOn_55 : decode cX11_areBothOn 55 = .ok (.goto 4, 3) := by decide +kernel
theorem dX11_areBothOn_58 : decode cX11_areBothOn 58 = .ok (.iconst 0, 1) := by decide +kernel
theorem dX11_areBothOn_59 : decode cX11_areBothOn 59 = .ok (.ireturn, 1) := by decide +kernel
theorem dX11_timesBetween_0 : decode cX11_timesBetween 0 = .ok (.iconst 0, 1) := by decide +kernel
theorem dX11_timesBetween_1 : decode cX11_timesBetween 1 = .ok (.istore 5, 2) := by decide +kernel
theorem dX11_timesBetween_3 : decode cX11_timesBetween 3 = .ok (.iload_n 3, 1) := by decide +kernel
theorem dX11_timesBetween_4 : decode cX11_timesBetween 4 = .ok (.istore 6, 2) := by decide +kernel
theorem dX11_timesBetween_6 : decode cX11_timesBetween 6 = .ok (.iload 6, 2) := by decide +kernel
theorem dX11_timesBetween_8 : decode cX11_timesBetween 8 = .ok (.iload 4, 2) := by decide +kernel
theorem dX11_timesBetween_10 : decode cX11_timesBetween 10 = .ok (.if_icmp .ge 50, 3) := by decide +kernel
theorem dX11_timesBetween_13 : decode cX11_timesBetween 13 = .ok (.aload_n 0, 1) := by decide +kernel
theorem dX11_timesBetween_14 : decode cX11_timesBetween 14 = .ok (.aload_n 1, 1) := by decide +kernel
theorem dX11_timesBetween_15 : decode cX11_timesBetween 15 = .ok (.aload_n 2, 1) := by decide +kernel
theorem dX11_timesBetween_16 : decode cX11_timesBetween 16 = .ok (.iload 6, 2) := by decide +kernel
theorem dX11_timesBetween_18 : decode cX11_timesBetween 18 = .ok (.invokevirtual 213, 3) := by decide +kernel
theorem dX11_timesBetween_21 : decode cX11_timesBetween 21 = .ok (.ifCond .ne 6, 3) := by decide +kernel
theorem dX11_timesBetween_24 : decode cX11_timesBetween 24 = .ok (.goto 30, 3) := by decide +kernel
theorem dX11_timesBetween_27 : decode cX11_timesBetween 27 = .ok (.aload_n 0, 1) := by decide +kernel
theorem dX11_timesBetween_28 : decode cX11_timesBetween 28 = .ok (.aload_n 1, 1) := by decide +kernel
theorem dX11_timesBetween_29 : decode cX11_timesBetween 29 = .ok (.aload_n 2, 1) := by decide +kernel
theorem dX11_timesBetween_30 : decode cX11_timesBetween 30 = .ok (.iload 6, 2) := by decide +kernel
theorem dX11_timesBetween_32 : decode cX11_timesBetween 32 = .ok (.invokevirtual 189, 3) := by decide +kernel
theorem dX11_timesBetween_35 : decode cX11_timesBetween 35 = .ok (.istore 7, 2) := by decide +kernel
theorem dX11_timesBetween_37 : decode cX11_timesBetween 37 = .ok (.iload 7, 2) := by decide +kernel
theorem dX11_timesBetween_39 : decode cX11_timesBetween 39 = .ok (.bipush (-2), 2) := by decide +kernel
theorem dX11_timesBetween_41 : decode cX11_timesBetween 41 = .ok (.if_icmp .ne 6, 3) := by decide +kernel
theorem dX11_timesBetween_44 : decode cX11_timesBetween 44 = .ok (.bipush (-2), 2) := by decide +kernel
theorem dX11_timesBetween_46 : decode cX11_timesBetween 46 = .ok (.ireturn, 1) := by decide +kernel
theorem dX11_timesBetween_47 : decode cX11_timesBetween 47 = .ok (.iload 5, 2) := by decide +kernel
theorem dX11_timesBetween_49 : decode cX11_timesBetween 49 = .ok (.iload 7, 2) := by decide +kernel
theorem dX11_timesBetween_51 : decode cX11_timesBetween 51 = .ok (.iadd, 1) := by decide +kernel
theorem dX11_timesBetween_52 : decode cX11_timesBetween 52 = .ok (.istore 5, 2) := by decide +kernel
theorem dX11_timesBetween_54 : decode cX11_timesBetween 54 = .ok (.iinc 6 1, 3) := by decide +kernel
theorem dX11_timesBetween_57 : decode cX11_timesBetween 57 = .ok (.goto (-51), 3) := by decide +kernel
theorem dX11_timesBetween_60 : decode cX11_timesBetween 60 = .ok (.iload 5, 2) := by decide +kernel
theorem dX11_timesBetween_62 : decode cX11_timesBetween 62 = .ok (.ireturn, 1) := by decide +kernel
theorem dX11_forms_0 : decode cX11_forms 0 = .ok (.iload_n 0, 1) := by decide +kernel
theorem dX11_forms_1 : decode cX11_forms 1 = .ok (.ifCond .ge 7, 3) := by decide +kernel
theorem dX11_forms_4 : decode cX11_forms 4 = .ok (.iconst 0, 1) := by decide +kernel
theorem dX11_forms_5 : decode cX11_forms 5 = .ok (.goto 12, 3) := by decide +kernel
theorem dX11_forms_8 : decode cX11_forms 8 = .ok (.iload_n 0, 1) := by decide +kernel
theorem dX11_forms_9 : decode cX11_forms 9 = .ok (.iconst 1, 1) := by decide +kernel
theorem dX11_forms_10 : decode cX11_forms 10 = .ok (.iadd, 1) := by decide +kernel
theorem dX11_forms_11 : decode cX11_forms 11 = .ok (.iload_n 0, 1) := by decide +kernel
theorem dX11_forms_12 : decode cX11_forms 12 = .ok (.iconst 2, 1) := by decide +kernel
theorem dX11_forms_13 : decode cX11_forms 13 = .ok (.iadd, 1) := by decide +kernel
theorem dX11_forms_14 : decode cX11_forms 14 = .ok (.imul, 1) := by decide +kernel
theorem dX11_forms_15 : decode cX11_forms 15 = .ok (.iconst 2, 1) := by decide +kernel
theorem dX11_forms_16 : decode cX11_forms 16 = .ok (.idiv, 1) := by decide +kernel
theorem dX11_forms_17 : decode cX11_forms 17 = .ok (.ireturn, 1) := by decide +kernel
theorem dX11_mod_0 : decode cX11_mod 0 = .ok (.iload_n 1, 1) := by decide +kernel
theorem dX11_mod_1 : decode cX11_mod 1 = .ok (.iconst 2, 1) := by decide +kernel
theorem dX11_mod_2 : decode cX11_mod 2 = .ok (.if_icmp .ge 5, 3) := by decide +kernel
theorem dX11_mod_5 : decode cX11_mod 5 = .ok (.iconst 0, 1) := by decide +kernel
theorem dX11_mod_6 : decode cX11_mod 6 = .ok (.ireturn, 1) := by decide +kernel
theorem dX11_mod_7 : decode cX11_mod 7 = .ok (.iload_n 0, 1) := by decide +kernel
theorem dX11_mod_8 : decode cX11_mod 8 = .ok (.iload_n 1, 1) := by decide +kernel
theorem dX11_mod_9 : decode cX11_mod 9 = .ok (.irem, 1) := by decide +kernel
theorem dX11_mod_10 : decode cX11_mod 10 = .ok (.istore_n 2, 1) := by decide +kernel
theorem dX11_mod_11 : decode cX11_mod 11 = .ok (.iload_n 2, 1) := by decide +kernel
theorem dX11_mod_12 : decode cX11_mod 12 = .ok (.ifCond .ge 9, 3) := by decide +kernel
theorem dX11_mod_15 : decode cX11_mod 15 = .ok (.iload_n 2, 1) := by decide +kernel
theorem dX11_mod_16 : decode cX11_mod 16 = .ok (.iload_n 1, 1) := by decide +kernel
theorem dX11_mod_17 : decode cX11_mod 17 = .ok (.iadd, 1) := by decide +kernel
theorem dX11_mod_18 : decode cX11_mod 18 = .ok (.goto 4, 3) := by decide +kernel
theorem dX11_mod_21 : decode cX11_mod 21 = .ok (.iload_n 2, 1) := by decide +kernel
theorem dX11_mod_22 : decode cX11_mod 22 = .ok (.ireturn, 1) := by decide +kernel
theorem dX11_power_0 : decode cX11_power 0 = .ok (.iconst 1, 1) := by decide +kernel
theorem dX11_power_1 : decode cX11_power 1 = .ok (.istore_n 3, 1) := by decide +kernel
theorem dX11_power_2 : decode cX11_power 2 = .ok (.iconst 0, 1) := by decide +kernel
theorem dX11_power_3 : decode cX11_power 3 = .ok (.istore 4, 2) := by decide +kernel
theorem dX11_power_5 : decode cX11_power 5 = .ok (.iload 4, 2) := by decide +kernel
theorem dX11_power_7 : decode cX11_power 7 = .ok (.iload_n 1, 1) := by decide +kernel
theorem dX11_power_8 : decode cX11_power 8 = .ok (.if_icmp .ge 23, 3) := by decide +kernel
theorem dX11_power_11 : decode cX11_power 11 = .ok (.iload 4, 2) := by decide +kernel
theorem dX11_power_13 : decode cX11_power 13 = .ok (.iconst 4, 1) := by decide +kernel
theorem dX11_power_14 : decode cX11_power 14 = .ok (.if_icmp .ge 17, 3) := by decide +kernel
theorem dX11_power_17 : decode cX11_power 17 = .ok (.iload_n 3, 1) := by decide +kernel
theorem dX11_power_18 : decode cX11_power 18 = .ok (.iload_n 0, 1) := by decide +kernel
theorem dX11_power_19 : decode cX11_power 19 = .ok (.imul, 1) := by decide +kernel
theorem dX11_power_20 : decode cX11_power 20 = .ok (.iload_n 2, 1) := by decide +kernel
theorem dX11_power_21 : decode cX11_power 21 = .ok (.invokestatic 299, 3) := by decide +kernel
theorem dX11_power_24 : decode cX11_power 24 = .ok (.istore_n 3, 1) := by decide +kernel
theorem dX11_power_25 : decode cX11_power 25 = .ok (.iinc 4 1, 3) := by decide +kernel
theorem dX11_power_28 : decode cX11_power 28 = .ok (.goto (-23), 3) := by decide +kernel
theorem dX11_power_31 : decode cX11_power 31 = .ok (.iload_n 3, 1) := by decide +kernel
theorem dX11_power_32 : decode cX11_power 32 = .ok (.ireturn, 1) := by decide +kernel
theorem dX11_inverse_0 : decode cX11_inverse 0 = .ok (.iconst 1, 1) := by decide +kernel
theorem dX11_inverse_1 : decode cX11_inverse 1 = .ok (.istore_n 2, 1) := by decide +kernel
theorem dX11_inverse_2 : decode cX11_inverse 2 = .ok (.iload_n 2, 1) := by decide +kernel
theorem dX11_inverse_3 : decode cX11_inverse 3 = .ok (.iload_n 1, 1) := by decide +kernel
theorem dX11_inverse_4 : decode cX11_inverse 4 = .ok (.if_icmp .ge 25, 3) := by decide +kernel
theorem dX11_inverse_7 : decode cX11_inverse 7 = .ok (.iload_n 1, 1) := by decide +kernel
theorem dX11_inverse_8 : decode cX11_inverse 8 = .ok (.iconst 1, 1) := by decide +kernel
theorem dX11_inverse_9 : decode cX11_inverse 9 = .ok (.if_icmp .le 20, 3) := by decide +kernel
theorem dX11_inverse_12 : decode cX11_inverse 12 = .ok (.iload_n 0, 1) := by decide +kernel
theorem dX11_inverse_13 : decode cX11_inverse 13 = .ok (.iload_n 2, 1) := by decide +kernel
theorem dX11_inverse_14 : decode cX11_inverse 14 = .ok (.imul, 1) := by decide +kernel
theorem dX11_inverse_15 : decode cX11_inverse 15 = .ok (.iload_n 1, 1) := by decide +kernel
theorem dX11_inverse_16 : decode cX11_inverse 16 = .ok (.irem, 1) := by decide +kernel
theorem dX11_inverse_17 : decode cX11_inverse 17 = .ok (.iconst 1, 1) := by decide +kernel
theorem dX11_inverse_18 : decode cX11_inverse 18 = .ok (.if_icmp .ne 5, 3) := by decide +kernel
theorem dX11_inverse_21 : decode cX11_inverse 21 = .ok (.iload_n 2, 1) := by decide +kernel
theorem dX11_inverse_22 : decode cX11_inverse 22 = .ok (.ireturn, 1) := by decide +kernel
theorem dX11_inverse_23 : decode cX11_inverse 23 = .ok (.iinc 2 1, 3) := by decide +kernel
theorem dX11_inverse_26 : decode cX11_inverse 26 = .ok (.goto (-24), 3) := by decide +kernel
theorem dX11_inverse_29 : decode cX11_inverse 29 = .ok (.iconst 0, 1) := by decide +kernel
theorem dX11_inverse_30 : decode cX11_inverse 30 = .ok (.ireturn, 1) := by decide +kernel
theorem dJ5_init_d00df_0 : decode cJ5_init_d00df 0 = .ok (.aload_n 0, 1) := by decide +kernel
theorem dJ5_init_d00df_1 : decode cJ5_init_d00df 1 = .ok (.invokespecial 3, 3) := by decide +kernel
theorem dJ5_init_d00df_4 : decode cJ5_init_d00df 4 = .ok (.getstatic 18, 3) := by decide +kernel
theorem dJ5_init_d00df_7 : decode cJ5_init_d00df 7 = .ok (.ifCond .eq 18, 3) := by decide +kernel
theorem dJ5_init_d00df_10 : decode cJ5_init_d00df 10 = .ok (.aload_n 0, 1) := by decide +kernel
theorem dJ5_init_d00df_11 : decode cJ5_init_d00df 11 = .ok (.iload_n 1, 1) := by decide +kernel
theorem dJ5_init_d00df_12 : decode cJ5_init_d00df 12 = .ok (.newarray .byte, 2) := by decide +kernel
theorem dJ5_init_d00df_14 : decode cJ5_init_d00df 14 = .ok (.putfield 15, 3) := by decide +kernel
theorem dJ5_init_d00df_17 : decode cJ5_init_d00df 17 = .ok (.aload_n 0, 1) := by decide +kernel
theorem dJ5_init_d00df_18 : decode cJ5_init_d00df 18 = .ok (.iconst 0, 1) := by decide +kernel
theorem dJ5_init_d00df_19 : decode cJ5_init_d00df 19 = .ok (.putfield 22, 3) := by decide +kernel
theorem dJ5_init_d00df_22 : decode cJ5_init_d00df 22 = .ok (.goto 16, 3) := by decide +kernel
theorem dJ5_init_d00df_25 : decode cJ5_init_d00df 25 = .ok (.aload_n 0, 1) := by decide +kernel
theorem dJ5_init_d00df_26 : decode cJ5_init_d00df 26 = .ok (.iload_n 1, 1) := by decide +kernel
theorem dJ5_init_d00df_27 : decode cJ5_init_d00df 27 = .ok (.invokestatic 26, 3) := by decide +kernel
theorem dJ5_init_d00df_30 : decode cJ5_init_d00df 30 = .ok (.putfield 15, 3) := by decide +kernel
theorem dJ5_init_d00df_33 : decode cJ5_init_d00df 33 = .ok (.aload_n 0, 1) := by decide +kernel
theorem dJ5_init_d00df_34 : decode cJ5_init_d00df 34 = .ok (.iconst 1, 1) := by decide +kernel
theorem dJ5_init_d00df_35 : decode cJ5_init_d00df 35 = .ok (.putfield 22, 3) := by decide +kernel
theorem dJ5_init_d00df_38 : decode cJ5_init_d00df 38 = .ok (.return_, 1) := by decide +kernel
theorem dJ5_init_a7421_0 : decode cJ5_init_a7421 0 = .ok (.aload_n 0, 1) := by decide +kernel
theorem dJ5_init_a7421_1 : decode cJ5_init_a7421 1 = .ok (.invokespecial 3, 3) := by decide +kernel
theorem dJ5_init_a7421_4 : decode cJ5_init_a7421 4 = .ok (.aload_n 1, 1) := by decide +kernel
theorem dJ5_init_a7421_5 : decode cJ5_init_a7421 5 = .ok (.invokevirtual 32, 3) := by decide +kernel
theorem dJ5_init_a7421_8 : decode cJ5_init_a7421 8 = .ok (.istore_n 2, 1) := by decide +kernel
theorem dJ5_init_a7421_9 : decode cJ5_init_a7421 9 = .ok (.iload_n 2, 1) := by decide +kernel
theorem dJ5_init_a7421_10 : decode cJ5_init_a7421 10 = .ok (.ldc 38, 2) := by decide +kernel
theorem dJ5_init_a7421_12 : decode cJ5_init_a7421 12 = .ok (.if_icmp .ge 10, 3) := by decide +kernel
theorem dJ5_init_a7421_15 : decode cJ5_init_a7421 15 = .ok (.iload_n 2, 1) := by decide +kernel
theorem dJ5_init_a7421_16 : decode cJ5_init_a7421 16 = .ok (.bipush 16, 2) := by decide +kernel
theorem dJ5_init_a7421_18 : decode cJ5_init_a7421 18 = .ok (.iadd, 1) := by decide +kernel
theorem dJ5_init_a7421_19 : decode cJ5_init_a7421 19 = .ok (.goto 5, 3) := by decide +kernel
theorem dJ5_init_a7421_22 : decode cJ5_init_a7421 22 = .ok (.ldc 39, 2) := by decide +kernel
theorem dJ5_init_a7421_24 : decode cJ5_init_a7421 24 = .ok (.istore_n 3, 1) := by decide +kernel
theorem dJ5_init_a7421_25 : decode cJ5_init_a7421 25 = .ok (.aload_n 1, 1) := by decide +kernel
theorem dJ5_init_a7421_26 : decode cJ5_init_a7421 26 = .ok (.invokevirtual 40, 3) := by decide +kernel
theorem dJ5_init_a7421_29 : decode cJ5_init_a7421 29 = .ok (.istore 4, 2) := by decide +kernel
theorem dJ5_init_a7421_31 : decode cJ5_init_a7421 31 = .ok (.aload_n 0, 1) := by decide +kernel
theorem dJ5_init_a7421_32 : decode cJ5_init_a7421 32 = .ok (.iload 4, 2) := by decide +kernel
theorem dJ5_init_a7421_34 : decode cJ5_init_a7421 34 = .ok (.putfield 22, 3) := by decide +kernel
theorem dJ5_init_a7421_37 : decode cJ5_init_a7421 37 = .ok (.aload_n 0, 1) := by decide +kernel
theorem dJ5_init_a7421_38 : decode cJ5_init_a7421 38 = .ok (.iload 4, 2) := by decide +kernel
theorem dJ5_init_a7421_40 : decode cJ5_init_a7421 40 = .ok (.ifCond .ne 9, 3) := by decide +kernel
theorem dJ5_init_a7421_43 : decode cJ5_init_a7421 43 = .ok (.iload_n 3, 1) := by decide +kernel
theorem dJ5_init_a7421_44 : decode cJ5_init_a7421 44 = .ok (.newarray .byte, 2) := by decide +kernel
theorem dJ5_init_a7421_46 : decode cJ5_init_a7421 46 = .ok (.goto 7, 3) := by decide +kernel
theorem dJ5_init_a7421_49 : decode cJ5_init_a7421 49 = .ok (.iload_n 3, 1) := by decide +kernel
theorem dJ5_init_a7421_50 : decode cJ5_init_a7421 50 = .ok (.invokestatic 26, 3) := by decide +kernel
theorem dJ5_init_a7421_53 : decode cJ5_init_a7421 53 = .ok (.putfield 15, 3) := by decide +kernel
theorem dJ5_init_a7421_56 : decode cJ5_init_a7421 56 = .ok (.aload_n 0, 1) := by decide +kernel
theorem dJ5_init_a7421_57 : decode cJ5_init_a7421 57 = .ok (.aload_n 1, 1) := by decide +kernel
theorem dJ5_init_a7421_58 : decode cJ5_init_a7421 58 = .ok (.invokevirtual 43, 3) := by decide +kernel
theorem dJ5_init_a7421_61 : decode cJ5_init_a7421 61 = .ok (.pop, 1) := by decide +kernel
theorem dJ5_init_a7421_62 : decode cJ5_init_a7421 62 = .ok (.return_, 1) := by decide +kernel
theorem dJ5_length_8abf5_0 : decode cJ5_length_8abf5 0 = .ok (.aload_n 0, 1) := by decide +kernel
theorem dJ5_length_8abf5_1 : decode cJ5_length_8abf5 1 = .ok (.getfield 79, 3) := by decide +kernel
theorem dJ5_length_8abf5_4 : decode cJ5_length_8abf5 4 = .ok (.ireturn, 1) := by decide +kernel
theorem dJ5_ensureCapacityInternal_d00df_0 : decode cJ5_ensureCapacityInternal_d00df 0 = .ok (.aload_n 0, 1) := by decide +kernel
theorem dJ5_ensureCapacityInternal_d00df_1 : decode cJ5_ensureCapacityInternal_d00df 1 = .ok (.getfield 15, 3) := by decide +kernel
theorem dJ5_ensureCapacityInternal_d00df_4 : decode cJ5_ensureCapacityInternal_d00df 4 = .ok (.arraylength, 1) := by decide +kernel
theorem dJ5_ensureCapacityInternal_d00df_5 : decode cJ5_ensureCapacityInternal_d00df 5 = .ok (.aload_n 0, 1) := by decide +kernel
theorem dJ5_ensureCapacityInternal_d00df_6 : decode cJ5_ensureCapacityInternal_d00df 6 = .ok (.getfield 22, 3) := by decide +kernel
theorem dJ5_ensureCapacityInternal_d00df_9 : decode cJ5_ensureCapacityInternal_d00df 9 = .ok (.ishr, 1) := by decide +kernel
theorem dJ5_ensureCapacityInternal_d00df_10 : decode cJ5_ensureCapacityInternal_d00df 10 = .ok (.istore_n 2, 1) := by decide +kernel
theorem dJ5_ensureCapacityInternal_d00df_11 : decode cJ5_ensureCapacityInternal_d00df 11 = .ok (.iload_n 1, 1) := by decide +kernel
theorem dJ5_ensureCapacityInternal_d00df_12 : decode cJ5_ensureCapacityInternal_d00df 12 = .ok (.iload_n 2, 1) := by decide +kernel
theorem dJ5_ensureCapacityInternal_d00df_13 : decode cJ5_ensureCapacityInternal_d00df 13 = .ok (.isub, 1) := by decide +kernel
theorem dJ5_ensureCapacityInternal_d00df_14 : decode cJ5_ensureCapacityInternal_d00df 14 = .ok (.ifCond .le 24, 3) := by decide +kernel
theorem dJ5_ensureCapacityInternal_d00df_17 : decode cJ5_ensureCapacityInternal_d00df 17 = .ok (.aload_n 0, 1) := by decide +kernel
theorem dJ5_ensureCapacityInternal_d00df_18 : decode cJ5_ensureCapacityInternal_d00df 18 = .ok (.aload_n 0, 1) := by decide +kernel
theorem dJ5_ensureCapacityInternal_d00df_19 : decode cJ5_ensureCapacityInternal_d00df 19 = .ok (.getfield 15, 3) := by decide +kernel
theorem dJ5_ensureCapacityInternal_d00df_22 : decode cJ5_ensureCapacityInternal_d00df 22 = .ok (.aload_n 0, 1) := by decide +kernel
theorem dJ5_ensureCapacityInternal_d00df_23 : decode cJ5_ensureCapacityInternal_d00df 23 = .ok (.iload_n 1, 1) := by decide +kernel
theorem dJ5_ensureCapacityInternal_d00df_24 : decode cJ5_ensureCapacityInternal_d00df 24 = .ok (.invokevirtual 104, 3) := by decide +kernel
theorem dJ5_ensureCapacityInternal_d00df_27 : decode cJ5_ensureCapacityInternal_d00df 27 = .ok (.aload_n 0, 1) := by decide +kernel
theorem dJ5_ensureCapacityInternal_d00df_28 : decode cJ5_ensureCapacityInternal_d00df 28 = .ok (.getfield 22, 3) := by decide +kernel
theorem dJ5_ensureCapacityInternal_d00df_31 : decode cJ5_ensureCapacityInternal_d00df 31 = .ok (.ishl, 1) := by decide +kernel
theorem dJ5_ensureCapacityInternal_d00df_32 : decode cJ5_ensureCapacityInternal_d00df 32 = .ok (.invokestatic 108, 3) := by decide +kernel
theorem dJ5_ensureCapacityInternal_d00df_35 : decode cJ5_ensureCapacityInternal_d00df 35 = .ok (.putfield 15, 3) := by decide +kernel
theorem dJ5_ensureCapacityInternal_d00df_38 : decode cJ5_ensureCapacityInternal_d00df 38 = .ok (.return_, 1) := by decide +kernel
theorem dJ5_newCapacity_0f7a4_0 : decode cJ5_newCapacity_0f7a4 0 = .ok (.aload_n 0, 1) := by decide +kernel
theorem dJ5_newCapacity_0f7a4_1 : decode cJ5_newCapacity_0f7a4 1 = .ok (.getfield 15, 3) := by decide +kernel
theorem dJ5_newCapacity_0f7a4_4 : decode cJ5_newCapacity_0f7a4 4 = .ok (.arraylength, 1) := by decide +kernel
theorem dJ5_newCapacity_0f7a4_5 : decode cJ5_newCapacity_0f7a4 5 = .ok (.istore_n 2, 1) := by decide +kernel
theorem dJ5_newCapacity_0f7a4_6 : decode cJ5_newCapacity_0f7a4 6 = .ok (.iload_n 1, 1) := by decide +kernel
theorem dJ5_newCapacity_0f7a4_7 : decode cJ5_newCapacity_0f7a4 7 = .ok (.aload_n 0, 1) := by decide +kernel
theorem dJ5_newCapacity_0f7a4_8 : decode cJ5_newCapacity_0f7a4 8 = .ok (.getfield 22, 3) := by decide +kernel
theorem dJ5_newCapacity_0f7a4_11 : decode cJ5_newCapacity_0f7a4 11 = .ok (.ishl, 1) := by decide +kernel
theorem dJ5_newCapacity_0f7a4_12 : decode cJ5_newCapacity_0f7a4 12 = .ok (.istore_n 3, 1) := by decide +kernel
theorem dJ5_newCapacity_0f7a4_13 : decode cJ5_newCapacity_0f7a4 13 = .ok (.iload_n 3, 1) := by decide +kernel
theorem dJ5_newCapacity_0f7a4_14 : decode cJ5_newCapacity_0f7a4 14 = .ok (.iload_n 2, 1) := by decide +kernel
theorem dJ5_newCapacity_0f7a4_15 : decode cJ5_newCapacity_0f7a4 15 = .ok (.isub, 1) := by decide +kernel
theorem dJ5_newCapacity_0f7a4_16 : decode cJ5_newCapacity_0f7a4 16 = .ok (.istore 4, 2) := by decide +kernel
theorem dJ5_newCapacity_0f7a4_18 : decode cJ5_newCapacity_0f7a4 18 = .ok (.iload_n 2, 1) := by decide +kernel
theorem dJ5_newCapacity_0f7a4_19 : decode cJ5_newCapacity_0f7a4 19 = .ok (.iload 4, 2) := by decide +kernel
theorem dJ5_newCapacity_0f7a4_21 : decode cJ5_newCapacity_0f7a4 21 = .ok (.iload_n 2, 1) := by decide +kernel
theorem dJ5_newCapacity_0f7a4_22 : decode cJ5_newCapacity_0f7a4 22 = .ok (.iconst 2, 1) := by decide +kernel
theorem dJ5_newCapacity_0f7a4_23 : decode cJ5_newCapacity_0f7a4 23 = .ok (.aload_n 0, 1) := by decide +kernel
theorem dJ5_newCapacity_0f7a4_24 : decode cJ5_newCapacity_0f7a4 24 = .ok (.getfield 22, 3) := by decide +kernel
theorem dJ5_newCapacity_0f7a4_27 : decode cJ5_newCapacity_0f7a4 27 = .ok (.ishl, 1) := by decide +kernel
theorem dJ5_newCapacity_0f7a4_28 : decode cJ5_newCapacity_0f7a4 28 = .ok (.iadd, 1) := by decide +kernel
theorem dJ5_newCapacity_0f7a4_29 : decode cJ5_newCapacity_0f7a4 29 = .ok (.invokestatic 114, 3) := by decide +kernel
theorem dJ5_newCapacity_0f7a4_32 : decode cJ5_newCapacity_0f7a4 32 = .ok (.istore 5, 2) := by decide +kernel
theorem dJ5_newCapacity_0f7a4_34 : decode cJ5_newCapacity_0f7a4 34 = .ok (.iload 5, 2) := by decide +kernel
theorem dJ5_newCapacity_0f7a4_36 : decode cJ5_newCapacity_0f7a4 36 = .ok (.ldc 39, 2) := by decide +kernel
theorem dJ5_newCapacity_0f7a4_38 : decode cJ5_newCapacity_0f7a4 38 = .ok (.if_icmp .ne 13, 3) := by decide +kernel
theorem dJ5_newCapacity_0f7a4_41 : decode cJ5_newCapacity_0f7a4 41 = .ok (.new 120, 3) := by decide +kernel
theorem dJ5_newCapacity_0f7a4_44 : decode cJ5_newCapacity_0f7a4 44 = .ok (.dup, 1) := by decide +kernel
theorem dJ5_newCapacity_0f7a4_45 : decode cJ5_newCapacity_0f7a4 45 = .ok (.ldc 122, 2) := by decide +kernel
theorem dJ5_newCapacity_0f7a4_47 : decode cJ5_newCapacity_0f7a4 47 = .ok (.invokespecial 124, 3) := by decide +kernel
theorem dJ5_newCapacity_0f7a4_50 : decode cJ5_newCapacity_0f7a4 50 = .ok (.athrow, 1) := by decide +kernel
theorem dJ5_newCapacity_0f7a4_51 : decode cJ5_newCapacity_0f7a4 51 = .ok (.iload 5, 2) := by decide +kernel
theorem dJ5_newCapacity_0f7a4_53 : decode cJ5_newCapacity_0f7a4 53 = .ok (.aload_n 0, 1) := by decide +kernel
theorem dJ5_newCapacity_0f7a4_54 : decode cJ5_newCapacity_0f7a4 54 = .ok (.getfield 22, 3) := by decide +kernel
theorem dJ5_newCapacity_0f7a4_57 : decode cJ5_newCapacity_0f7a4 57 = .ok (.ishr, 1) := by decide +kernel
theorem dJ5_newCapacity_0f7a4_58 : decode cJ5_newCapacity_0f7a4 58 = .ok (.ireturn, 1) := by decide +kernel
theorem dJ5_inflate_da8c8_0 : decode cJ5_inflate_da8c8 0 = .ok (.aload_n 0, 1) := by decide +kernel
theorem dJ5_inflate_da8c8_1 : decode cJ5_inflate_da8c8 1 = .ok (.invokevirtual 83, 3) := by decide +kernel
theorem dJ5_inflate_da8c8_4 : decode cJ5_inflate_da8c8 4 = .ok (.ifCond .ne 4, 3) := by decide +kernel
theorem dJ5_inflate_da8c8_7 : decode cJ5_inflate_da8c8 7 = .ok (.return_, 1) := by decide +kernel
theorem dJ5_inflate_da8c8_8 : decode cJ5_inflate_da8c8 8 = .ok (.aload_n 0, 1) := by decide +kernel
theorem dJ5_inflate_da8c8_9 : decode cJ5_inflate_da8c8 9 = .ok (.getfield 15, 3) := by decide +kernel
theorem dJ5_inflate_da8c8_12 : decode cJ5_inflate_da8c8 12 = .ok (.arraylength, 1) := by decide +kernel
theorem dJ5_inflate_da8c8_13 : decode cJ5_inflate_da8c8 13 = .ok (.invokestatic 26, 3) := by decide +kernel
theorem dJ5_inflate_da8c8_16 : decode cJ5_inflate_da8c8 16 = .ok (.astore_n 1, 1) := by decide +kernel
theorem dJ5_inflate_da8c8_17 : decode cJ5_inflate_da8c8 17 = .ok (.aload_n 0, 1) := by decide +kernel
theorem dJ5_inflate_da8c8_18 : decode cJ5_inflate_da8c8 18 = .ok (.getfield 15, 3) := by decide +kernel
theorem dJ5_inflate_da8c8_21 : decode cJ5_inflate_da8c8 21 = .ok (.iconst 0, 1) := by decide +kernel
theorem dJ5_inflate_da8c8_22 : decode cJ5_inflate_da8c8 22 = .ok (.aload_n 1, 1) := by decide +kernel
theorem dJ5_inflate_da8c8_23 : decode cJ5_inflate_da8c8 23 = .ok (.iconst 0, 1) := by decide +kernel
theorem dJ5_inflate_da8c8_24 : decode cJ5_inflate_da8c8 24 = .ok (.aload_n 0, 1) := by decide +kernel
theorem dJ5_inflate_da8c8_25 : decode cJ5_inflate_da8c8 25 = .ok (.getfield 79, 3) := by decide +kernel
theorem dJ5_inflate_da8c8_28 : decode cJ5_inflate_da8c8 28 = .ok (.invokestatic 125, 3) := by decide +kernel
theorem dJ5_inflate_da8c8_31 : decode cJ5_inflate_da8c8 31 = .ok (.aload_n 0, 1) := by decide +kernel
theorem dJ5_inflate_da8c8_32 : decode cJ5_inflate_da8c8 32 = .ok (.aload_n 1, 1) := by decide +kernel
theorem dJ5_inflate_da8c8_33 : decode cJ5_inflate_da8c8 33 = .ok (.putfield 15, 3) := by decide +kernel
theorem dJ5_inflate_da8c8_36 : decode cJ5_inflate_da8c8 36 = .ok (.aload_n 0, 1) := by decide +kernel
theorem dJ5_inflate_da8c8_37 : decode cJ5_inflate_da8c8 37 = .ok (.iconst 1, 1) := by decide +kernel
theorem dJ5_inflate_da8c8_38 : decode cJ5_inflate_da8c8 38 = .ok (.putfield 22, 3) := by decide +kernel
theorem dJ5_inflate_da8c8_41 : decode cJ5_inflate_da8c8 41 = .ok (.return_, 1) := by decide +kernel
theorem dJ5_append_cf1ce_0 : decode cJ5_append_cf1ce 0 = .ok (.aload_n 1, 1) := by decide +kernel
theorem dJ5_append_cf1ce_1 : decode cJ5_append_cf1ce 1 = .ok (.ifnonnull 8, 3) := by decide +kernel
theorem dJ5_append_cf1ce_4 : decode cJ5_append_cf1ce 4 = .ok (.aload_n 0, 1) := by decide +kernel
theorem dJ5_append_cf1ce_5 : decode cJ5_append_cf1ce 5 = .ok (.invokevirtual 204, 3) := by decide +kernel
theorem dJ5_append_cf1ce_8 : decode cJ5_append_cf1ce 8 = .ok (.areturn, 1) := by decide +kernel
theorem dJ5_append_cf1ce_9 : decode cJ5_append_cf1ce 9 = .ok (.aload_n 1, 1) := by decide +kernel
theorem dJ5_append_cf1ce_10 : decode cJ5_append_cf1ce 10 = .ok (.invokevirtual 32, 3) := by decide +kernel
theorem dJ5_append_cf1ce_13 : decode cJ5_append_cf1ce 13 = .ok (.istore_n 2, 1) := by decide +kernel
theorem dJ5_append_cf1ce_14 : decode cJ5_append_cf1ce 14 = .ok (.aload_n 0, 1) := by decide +kernel
theorem dJ5_append_cf1ce_15 : decode cJ5_append_cf1ce 15 = .ok (.aload_n 0, 1) := by decide +kernel
theorem dJ5_append_cf1ce_16 : decode cJ5_append_cf1ce 16 = .ok (.getfield 79, 3) := by decide +kernel
theorem dJ5_append_cf1ce_19 : decode cJ5_append_cf1ce 19 = .ok (.iload_n 2, 1) := by decide +kernel
theorem dJ5_append_cf1ce_20 : decode cJ5_append_cf1ce 20 = .ok (.iadd, 1) := by decide +kernel
theorem dJ5_append_cf1ce_21 : decode cJ5_append_cf1ce 21 = .ok (.invokevirtual 100, 3) := by decide +kernel
theorem dJ5_append_cf1ce_24 : decode cJ5_append_cf1ce 24 = .ok (.aload_n 0, 1) := by decide +kernel
theorem dJ5_append_cf1ce_25 : decode cJ5_append_cf1ce 25 = .ok (.aload_n 0, 1) := by decide +kernel
theorem dJ5_append_cf1ce_26 : decode cJ5_append_cf1ce 26 = .ok (.getfield 79, 3) := by decide +kernel
theorem dJ5_append_cf1ce_29 : decode cJ5_append_cf1ce 29 = .ok (.aload_n 1, 1) := by decide +kernel
theorem dJ5_append_cf1ce_30 : decode cJ5_append_cf1ce 30 = .ok (.invokevirtual 208, 3) := by decide +kernel
theorem dJ5_append_cf1ce_33 : decode cJ5_append_cf1ce 33 = .ok (.aload_n 0, 1) := by decide +kernel
theorem dJ5_append_cf1ce_34 : decode cJ5_append_cf1ce 34 = .ok (.dup, 1) := by decide +kernel
theorem dJ5_append_cf1ce_35 : decode cJ5_append_cf1ce 35 = .ok (.getfield 79, 3) := by decide +kernel
theorem dJ5_append_cf1ce_38 : decode cJ5_append_cf1ce 38 = .ok (.iload_n 2, 1) := by decide +kernel
theorem dJ5_append_cf1ce_39 : decode cJ5_append_cf1ce 39 = .ok (.iadd, 1) := by decide +kernel
theorem dJ5_append_cf1ce_40 : decode cJ5_append_cf1ce 40 = .ok (.putfield 79, 3) := by decide +kernel
theorem dJ5_append_cf1ce_43 : decode cJ5_append_cf1ce 43 = .ok (.aload_n 0, 1) := by decide +kernel
theorem dJ5_append_cf1ce_44 : decode cJ5_append_cf1ce 44 = .ok (.areturn, 1) := by decide +kernel
theorem dJ5_appendNull_278bc_0 : decode cJ5_appendNull_278bc 0 = .ok (.aload_n 0, 1) := by decide +kernel
theorem dJ5_appendNull_278bc_1 : decode cJ5_appendNull_278bc 1 = .ok (.aload_n 0, 1) := by decide +kernel
theorem dJ5_appendNull_278bc_2 : decode cJ5_appendNull_278bc 2 = .ok (.getfield 79, 3) := by decide +kernel
theorem dJ5_appendNull_278bc_5 : decode cJ5_appendNull_278bc 5 = .ok (.iconst 4, 1) := by decide +kernel
theorem dJ5_appendNull_278bc_6 : decode cJ5_appendNull_278bc 6 = .ok (.iadd, 1) := by decide +kernel
theorem dJ5_appendNull_278bc_7 : decode cJ5_appendNull_278bc 7 = .ok (.invokevirtual 100, 3) := by decide +kernel
theorem dJ5_appendNull_278bc_10 : decode cJ5_appendNull_278bc 10 = .ok (.aload_n 0, 1) := by decide +kernel
theorem dJ5_appendNull_278bc_11 : decode cJ5_appendNull_278bc 11 = .ok (.getfield 79, 3) := by decide +kernel
theorem dJ5_appendNull_278bc_14 : decode cJ5_appendNull_278bc 14 = .ok (.istore_n 1, 1) := by decide +kernel
theorem dJ5_appendNull_278bc_15 : decode cJ5_appendNull_278bc 15 = .ok (.aload_n 0, 1) := by decide +kernel
theorem dJ5_appendNull_278bc_16 : decode cJ5_appendNull_278bc 16 = .ok (.getfield 15, 3) := by decide +kernel
theorem dJ5_appendNull_278bc_19 : decode cJ5_appendNull_278bc 19 = .ok (.astore_n 2, 1) := by decide +kernel
theorem dJ5_appendNull_278bc_20 : decode cJ5_appendNull_278bc 20 = .ok (.aload_n 0, 1) := by decide +kernel
theorem dJ5_appendNull_278bc_21 : decode cJ5_appendNull_278bc 21 = .ok (.invokevirtual 83, 3) := by decide +kernel
theorem dJ5_appendNull_278bc_24 : decode cJ5_appendNull_278bc 24 = .ok (.ifCond .eq 38, 3) := by decide +kernel
theorem dJ5_appendNull_278bc_27 : decode cJ5_appendNull_278bc 27 = .ok (.aload_n 2, 1) := by decide +kernel
theorem dJ5_appendNull_278bc_28 : decode cJ5_appendNull_278bc 28 = .ok (.iload_n 1, 1) := by decide +kernel
theorem dJ5_appendNull_278bc_29 : decode cJ5_appendNull_278bc 29 = .ok (.iinc 1 1, 3) := by decide +kernel
theorem dJ5_appendNull_278bc_32 : decode cJ5_appendNull_278bc 32 = .ok (.bipush 110, 2) := by decide +kernel
theorem dJ5_appendNull_278bc_34 : decode cJ5_appendNull_278bc 34 = .ok (.bastore, 1) := by decide +kernel
theorem dJ5_appendNull_278bc_35 : decode cJ5_appendNull_278bc 35 = .ok (.aload_n 2, 1) := by decide +kernel
theorem dJ5_appendNull_278bc_36 : decode cJ5_appendNull_278bc 36 = .ok (.iload_n 1, 1) := by decide +kernel
theorem dJ5_appendNull_278bc_37 : decode cJ5_appendNull_278bc 37 = .ok (.iinc 1 1, 3) := by decide +kernel
theorem dJ5_appendNull_278bc_40 : decode cJ5_appendNull_278bc 40 = .ok (.bipush 117, 2) := by decide +kernel
theorem dJ5_appendNull_278bc_42 : decode cJ5_appendNull_278bc 42 = .ok (.bastore, 1) := by decide +kernel
theorem dJ5_appendNull_278bc_43 : decode cJ5_appendNull_278bc 43 = .ok (.aload_n 2, 1) := by decide +kernel
theorem dJ5_appendNull_278bc_44 : decode cJ5_appendNull_278bc 44 = .ok (.iload_n 1, 1) := by decide +kernel
theorem dJ5_appendNull_278bc_45 : decode cJ5_appendNull_278bc 45 = .ok (.iinc 1 1, 3) := by decide +kernel
theorem dJ5_appendNull_278bc_48 : decode cJ5_appendNull_278bc 48 = .ok (.bipush 108, 2) := by decide +kernel
theorem dJ5_appendNull_278bc_50 : decode cJ5_appendNull_278bc 50 = .ok (.bastore, 1) := by decide +kernel
theorem dJ5_appendNull_278bc_51 : decode cJ5_appendNull_278bc 51 = .ok (.aload_n 2, 1) := by decide +kernel
theorem dJ5_appendNull_278bc_52 : decode cJ5_appendNull_278bc 52 = .ok (.iload_n 1, 1) := by decide +kernel
theorem dJ5_appendNull_278bc_53 : decode cJ5_appendNull_278bc 53 = .ok (.iinc 1 1, 3) := by decide +kernel
theorem dJ5_appendNull_278bc_56 : decode cJ5_appendNull_278bc 56 = .ok (.bipush 108, 2) := by decide +kernel
theorem dJ5_appendNull_278bc_58 : decode cJ5_appendNull_278bc 58 = .ok (.bastore, 1) := by decide +kernel
theorem dJ5_appendNull_278bc_59 : decode cJ5_appendNull_278bc 59 = .ok (.goto 17, 3) := by decide +kernel
theorem dJ5_appendNull_278bc_62 : decode cJ5_appendNull_278bc 62 = .ok (.aload_n 2, 1) := by decide +kernel
theorem dJ5_appendNull_278bc_63 : decode cJ5_appendNull_278bc 63 = .ok (.iload_n 1, 1) := by decide +kernel
theorem dJ5_appendNull_278bc_64 : decode cJ5_appendNull_278bc 64 = .ok (.bipush 110, 2) := by decide +kernel
theorem dJ5_appendNull_278bc_66 : decode cJ5_appendNull_278bc 66 = .ok (.bipush 117, 2) := by decide +kernel
theorem dJ5_appendNull_278bc_68 : decode cJ5_appendNull_278bc 68 = .ok (.bipush 108, 2) := by decide +kernel
theorem dJ5_appendNull_278bc_70 : decode cJ5_appendNull_278bc 70 = .ok (.bipush 108, 2) := by decide +kernel
theorem dJ5_appendNull_278bc_72 : decode cJ5_appendNull_278bc 72 = .ok (.invokestatic 226, 3) := by decide +kernel
theorem dJ5_appendNull_278bc_75 : decode cJ5_appendNull_278bc 75 = .ok (.istore_n 1, 1) := by decide +kernel
theorem dJ5_appendNull_278bc_76 : decode cJ5_appendNull_278bc 76 = .ok (.aload_n 0, 1) := by decide +kernel
theorem dJ5_appendNull_278bc_77 : decode cJ5_appendNull_278bc 77 = .ok (.iload_n 1, 1) := by decide +kernel
theorem dJ5_appendNull_278bc_78 : decode cJ5_appendNull_278bc 78 = .ok (.putfield 79, 3) := by decide +kernel
theorem dJ5_appendNull_278bc_81 : decode cJ5_appendNull_278bc 81 = .ok (.aload_n 0, 1) := by decide +kernel
theorem dJ5_appendNull_278bc_82 : decode cJ5_appendNull_278bc 82 = .ok (.areturn, 1) := by decide +kernel
theorem dJ5_append_c97b9_0 : decode cJ5_append_c97b9 0 = .ok (.aload_n 0, 1) := by decide +kernel
theorem dJ5_append_c97b9_1 : decode cJ5_append_c97b9 1 = .ok (.getfield 79, 3) := by decide +kernel
theorem dJ5_append_c97b9_4 : decode cJ5_append_c97b9 4 = .ok (.istore_n 2, 1) := by decide +kernel
theorem dJ5_append_c97b9_5 : decode cJ5_append_c97b9 5 = .ok (.iload_n 2, 1) := by decide +kernel
theorem dJ5_append_c97b9_6 : decode cJ5_append_c97b9 6 = .ok (.iload_n 1, 1) := by decide +kernel
theorem dJ5_append_c97b9_7 : decode cJ5_append_c97b9 7 = .ok (.invokestatic 245, 3) := by decide +kernel
theorem dJ5_append_c97b9_10 : decode cJ5_append_c97b9 10 = .ok (.iadd, 1) := by decide +kernel
theorem dJ5_append_c97b9_11 : decode cJ5_append_c97b9 11 = .ok (.istore_n 3, 1) := by decide +kernel
theorem dJ5_append_c97b9_12 : decode cJ5_append_c97b9 12 = .ok (.aload_n 0, 1) := by decide +kernel
theorem dJ5_append_c97b9_13 : decode cJ5_append_c97b9 13 = .ok (.iload_n 3, 1) := by decide +kernel
theorem dJ5_append_c97b9_14 : decode cJ5_append_c97b9 14 = .ok (.invokevirtual 100, 3) := by decide +kernel
theorem dJ5_append_c97b9_17 : decode cJ5_append_c97b9 17 = .ok (.aload_n 0, 1) := by decide +kernel
theorem dJ5_append_c97b9_18 : decode cJ5_append_c97b9 18 = .ok (.invokevirtual 83, 3) := by decide +kernel
theorem dJ5_append_c97b9_21 : decode cJ5_append_c97b9 21 = .ok (.ifCond .eq 16, 3) := by decide +kernel
theorem dJ5_append_c97b9_24 : decode cJ5_append_c97b9 24 = .ok (.iload_n 1, 1) := by decide +kernel
theorem dJ5_append_c97b9_25 : decode cJ5_append_c97b9 25 = .ok (.iload_n 3, 1) := by decide +kernel
theorem dJ5_append_c97b9_26 : decode cJ5_append_c97b9 26 = .ok (.aload_n 0, 1) := by decide +kernel
theorem dJ5_append_c97b9_27 : decode cJ5_append_c97b9 27 = .ok (.getfield 15, 3) := by decide +kernel
theorem dJ5_append_c97b9_30 : decode cJ5_append_c97b9 30 = .ok (.invokestatic 248, 3) := by decide +kernel
theorem dJ5_append_c97b9_33 : decode cJ5_append_c97b9 33 = .ok (.pop, 1) := by decide +kernel
theorem dJ5_append_c97b9_34 : decode cJ5_append_c97b9 34 = .ok (.goto 14, 3) := by decide +kernel
theorem dJ5_append_c97b9_37 : decode cJ5_append_c97b9 37 = .ok (.iload_n 1, 1) := by decide +kernel
theorem dJ5_append_c97b9_38 : decode cJ5_append_c97b9 38 = .ok (.iload_n 2, 1) := by decide +kernel
theorem dJ5_append_c97b9_39 : decode cJ5_append_c97b9 39 = .ok (.iload_n 3, 1) := by decide +kernel
theorem dJ5_append_c97b9_40 : decode cJ5_append_c97b9 40 = .ok (.aload_n 0, 1) := by decide +kernel
theorem dJ5_append_c97b9_41 : decode cJ5_append_c97b9 41 = .ok (.getfield 15, 3) := by decide +kernel
theorem dJ5_append_c97b9_44 : decode cJ5_append_c97b9 44 = .ok (.invokestatic 251, 3) := by decide +kernel
theorem dJ5_append_c97b9_47 : decode cJ5_append_c97b9 47 = .ok (.pop, 1) := by decide +kernel
theorem dJ5_append_c97b9_48 : decode cJ5_append_c97b9 48 = .ok (.aload_n 0, 1) := by decide +kernel
theorem dJ5_append_c97b9_49 : decode cJ5_append_c97b9 49 = .ok (.iload_n 3, 1) := by decide +kernel
theorem dJ5_append_c97b9_50 : decode cJ5_append_c97b9 50 = .ok (.putfield 79, 3) := by decide +kernel
theorem dJ5_append_c97b9_53 : decode cJ5_append_c97b9 53 = .ok (.aload_n 0, 1) := by decide +kernel
theorem dJ5_append_c97b9_54 : decode cJ5_append_c97b9 54 = .ok (.areturn, 1) := by decide +kernel
theorem dJ5_getValue_6d5f1_0 : decode cJ5_getValue_6d5f1 0 = .ok (.aload_n 0, 1) := by decide +kernel
theorem dJ5_getValue_6d5f1_1 : decode cJ5_getValue_6d5f1 1 = .ok (.getfield 15, 3) := by decide +kernel
theorem dJ5_getValue_6d5f1_4 : decode cJ5_getValue_6d5f1 4 = .ok (.areturn, 1) := by decide +kernel
theorem dJ5_isLatin1_aae02_0 : decode cJ5_isLatin1_aae02 0 = .ok (.getstatic 18, 3) := by decide +kernel
theorem dJ5_isLatin1_aae02_3 : decode cJ5_isLatin1_aae02 3 = .ok (.ifCond .eq 14, 3) := by decide +kernel
theorem dJ5_isLatin1_aae02_6 : decode cJ5_isLatin1_aae02 6 = .ok (.aload_n 0, 1) := by decide +kernel
theorem dJ5_isLatin1_aae02_7 : decode cJ5_isLatin1_aae02 7 = .ok (.getfield 22, 3) := by decide +kernel
theorem dJ5_isLatin1_aae02_10 : decode cJ5_isLatin1_aae02 10 = .ok (.ifCond .ne 7, 3) := by decide +kernel
theorem dJ5_isLatin1_aae02_13 : decode cJ5_isLatin1_aae02 13 = .ok (.iconst 1, 1) := by decide +kernel
theorem dJ5_isLatin1_aae02_14 : decode cJ5_isLatin1_aae02 14 = .ok (.goto 4, 3) := by decide +kernel
theorem dJ5_isLatin1_aae02_17 : decode cJ5_isLatin1_aae02 17 = .ok (.iconst 0, 1) := by decide +kernel
theorem dJ5_isLatin1_aae02_18 : decode cJ5_isLatin1_aae02 18 = .ok (.ireturn, 1) := by decide +kernel
theorem dJ5_inflateIfNeededFor_a7421_0 : decode cJ5_inflateIfNeededFor_a7421 0 = .ok (.getstatic 18, 3) := by decide +kernel
theorem dJ5_inflateIfNeededFor_a7421_3 : decode cJ5_inflateIfNeededFor_a7421 3 = .ok (.ifCond .eq 18, 3) := by decide +kernel
theorem dJ5_inflateIfNeededFor_a7421_6 : decode cJ5_inflateIfNeededFor_a7421 6 = .ok (.aload_n 0, 1) := by decide +kernel
theorem dJ5_inflateIfNeededFor_a7421_7 : decode cJ5_inflateIfNeededFor_a7421 7 = .ok (.getfield 22, 3) := by decide +kernel
theorem dJ5_inflateIfNeededFor_a7421_10 : decode cJ5_inflateIfNeededFor_a7421 10 = .ok (.aload_n 1, 1) := by decide +kernel
theorem dJ5_inflateIfNeededFor_a7421_11 : decode cJ5_inflateIfNeededFor_a7421 11 = .ok (.invokevirtual 40, 3) := by decide +kernel
theorem dJ5_inflateIfNeededFor_a7421_14 : decode cJ5_inflateIfNeededFor_a7421 14 = .ok (.if_icmp .eq 7, 3) := by decide +kernel
theorem dJ5_inflateIfNeededFor_a7421_17 : decode cJ5_inflateIfNeededFor_a7421 17 = .ok (.aload_n 0, 1) := by decide +kernel
theorem dJ5_inflateIfNeededFor_a7421_18 : decode cJ5_inflateIfNeededFor_a7421 18 = .ok (.invokevirtual 195, 3) := by decide +kernel
theorem dJ5_inflateIfNeededFor_a7421_21 : decode cJ5_inflateIfNeededFor_a7421 21 = .ok (.return_, 1) := by decide +kernel
theorem dJ5_putStringAt_47b60_0 : decode cJ5_putStringAt_47b60 0 = .ok (.aload_n 0, 1) := by decide +kernel
theorem dJ5_putStringAt_47b60_1 : decode cJ5_putStringAt_47b60 1 = .ok (.aload_n 2, 1) := by decide +kernel
theorem dJ5_putStringAt_47b60_2 : decode cJ5_putStringAt_47b60 2 = .ok (.invokevirtual 397, 3) := by decide +kernel
theorem dJ5_putStringAt_47b60_5 : decode cJ5_putStringAt_47b60 5 = .ok (.aload_n 2, 1) := by decide +kernel
theorem dJ5_putStringAt_47b60_6 : decode cJ5_putStringAt_47b60 6 = .ok (.aload_n 0, 1) := by decide +kernel
theorem dJ5_putStringAt_47b60_7 : decode cJ5_putStringAt_47b60 7 = .ok (.getfield 15, 3) := by decide +kernel
theorem dJ5_putStringAt_47b60_10 : decode cJ5_putStringAt_47b60 10 = .ok (.iload_n 1, 1) := by decide +kernel
theorem dJ5_putStringAt_47b60_11 : decode cJ5_putStringAt_47b60 11 = .ok (.aload_n 0, 1) := by decide +kernel
theorem dJ5_putStringAt_47b60_12 : decode cJ5_putStringAt_47b60 12 = .ok (.getfield 22, 3) := by decide +kernel
theorem dJ5_putStringAt_47b60_15 : decode cJ5_putStringAt_47b60 15 = .ok (.invokevirtual 399, 3) := by decide +kernel
theorem dJ5_putStringAt_47b60_18 : decode cJ5_putStringAt_47b60 18 = .ok (.return_, 1) := by decide +kernel
theorem dJ6_getChars_ba4f3_0 : decode cJ6_getChars_ba4f3 0 = .ok (.iload_n 1, 1) := by decide +kernel
theorem dJ6_getChars_ba4f3_1 : decode cJ6_getChars_ba4f3 1 = .ok (.istore 5, 2) := by decide +kernel
theorem dJ6_getChars_ba4f3_3 : decode cJ6_getChars_ba4f3 3 = .ok (.iload_n 0, 1) := by decide +kernel
theorem dJ6_getChars_ba4f3_4 : decode cJ6_getChars_ba4f3 4 = .ok (.ifCond .ge 7, 3) := by decide +kernel
theorem dJ6_getChars_ba4f3_7 : decode cJ6_getChars_ba4f3 7 = .ok (.iconst 1, 1) := by decide +kernel
theorem dJ6_getChars_ba4f3_8 : decode cJ6_getChars_ba4f3 8 = .ok (.goto 4, 3) := by decide +kernel
theorem dJ6_getChars_ba4f3_11 : decode cJ6_getChars_ba4f3 11 = .ok (.iconst 0, 1) := by decide +kernel
theorem dJ6_getChars_ba4f3_12 : decode cJ6_getChars_ba4f3 12 = .ok (.istore 6, 2) := by decide +kernel
theorem dJ6_getChars_ba4f3_14 : decode cJ6_getChars_ba4f3 14 = .ok (.iload 6, 2) := by decide +kernel
theorem dJ6_getChars_ba4f3_16 : decode cJ6_getChars_ba4f3 16 = .ok (.ifCond .ne 6, 3) := by decide +kernel
theorem dJ6_getChars_ba4f3_19 : decode cJ6_getChars_ba4f3 19 = .ok (.iload_n 0, 1) := by decide +kernel
theorem dJ6_getChars_ba4f3_20 : decode cJ6_getChars_ba4f3 20 = .ok (.ineg, 1) := by decide +kernel
theorem dJ6_getChars_ba4f3_21 : decode cJ6_getChars_ba4f3 21 = .ok (.istore_n 0, 1) := by decide +kernel
theorem dJ6_getChars_ba4f3_22 : decode cJ6_getChars_ba4f3 22 = .ok (.iload_n 0, 1) := by decide +kernel
theorem dJ6_getChars_ba4f3_23 : decode cJ6_getChars_ba4f3 23 = .ok (.bipush (-100), 2) := by decide +kernel
theorem dJ6_getChars_ba4f3_25 : decode cJ6_getChars_ba4f3 25 = .ok (.if_icmp .gt 47, 3) := by decide +kernel
theorem dJ6_getChars_ba4f3_28 : decode cJ6_getChars_ba4f3 28 = .ok (.iload_n 0, 1) := by decide +kernel
theorem dJ6_getChars_ba4f3_29 : decode cJ6_getChars_ba4f3 29 = .ok (.bipush 100, 2) := by decide +kernel
theorem dJ6_getChars_ba4f3_31 : decode cJ6_getChars_ba4f3 31 = .ok (.idiv, 1) := by decide +kernel
theorem dJ6_getChars_ba4f3_32 : decode cJ6_getChars_ba4f3 32 = .ok (.istore_n 3, 1) := by decide +kernel
theorem dJ6_getChars_ba4f3_33 : decode cJ6_getChars_ba4f3 33 = .ok (.iload_n 3, 1) := by decide +kernel
theorem dJ6_getChars_ba4f3_34 : decode cJ6_getChars_ba4f3 34 = .ok (.bipush 100, 2) := by decide +kernel
theorem dJ6_getChars_ba4f3_36 : decode cJ6_getChars_ba4f3 36 = .ok (.imul, 1) := by decide +kernel
theorem dJ6_getChars_ba4f3_37 : decode cJ6_getChars_ba4f3 37 = .ok (.iload_n 0, 1) := by decide +kernel
theorem dJ6_getChars_ba4f3_38 : decode cJ6_getChars_ba4f3 38 = .ok (.isub, 1) := by decide +kernel
theorem dJ6_getChars_ba4f3_39 : decode cJ6_getChars_ba4f3 39 = .ok (.istore 4, 2) := by decide +kernel
theorem dJ6_getChars_ba4f3_41 : decode cJ6_getChars_ba4f3 41 = .ok (.iload_n 3, 1) := by decide +kernel
theorem dJ6_getChars_ba4f3_42 : decode cJ6_getChars_ba4f3 42 = .ok (.istore_n 0, 1) := by decide +kernel
theorem dJ6_getChars_ba4f3_43 : decode cJ6_getChars_ba4f3 43 = .ok (.aload_n 2, 1) := by decide +kernel
theorem dJ6_getChars_ba4f3_44 : decode cJ6_getChars_ba4f3 44 = .ok (.iinc 5 (-1), 3) := by decide +kernel
theorem dJ6_getChars_ba4f3_47 : decode cJ6_getChars_ba4f3 47 = .ok (.iload 5, 2) := by decide +kernel
theorem dJ6_getChars_ba4f3_49 : decode cJ6_getChars_ba4f3 49 = .ok (.getstatic 83, 3) := by decide +kernel
theorem dJ6_getChars_ba4f3_52 : decode cJ6_getChars_ba4f3 52 = .ok (.iload 4, 2) := by decide +kernel
theorem dJ6_getChars_ba4f3_54 : decode cJ6_getChars_ba4f3 54 = .ok (.baload, 1) := by decide +kernel
theorem dJ6_getChars_ba4f3_55 : decode cJ6_getChars_ba4f3 55 = .ok (.bastore, 1) := by decide +kernel
theorem dJ6_getChars_ba4f3_56 : decode cJ6_getChars_ba4f3 56 = .ok (.aload_n 2, 1) := by decide +kernel
theorem dJ6_getChars_ba4f3_57 : decode cJ6_getChars_ba4f3 57 = .ok (.iinc 5 (-1), 3) := by decide +kernel
theorem dJ6_getChars_ba4f3_60 : decode cJ6_getChars_ba4f3 60 = .ok (.iload 5, 2) := by decide +kernel
theorem dJ6_getChars_ba4f3_62 : decode cJ6_getChars_ba4f3 62 = .ok (.getstatic 87, 3) := by decide +kernel
theorem dJ6_getChars_ba4f3_65 : decode cJ6_getChars_ba4f3 65 = .ok (.iload 4, 2) := by decide +kernel
theorem dJ6_getChars_ba4f3_67 : decode cJ6_getChars_ba4f3 67 = .ok (.baload, 1) := by decide +kernel
theorem dJ6_getChars_ba4f3_68 : decode cJ6_getChars_ba4f3 68 = .ok (.bastore, 1) := by decide +kernel
theorem dJ6_getChars_ba4f3_69 : decode cJ6_getChars_ba4f3 69 = .ok (.goto (-47), 3) := by decide +kernel
theorem dJ6_getChars_ba4f3_72 : decode cJ6_getChars_ba4f3 72 = .ok (.aload_n 2, 1) := by decide +kernel
theorem dJ6_getChars_ba4f3_73 : decode cJ6_getChars_ba4f3 73 = .ok (.iinc 5 (-1), 3) := by decide +kernel
theorem dJ6_getChars_ba4f3_76 : decode cJ6_getChars_ba4f3 76 = .ok (.iload 5, 2) := by decide +kernel
theorem dJ6_getChars_ba4f3_78 : decode cJ6_getChars_ba4f3 78 = .ok (.getstatic 83, 3) := by decide +kernel
theorem dJ6_getChars_ba4f3_81 : decode cJ6_getChars_ba4f3 81 = .ok (.iload_n 0, 1) := by decide +kernel
theorem dJ6_getChars_ba4f3_82 : decode cJ6_getChars_ba4f3 82 = .ok (.ineg, 1) := by decide +kernel
theorem dJ6_getChars_ba4f3_83 : decode cJ6_getChars_ba4f3 83 = .ok (.baload, 1) := by decide +kernel
theorem dJ6_getChars_ba4f3_84 : decode cJ6_getChars_ba4f3 84 = .ok (.bastore, 1) := by decide +kernel
theorem dJ6_getChars_ba4f3_85 : decode cJ6_getChars_ba4f3 85 = .ok (.iload_n 0, 1) := by decide +kernel
theorem dJ6_getChars_ba4f3_86 : decode cJ6_getChars_ba4f3 86 = .ok (.bipush (-9), 2) := by decide +kernel
theorem dJ6_getChars_ba4f3_88 : decode cJ6_getChars_ba4f3 88 = .ok (.if_icmp .ge 16, 3) := by decide +kernel
theorem dJ6_getChars_ba4f3_91 : decode cJ6_getChars_ba4f3 91 = .ok (.aload_n 2, 1) := by decide +kernel
theorem dJ6_getChars_ba4f3_92 : decode cJ6_getChars_ba4f3 92 = .ok (.iinc 5 (-1), 3) := by decide +kernel
theorem dJ6_getChars_ba4f3_95 : decode cJ6_getChars_ba4f3 95 = .ok (.iload 5, 2) := by decide +kernel
theorem dJ6_getChars_ba4f3_97 : decode cJ6_getChars_ba4f3 97 = .ok (.getstatic 87, 3) := by decide +kernel
theorem dJ6_getChars_ba4f3_100 : decode cJ6_getChars_ba4f3 100 = .ok (.iload_n 0, 1) := by decide +kernel
theorem dJ6_getChars_ba4f3_101 : decode cJ6_getChars_ba4f3 101 = .ok (.ineg, 1) := by decide +kernel
theorem dJ6_getChars_ba4f3_102 : decode cJ6_getChars_ba4f3 102 = .ok (.baload, 1) := by decide +kernel
theorem dJ6_getChars_ba4f3_103 : decode cJ6_getChars_ba4f3 103 = .ok (.bastore, 1) := by decide +kernel
