theorem dX12_bendHere_28 : decode cX12_bendHere 28 = .ok (.iconst 1, 1) := by decide +kernel
theorem dX12_bendHere_29 : decode cX12_bendHere 29 = .ok (.istore_n 3, 1) := by decide +kernel
theorem dX12_bendHere_30 : decode cX12_bendHere 30 = .ok (.iload_n 2, 1) := by decide +kernel
theorem dX12_bendHere_31 : decode cX12_bendHere 31 = .ok (.ifCond .ne 7, 3) := by decide +kernel
theorem dX12_bendHere_34 : decode cX12_bendHere 34 = .ok (.iconst 1, 1) := by decide +kernel
theorem dX12_bendHere_35 : decode cX12_bendHere 35 = .ok (.goto 21, 3) := by decide +kernel
theorem dX12_bendHere_38 : decode cX12_bendHere 38 = .ok (.aload_n 0, 1) := by decide +kernel
theorem dX12_bendHere_39 : decode cX12_bendHere 39 = .ok (.aload_n 0, 1) := by decide +kernel
theorem dX12_bendHere_40 : decode cX12_bendHere 40 = .ok (.getfield 41, 3) := by decide +kernel
theorem dX12_bendHere_43 : decode cX12_bendHere 43 = .ok (.iload_n 1, 1) := by decide +kernel
theorem dX12_bendHere_44 : decode cX12_bendHere 44 = .ok (.isub, 1) := by decide +kernel
theorem dX12_bendHere_45 : decode cX12_bendHere 45 = .ok (.i2l, 1) := by decide +kernel
theorem dX12_bendHere_46 : decode cX12_bendHere 46 = .ok (.aload_n 0, 1) := by decide +kernel
theorem dX12_bendHere_47 : decode cX12_bendHere 47 = .ok (.iload_n 2, 1) := by decide +kernel
theorem dX12_bendHere_48 : decode cX12_bendHere 48 = .ok (.invokevirtual 328, 3) := by decide +kernel
theorem dX12_bendHere_51 : decode cX12_bendHere 51 = .ok (.i2l, 1) := by decide +kernel
theorem dX12_bendHere_52 : decode cX12_bendHere 52 = .ok (.lmul, 1) := by decide +kernel
theorem dX12_bendHere_53 : decode cX12_bendHere 53 = .ok (.invokevirtual 176, 3) := by decide +kernel
theorem dX12_bendHere_56 : decode cX12_bendHere 56 = .ok (.istore 4, 2) := by decide +kernel
theorem dX12_bendHere_58 : decode cX12_bendHere 58 = .ok (.iconst 1, 1) := by decide +kernel
theorem dX12_bendHere_59 : decode cX12_bendHere 59 = .ok (.istore 5, 2) := by decide +kernel
theorem dX12_bendHere_61 : decode cX12_bendHere 61 = .ok (.iload 5, 2) := by decide +kernel
theorem dX12_bendHere_63 : decode cX12_bendHere 63 = .ok (.iconst 4, 1) := by decide +kernel
theorem dX12_bendHere_64 : decode cX12_bendHere 64 = .ok (.if_icmp .gt 98, 3) := by decide +kernel
theorem dX12_bendHere_67 : decode cX12_bendHere 67 = .ok (.lconst 0, 1) := by decide +kernel
theorem dX12_bendHere_68 : decode cX12_bendHere 68 = .ok (.lstore 6, 2) := by decide +kernel
theorem dX12_bendHere_70 : decode cX12_bendHere 70 = .ok (.iconst 0, 1) := by decide +kernel
theorem dX12_bendHere_71 : decode cX12_bendHere 71 = .ok (.istore 8, 2) := by decide +kernel
theorem dX12_bendHere_73 : decode cX12_bendHere 73 = .ok (.iload 8, 2) := by decide +kernel
theorem dX12_bendHere_75 : decode cX12_bendHere 75 = .ok (.iload 5, 2) := by decide +kernel
theorem dX12_bendHere_77 : decode cX12_bendHere 77 = .ok (.if_icmp .gt 63, 3) := by decide +kernel
theorem dX12_bendHere_80 : decode cX12_bendHere 80 = .ok (.lload 6, 2) := by decide +kernel
theorem dX12_bendHere_82 : decode cX12_bendHere 82 = .ok (.aload_n 0, 1) := by decide +kernel
theorem dX12_bendHere_83 : decode cX12_bendHere 83 = .ok (.sipush 141, 3) := by decide +kernel
theorem dX12_bendHere_86 : decode cX12_bendHere 86 = .ok (.iload 8, 2) := by decide +kernel
theorem dX12_bendHere_88 : decode cX12_bendHere 88 = .ok (.iload 5, 2) := by decide +kernel
theorem dX12_bendHere_90 : decode cX12_bendHere 90 = .ok (.iload 8, 2) := by decide +kernel
theorem dX12_bendHere_92 : decode cX12_bendHere 92 = .ok (.isub, 1) := by decide +kernel
theorem dX12_bendHere_93 : decode cX12_bendHere 93 = .ok (.invokevirtual 184, 3) := by decide +kernel
theorem dX12_bendHere_96 : decode cX12_bendHere 96 = .ok (.i2l, 1) := by decide +kernel
theorem dX12_bendHere_97 : decode cX12_bendHere 97 = .ok (.aload_n 0, 1) := by decide +kernel
theorem dX12_bendHere_98 : decode cX12_bendHere 98 = .ok (.iload_n 3, 1) := by decide +kernel
theorem dX12_bendHere_99 : decode cX12_bendHere 99 = .ok (.iload 8, 2) := by decide +kernel
theorem dX12_bendHere_101 : decode cX12_bendHere 101 = .ok (.invokevirtual 180, 3) := by decide +kernel
theorem dX12_bendHere_104 : decode cX12_bendHere 104 = .ok (.i2l, 1) := by decide +kernel
theorem dX12_bendHere_105 : decode cX12_bendHere 105 = .ok (.lmul, 1) := by decide +kernel
theorem dX12_bendHere_106 : decode cX12_bendHere 106 = .ok (.aload_n 0, 1) := by decide +kernel
theorem dX12_bendHere_107 : decode cX12_bendHere 107 = .ok (.getfield 41, 3) := by decide +kernel
theorem dX12_bendHere_110 : decode cX12_bendHere 110 = .ok (.i2l, 1) := by decide +kernel
theorem dX12_bendHere_111 : decode cX12_bendHere 111 = .ok (.lrem, 1) := by decide +kernel
theorem dX12_bendHere_112 : decode cX12_bendHere 112 = .ok (.aload_n 0, 1) := by decide +kernel
theorem dX12_bendHere_113 : decode cX12_bendHere 113 = .ok (.iload 4, 2) := by decide +kernel
theorem dX12_bendHere_115 : decode cX12_bendHere 115 = .ok (.iload 5, 2) := by decide +kernel
theorem dX12_bendHere_117 : decode cX12_bendHere 117 = .ok (.iload 8, 2) := by decide +kernel
theorem dX12_bendHere_119 : decode cX12_bendHere 119 = .ok (.isub, 1) := by decide +kernel
theorem dX12_bendHere_120 : decode cX12_bendHere 120 = .ok (.invokevirtual 180, 3) := by decide +kernel
theorem dX12_bendHere_123 : decode cX12_bendHere 123 = .ok (.i2l, 1) := by decide +kernel
theorem dX12_bendHere_124 : decode cX12_bendHere 124 = .ok (.lmul, 1) := by decide +kernel
theorem dX12_bendHere_125 : decode cX12_bendHere 125 = .ok (.aload_n 0, 1) := by decide +kernel
theorem dX12_bendHere_126 : decode cX12_bendHere 126 = .ok (.getfield 41, 3) := by decide +kernel
theorem dX12_bendHere_129 : decode cX12_bendHere 129 = .ok (.i2l, 1) := by decide +kernel
theorem dX12_bendHere_130 : decode cX12_bendHere 130 = .ok (.lrem, 1) := by decide +kernel
theorem dX12_bendHere_131 : decode cX12_bendHere 131 = .ok (.ladd, 1) := by decide +kernel
theorem dX12_bendHere_132 : decode cX12_bendHere 132 = .ok (.lstore 6, 2) := by decide +kernel
theorem dX12_bendHere_134 : decode cX12_bendHere 134 = .ok (.iinc 8 1, 3) := by decide +kernel
theorem dX12_bendHere_137 : decode cX12_bendHere 137 = .ok (.goto (-64), 3) := by decide +kernel
theorem dX12_bendHere_140 : decode cX12_bendHere 140 = .ok (.lload 6, 2) := by decide +kernel
theorem dX12_bendHere_142 : decode cX12_bendHere 142 = .ok (.aload_n 0, 1) := by decide +kernel
theorem dX12_bendHere_143 : decode cX12_bendHere 143 = .ok (.getfield 41, 3) := by decide +kernel
theorem dX12_bendHere_146 : decode cX12_bendHere 146 = .ok (.i2l, 1) := by decide +kernel
theorem dX12_bendHere_147 : decode cX12_bendHere 147 = .ok (.lrem, 1) := by decide +kernel
theorem dX12_bendHere_148 : decode cX12_bendHere 148 = .ok (.lconst 0, 1) := by decide +kernel
theorem dX12_bendHere_149 : decode cX12_bendHere 149 = .ok (.lcmp, 1) := by decide +kernel
theorem dX12_bendHere_150 : decode cX12_bendHere 150 = .ok (.ifCond .eq 6, 3) := by decide +kernel
theorem dX12_bendHere_153 : decode cX12_bendHere 153 = .ok (.iload 5, 2) := by decide +kernel
theorem dX12_bendHere_155 : decode cX12_bendHere 155 = .ok (.ireturn, 1) := by decide +kernel
theorem dX12_bendHere_156 : decode cX12_bendHere 156 = .ok (.iinc 5 1, 3) := by decide +kernel
theorem dX12_bendHere_159 : decode cX12_bendHere 159 = .ok (.goto (-98), 3) := by decide +kernel
theorem dX12_bendHere_162 : decode cX12_bendHere 162 = .ok (.bipush (-2), 2) := by decide +kernel
theorem dX12_bendHere_164 : decode cX12_bendHere 164 = .ok (.ireturn, 1) := by decide +kernel
theorem dX12_bend_0 : decode cX12_bend 0 = .ok (.aload_n 0, 1) := by decide +kernel
theorem dX12_bend_1 : decode cX12_bend 1 = .ok (.iload_n 1, 1) := by decide +kernel
theorem dX12_bend_2 : decode cX12_bend 2 = .ok (.invokevirtual 286, 3) := by decide +kernel
theorem dX12_bend_5 : decode cX12_bend 5 = .ok (.ifCond .eq 28, 3) := by decide +kernel
theorem dX12_bend_8 : decode cX12_bend 8 = .ok (.aload_n 0, 1) := by decide +kernel
theorem dX12_bend_9 : decode cX12_bend 9 = .ok (.iload_n 2, 1) := by decide +kernel
theorem dX12_bend_10 : decode cX12_bend 10 = .ok (.invokevirtual 296, 3) := by decide +kernel
theorem dX12_bend_13 : decode cX12_bend 13 = .ok (.ifCond .eq 20, 3) := by decide +kernel
theorem dX12_bend_16 : decode cX12_bend 16 = .ok (.aload_n 0, 1) := by decide +kernel
theorem dX12_bend_17 : decode cX12_bend 17 = .ok (.iload_n 1, 1) := by decide +kernel
theorem dX12_bend_18 : decode cX12_bend 18 = .ok (.iload_n 2, 1) := by decide +kernel
theorem dX12_bend_19 : decode cX12_bend 19 = .ok (.invokevirtual 316, 3) := by decide +kernel
theorem dX12_bend_22 : decode cX12_bend 22 = .ok (.iconst 1, 1) := by decide +kernel
theorem dX12_bend_23 : decode cX12_bend 23 = .ok (.if_icmp .ne 10, 3) := by decide +kernel
theorem dX12_bend_26 : decode cX12_bend 26 = .ok (.aload_n 0, 1) := by decide +kernel
theorem dX12_bend_27 : decode cX12_bend 27 = .ok (.invokevirtual 331, 3) := by decide +kernel
theorem dX12_bend_30 : decode cX12_bend 30 = .ok (.goto 4, 3) := by decide +kernel
theorem dX12_bend_33 : decode cX12_bend 33 = .ok (.iconst (-1), 1) := by decide +kernel
theorem dX12_bend_34 : decode cX12_bend 34 = .ok (.ireturn, 1) := by decide +kernel
theorem dX12_flex_0 : decode cX12_flex 0 = .ok (.aload_n 0, 1) := by decide +kernel
theorem dX12_flex_1 : decode cX12_flex 1 = .ok (.iload_n 1, 1) := by decide +kernel
theorem dX12_flex_2 : decode cX12_flex 2 = .ok (.invokevirtual 286, 3) := by decide +kernel
theorem dX12_flex_5 : decode cX12_flex 5 = .ok (.ifCond .eq 8, 3) := by decide +kernel
theorem dX12_flex_8 : decode cX12_flex 8 = .ok (.iload_n 2, 1) := by decide +kernel
theorem dX12_flex_9 : decode cX12_flex 9 = .ok (.iconst (-1), 1) := by decide +kernel
theorem dX12_flex_10 : decode cX12_flex 10 = .ok (.if_icmp .ge 5, 3) := by decide +kernel
theorem dX12_flex_13 : decode cX12_flex 13 = .ok (.iconst (-1), 1) := by decide +kernel
theorem dX12_flex_14 : decode cX12_flex 14 = .ok (.ireturn, 1) := by decide +kernel
theorem dX12_flex_15 : decode cX12_flex 15 = .ok (.iconst 0, 1) := by decide +kernel
theorem dX12_flex_16 : decode cX12_flex 16 = .ok (.istore_n 3, 1) := by decide +kernel
theorem dX12_flex_17 : decode cX12_flex 17 = .ok (.iconst 0, 1) := by decide +kernel
theorem dX12_flex_18 : decode cX12_flex 18 = .ok (.istore 4, 2) := by decide +kernel
theorem dX12_flex_20 : decode cX12_flex 20 = .ok (.iload 4, 2) := by decide +kernel
theorem dX12_flex_22 : decode cX12_flex 22 = .ok (.aload_n 0, 1) := by decide +kernel
theorem dX12_flex_23 : decode cX12_flex 23 = .ok (.invokevirtual 274, 3) := by decide +kernel
theorem dX12_flex_26 : decode cX12_flex 26 = .ok (.if_icmp .ge 56, 3) := by decide +kernel
theorem dX12_flex_29 : decode cX12_flex 29 = .ok (.aload_n 0, 1) := by decide +kernel
theorem dX12_flex_30 : decode cX12_flex 30 = .ok (.iload_n 1, 1) := by decide +kernel
theorem dX12_flex_31 : decode cX12_flex 31 = .ok (.iload 4, 2) := by decide +kernel
theorem dX12_flex_33 : decode cX12_flex 33 = .ok (.invokevirtual 316, 3) := by decide +kernel
theorem dX12_flex_36 : decode cX12_flex 36 = .ok (.iconst 1, 1) := by decide +kernel
theorem dX12_flex_37 : decode cX12_flex 37 = .ok (.if_icmp .eq 6, 3) := by decide +kernel
theorem dX12_flex_40 : decode cX12_flex 40 = .ok (.goto 36, 3) := by decide +kernel
theorem dX12_flex_43 : decode cX12_flex 43 = .ok (.aload_n 0, 1) := by decide +kernel
theorem dX12_flex_44 : decode cX12_flex 44 = .ok (.invokevirtual 331, 3) := by decide +kernel
theorem dX12_flex_47 : decode cX12_flex 47 = .ok (.istore 5, 2) := by decide +kernel
theorem dX12_flex_49 : decode cX12_flex 49 = .ok (.iload 5, 2) := by decide +kernel
theorem dX12_flex_51 : decode cX12_flex 51 = .ok (.bipush (-2), 2) := by decide +kernel
theorem dX12_flex_53 : decode cX12_flex 53 = .ok (.if_icmp .eq 12, 3) := by decide +kernel
theorem dX12_flex_56 : decode cX12_flex 56 = .ok (.iload 5, 2) := by decide +kernel
theorem dX12_flex_58 : decode cX12_flex 58 = .ok (.iconst 3, 1) := by decide +kernel
theorem dX12_flex_59 : decode cX12_flex 59 = .ok (.if_icmp .ge 6, 3) := by decide +kernel
theorem dX12_flex_62 : decode cX12_flex 62 = .ok (.goto 14, 3) := by decide +kernel
theorem dX12_flex_65 : decode cX12_flex 65 = .ok (.iload_n 3, 1) := by decide +kernel
theorem dX12_flex_66 : decode cX12_flex 66 = .ok (.iload_n 2, 1) := by decide +kernel
theorem dX12_flex_67 : decode cX12_flex 67 = .ok (.if_icmp .ne 6, 3) := by decide +kernel
theorem dX12_flex_70 : decode cX12_flex 70 = .ok (.iload 4, 2) := by decide +kernel
theorem dX12_flex_72 : decode cX12_flex 72 = .ok (.ireturn, 1) := by decide +kernel
theorem dX12_flex_73 : decode cX12_flex 73 = .ok (.iinc 3 1, 3) := by decide +kernel
theorem dX12_flex_76 : decode cX12_flex 76 = .ok (.iinc 4 1, 3) := by decide +kernel
theorem dX12_flex_79 : decode cX12_flex 79 = .ok (.goto (-59), 3) := by decide +kernel
theorem dX12_flex_82 : decode cX12_flex 82 = .ok (.iload_n 2, 1) := by decide +kernel
theorem dX12_flex_83 : decode cX12_flex 83 = .ok (.iconst (-1), 1) := by decide +kernel
theorem dX12_flex_84 : decode cX12_flex 84 = .ok (.if_icmp .ne 7, 3) := by decide +kernel
theorem dX12_flex_87 : decode cX12_flex 87 = .ok (.iload_n 3, 1) := by decide +kernel
theorem dX12_flex_88 : decode cX12_flex 88 = .ok (.goto 4, 3) := by decide +kernel
theorem dX12_flex_91 : decode cX12_flex 91 = .ok (.iconst (-1), 1) := by decide +kernel
theorem dX12_flex_92 : decode cX12_flex 92 = .ok (.ireturn, 1) := by decide +kernel
theorem dX12_genus_0 : decode cX12_genus 0 = .ok (.aload_n 0, 1) := by decide +kernel
theorem dX12_genus_1 : decode cX12_genus 1 = .ok (.iload_n 1, 1) := by decide +kernel
theorem dX12_genus_2 : decode cX12_genus 2 = .ok (.invokevirtual 286, 3) := by decide +kernel
theorem dX12_genus_5 : decode cX12_genus 5 = .ok (.ifCond .ne 6, 3) := by decide +kernel
theorem dX12_genus_8 : decode cX12_genus 8 = .ok (.bipush (-100), 2) := by decide +kernel
theorem dX12_genus_10 : decode cX12_genus 10 = .ok (.ireturn, 1) := by decide +kernel
theorem dX12_genus_11 : decode cX12_genus 11 = .ok (.aload_n 0, 1) := by decide +kernel
theorem dX12_genus_12 : decode cX12_genus 12 = .ok (.iload_n 1, 1) := by decide +kernel
theorem dX12_genus_13 : decode cX12_genus 13 = .ok (.invokevirtual 254, 3) := by decide +kernel
theorem dX12_genus_16 : decode cX12_genus 16 = .ok (.istore_n 2, 1) := by decide +kernel
theorem dX12_genus_17 : decode cX12_genus 17 = .ok (.iload_n 2, 1) := by decide +kernel
theorem dX12_genus_18 : decode cX12_genus 18 = .ok (.iconst 1, 1) := by decide +kernel
theorem dX12_genus_19 : decode cX12_genus 19 = .ok (.isub, 1) := by decide +kernel
theorem dX12_genus_20 : decode cX12_genus 20 = .ok (.iload_n 2, 1) := by decide +kernel
theorem dX12_genus_21 : decode cX12_genus 21 = .ok (.iconst 2, 1) := by decide +kernel
theorem dX12_genus_22 : decode cX12_genus 22 = .ok (.isub, 1) := by decide +kernel
theorem dX12_genus_23 : decode cX12_genus 23 = .ok (.imul, 1) := by decide +kernel
theorem dX12_genus_24 : decode cX12_genus 24 = .ok (.iconst 2, 1) := by decide +kernel
theorem dX12_genus_25 : decode cX12_genus 25 = .ok (.idiv, 1) := by decide +kernel
theorem dX12_genus_26 : decode cX12_genus 26 = .ok (.istore_n 3, 1) := by decide +kernel
theorem dX12_genus_27 : decode cX12_genus 27 = .ok (.iconst 0, 1) := by decide +kernel
theorem dX12_genus_28 : decode cX12_genus 28 = .ok (.istore 4, 2) := by decide +kernel
theorem dX12_genus_30 : decode cX12_genus 30 = .ok (.iload 4, 2) := by decide +kernel
theorem dX12_genus_32 : decode cX12_genus 32 = .ok (.aload_n 0, 1) := by decide +kernel
theorem dX12_genus_33 : decode cX12_genus 33 = .ok (.invokevirtual 274, 3) := by decide +kernel
theorem dX12_genus_36 : decode cX12_genus 36 = .ok (.if_icmp .ge 30, 3) := by decide +kernel
theorem dX12_genus_39 : decode cX12_genus 39 = .ok (.aload_n 0, 1) := by decide +kernel
theorem dX12_genus_40 : decode cX12_genus 40 = .ok (.iload_n 1, 1) := by decide +kernel
theorem dX12_genus_41 : decode cX12_genus 41 = .ok (.iload 4, 2) := by decide +kernel
theorem dX12_genus_43 : decode cX12_genus 43 = .ok (.invokevirtual 316, 3) := by decide +kernel
theorem dX12_genus_46 : decode cX12_genus 46 = .ok (.istore 5, 2) := by decide +kernel
theorem dX12_genus_48 : decode cX12_genus 48 = .ok (.iload_n 3, 1) := by decide +kernel
theorem dX12_genus_49 : decode cX12_genus 49 = .ok (.iload 5, 2) := by decide +kernel
theorem dX12_genus_51 : decode cX12_genus 51 = .ok (.iload 5, 2) := by decide +kernel
theorem dX12_genus_53 : decode cX12_genus 53 = .ok (.iconst 1, 1) := by decide +kernel
theorem dX12_genus_54 : decode cX12_genus 54 = .ok (.isub, 1) := by decide +kernel
theorem dX12_genus_55 : decode cX12_genus 55 = .ok (.imul, 1) := by decide +kernel
theorem dX12_genus_56 : decode cX12_genus 56 = .ok (.iconst 2, 1) := by decide +kernel
theorem dX12_genus_57 : decode cX12_genus 57 = .ok (.idiv, 1) := by decide +kernel
theorem dX12_genus_58 : decode cX12_genus 58 = .ok (.isub, 1) := by decide +kernel
theorem dX12_genus_59 : decode cX12_genus 59 = .ok (.istore_n 3, 1) := by decide +kernel
theorem dX12_genus_60 : decode cX12_genus 60 = .ok (.iinc 4 1, 3) := by decide +kernel
theorem dX12_genus_63 : decode cX12_genus 63 = .ok (.goto (-33), 3) := by decide +kernel
theorem dX12_genus_66 : decode cX12_genus 66 = .ok (.iload_n 3, 1) := by decide +kernel
theorem dX12_genus_67 : decode cX12_genus 67 = .ok (.ireturn, 1) := by decide +kernel
theorem dX12_beginsPile_0 : decode cX12_beginsPile 0 = .ok (.aload_n 0, 1) := by decide +kernel
theorem dX12_beginsPile_1 : decode cX12_beginsPile 1 = .ok (.iconst 0, 1) := by decide +kernel
theorem dX12_beginsPile_2 : decode cX12_beginsPile 2 = .ok (.putfield 82, 3) := by decide +kernel
theorem dX12_beginsPile_5 : decode cX12_beginsPile 5 = .ok (.aload_n 0, 1) := by decide +kernel
theorem dX12_beginsPile_6 : decode cX12_beginsPile 6 = .ok (.iload_n 1, 1) := by decide +kernel
theorem dX12_beginsPile_7 : decode cX12_beginsPile 7 = .ok (.putfield 85, 3) := by decide +kernel
theorem dX12_beginsPile_10 : decode cX12_beginsPile 10 = .ok (.iconst 0, 1) := by decide +kernel
theorem dX12_beginsPile_11 : decode cX12_beginsPile 11 = .ok (.istore_n 2, 1) := by decide +kernel
theorem dX12_beginsPile_12 : decode cX12_beginsPile 12 = .ok (.iload_n 2, 1) := by decide +kernel
theorem dX12_beginsPile_13 : decode cX12_beginsPile 13 = .ok (.iload_n 1, 1) := by decide +kernel
theorem dX12_beginsPile_14 : decode cX12_beginsPile 14 = .ok (.if_icmp .ge 16, 3) := by decide +kernel
theorem dX12_beginsPile_17 : decode cX12_beginsPile 17 = .ok (.aload_n 0, 1) := by decide +kernel
theorem dX12_beginsPile_18 : decode cX12_beginsPile 18 = .ok (.getfield 79, 3) := by decide +kernel
theorem dX12_beginsPile_21 : decode cX12_beginsPile 21 = .ok (.iload_n 2, 1) := by decide +kernel
theorem dX12_beginsPile_22 : decode cX12_beginsPile 22 = .ok (.iconst (-1), 1) := by decide +kernel
theorem dX12_beginsPile_23 : decode cX12_beginsPile 23 = .ok (.iastore, 1) := by decide +kernel
theorem dX12_beginsPile_24 : decode cX12_beginsPile 24 = .ok (.iinc 2 1, 3) := by decide +kernel
theorem dX12_beginsPile_27 : decode cX12_beginsPile 27 = .ok (.goto (-15), 3) := by decide +kernel
theorem dX12_beginsPile_30 : decode cX12_beginsPile 30 = .ok (.return_, 1) := by decide +kernel
theorem dX12_emptiesVector_0 : decode cX12_emptiesVector 0 = .ok (.iconst 0, 1) := by decide +kernel
theorem dX12_emptiesVector_1 : decode cX12_emptiesVector 1 = .ok (.istore_n 1, 1) := by decide +kernel
theorem dX12_emptiesVector_2 : decode cX12_emptiesVector 2 = .ok (.iload_n 1, 1) := by decide +kernel
theorem dX12_emptiesVector_3 : decode cX12_emptiesVector 3 = .ok (.aload_n 0, 1) := by decide +kernel
theorem dX12_emptiesVector_4 : decode cX12_emptiesVector 4 = .ok (.getfield 85, 3) := by decide +kernel
theorem dX12_emptiesVector_7 : decode cX12_emptiesVector 7 = .ok (.if_icmp .ge 16, 3) := by decide +kernel
theorem dX12_emptiesVector_10 : decode cX12_emptiesVector 10 = .ok (.aload_n 0, 1) := by decide +kernel
theorem dX12_emptiesVector_11 : decode cX12_emptiesVector 11 = .ok (.getfield 88, 3) := by decide +kernel
theorem dX12_emptiesVector_14 : decode cX12_emptiesVector 14 = .ok (.iload_n 1, 1) := by decide +kernel
theorem dX12_emptiesVector_15 : decode cX12_emptiesVector 15 = .ok (.iconst 0, 1) := by decide +kernel
theorem dX12_emptiesVector_16 : decode cX12_emptiesVector 16 = .ok (.iastore, 1) := by decide +kernel
theorem dX12_emptiesVector_17 : decode cX12_emptiesVector 17 = .ok (.iinc 1 1, 3) := by decide +kernel
theorem dX12_emptiesVector_20 : decode cX12_emptiesVector 20 = .ok (.goto (-18), 3) := by decide +kernel
theorem dX12_emptiesVector_23 : decode cX12_emptiesVector 23 = .ok (.return_, 1) := by decide +kernel
theorem dX12_reduced_0 : decode cX12_reduced 0 = .ok (.iconst 0, 1) := by decide +kernel
theorem dX12_reduced_1 : decode cX12_reduced 1 = .ok (.istore_n 1, 1) := by decide +kernel
theorem dX12_reduced_2 : decode cX12_reduced 2 = .ok (.iload_n 1, 1) := by decide +kernel
theorem dX12_reduced_3 : decode cX12_reduced 3 = .ok (.aload_n 0, 1) := by decide +kernel
theorem dX12_reduced_4 : decode cX12_reduced 4 = .ok (.getfield 85, 3) := by decide +kernel
theorem dX12_reduced_7 : decode cX12_reduced 7 = .ok (.if_icmp .ge 105, 3) := by decide +kernel
theorem dX12_reduced_10 : decode cX12_reduced 10 = .ok (.aload_n 0, 1) := by decide +kernel
theorem dX12_reduced_11 : decode cX12_reduced 11 = .ok (.getfield 88, 3) := by decide +kernel
theorem dX12_reduced_14 : decode cX12_reduced 14 = .ok (.iload_n 1, 1) := by decide +kernel
theorem dX12_reduced_15 : decode cX12_reduced 15 = .ok (.iaload, 1) := by decide +kernel
theorem dX12_reduced_16 : decode cX12_reduced 16 = .ok (.ifCond .ne 6, 3) := by decide +kernel
theorem dX12_reduced_19 : decode cX12_reduced 19 = .ok (.goto 87, 3) := by decide +kernel
theorem dX12_reduced_22 : decode cX12_reduced 22 = .ok (.aload_n 0, 1) := by decide +kernel
theorem dX12_reduced_23 : decode cX12_reduced 23 = .ok (.getfield 79, 3) := by decide +kernel
theorem dX12_reduced_26 : decode cX12_reduced 26 = .ok (.iload_n 1, 1) := by decide +kernel
theorem dX12_reduced_27 : decode cX12_reduced 27 = .ok (.iaload, 1) := by decide +kernel
theorem dX12_reduced_28 : decode cX12_reduced 28 = .ok (.iconst (-1), 1) := by decide +kernel
theorem dX12_reduced_29 : decode cX12_reduced 29 = .ok (.if_icmp .ne 5, 3) := by decide +kernel
theorem dX12_reduced_32 : decode cX12_reduced 32 = .ok (.iload_n 1, 1) := by decide +kernel
theorem dX12_reduced_33 : decode cX12_reduced 33 = .ok (.ireturn, 1) := by decide +kernel
theorem dX12_reduced_34 : decode cX12_reduced 34 = .ok (.aload_n 0, 1) := by decide +kernel
theorem dX12_reduced_35 : decode cX12_reduced 35 = .ok (.getfield 41, 3) := by decide +kernel
theorem dX12_reduced_38 : decode cX12_reduced 38 = .ok (.aload_n 0, 1) := by decide +kernel
theorem dX12_reduced_39 : decode cX12_reduced 39 = .ok (.getfield 88, 3) := by decide +kernel
theorem dX12_reduced_42 : decode cX12_reduced 42 = .ok (.iload_n 1, 1) := by decide +kernel
theorem dX12_reduced_43 : decode cX12_reduced 43 = .ok (.iaload, 1) := by decide +kernel
theorem dX12_reduced_44 : decode cX12_reduced 44 = .ok (.isub, 1) := by decide +kernel
theorem dX12_reduced_45 : decode cX12_reduced 45 = .ok (.istore_n 2, 1) := by decide +kernel
theorem dX12_reduced_46 : decode cX12_reduced 46 = .ok (.sipush 325, 3) := by decide +kernel
theorem dX12_reduced_49 : decode cX12_reduced 49 = .ok (.aload_n 0, 1) := by decide +kernel
theorem dX12_reduced_50 : decode cX12_reduced 50 = .ok (.getfield 79, 3) := by decide +kernel
theorem dX12_reduced_53 : decode cX12_reduced 53 = .ok (.iload_n 1, 1) := by decide +kernel
theorem dX12_reduced_54 : decode cX12_reduced 54 = .ok (.iaload, 1) := by decide +kernel
theorem dX12_reduced_55 : decode cX12_reduced 55 = .ok (.imul, 1) := by decide +kernel
theorem dX12_reduced_56 : decode cX12_reduced 56 = .ok (.istore_n 3, 1) := by decide +kernel
theorem dX12_reduced_57 : decode cX12_reduced 57 = .ok (.iload_n 1, 1) := by decide +kernel
theorem dX12_reduced_58 : decode cX12_reduced 58 = .ok (.istore 4, 2) := by decide +kernel
theorem dX12_reduced_60 : decode cX12_reduced 60 = .ok (.iload 4, 2) := by decide +kernel
theorem dX12_reduced_62 : decode cX12_reduced 62 = .ok (.aload_n 0, 1) := by decide +kernel
theorem dX12_reduced_63 : decode cX12_reduced 63 = .ok (.getfield 85, 3) := by decide +kernel
theorem dX12_reduced_66 : decode cX12_reduced 66 = .ok (.if_icmp .ge 40, 3) := by decide +kernel
theorem dX12_reduced_69 : decode cX12_reduced 69 = .ok (.aload_n 0, 1) := by decide +kernel
theorem dX12_reduced_70 : decode cX12_reduced 70 = .ok (.getfield 88, 3) := by decide +kernel
theorem dX12_reduced_73 : decode cX12_reduced 73 = .ok (.iload 4, 2) := by decide +kernel
theorem dX12_reduced_75 : decode cX12_reduced 75 = .ok (.aload_n 0, 1) := by decide +kernel
theorem dX12_reduced_76 : decode cX12_reduced 76 = .ok (.getfield 88, 3) := by decide +kernel
theorem dX12_reduced_79 : decode cX12_reduced 79 = .ok (.iload 4, 2) := by decide +kernel
theorem dX12_reduced_81 : decode cX12_reduced 81 = .ok (.iaload, 1) := by decide +kernel
theorem dX12_reduced_82 : decode cX12_reduced 82 = .ok (.iload_n 2, 1) := by decide +kernel
theorem dX12_reduced_83 : decode cX12_reduced 83 = .ok (.aload_n 0, 1) := by decide +kernel
theorem dX12_reduced_84 : decode cX12_reduced 84 = .ok (.getfield 76, 3) := by decide +kernel
theorem dX12_reduced_87 : decode cX12_reduced 87 = .ok (.iload_n 3, 1) := by decide +kernel
theorem dX12_reduced_88 : decode cX12_reduced 88 = .ok (.iload 4, 2) := by decide +kernel
theorem dX12_reduced_90 : decode cX12_reduced 90 = .ok (.iadd, 1) := by decide +kernel
theorem dX12_reduced_91 : decode cX12_reduced 91 = .ok (.iaload, 1) := by decide +kernel
theorem dX12_reduced_92 : decode cX12_reduced 92 = .ok (.imul, 1) := by decide +kernel
theorem dX12_reduced_93 : decode cX12_reduced 93 = .ok (.iadd, 1) := by decide +kernel
theorem dX12_reduced_94 : decode cX12_reduced 94 = .ok (.aload_n 0, 1) := by decide +kernel
theorem dX12_reduced_95 : decode cX12_reduced 95 = .ok (.getfield 41, 3) := by decide +kernel
theorem dX12_reduced_98 : decode cX12_reduced 98 = .ok (.irem, 1) := by decide +kernel
theorem dX12_reduced_99 : decode cX12_reduced 99 = .ok (.iastore, 1) := by decide +kernel
theorem dX12_reduced_100 : decode cX12_reduced 100 = .ok (.iinc 4 1, 3) := by decide +kernel
theorem dX12_reduced_103 : decode cX12_reduced 103 = .ok (.goto (-43), 3) := by decide +kernel
theorem dX12_reduced_106 : decode cX12_reduced 106 = .ok (.iinc 1 1, 3) := by decide +kernel
theorem dX12_reduced_109 : decode cX12_reduced 109 = .ok (.goto (-107), 3) := by decide +kernel
theorem dX12_reduced_112 : decode cX12_reduced 112 = .ok (.iconst (-1), 1) := by decide +kernel
theorem dX12_reduced_113 : decode cX12_reduced 113 = .ok (.ireturn, 1) := by decide +kernel
theorem dX12_piles_0 : decode cX12_piles 0 = .ok (.aload_n 0, 1) := by decide +kernel
theorem dX12_piles_1 : decode cX12_piles 1 = .ok (.invokevirtual 334, 3) := by decide +kernel
theorem dX12_piles_4 : decode cX12_piles 4 = .ok (.istore_n 1, 1) := by decide +kernel
theorem dX12_piles_5 : decode cX12_piles 5 = .ok (.iload_n 1, 1) := by decide +kernel
theorem dX12_piles_6 : decode cX12_piles 6 = .ok (.iconst (-1), 1) := by decide +kernel
theorem dX12_piles_7 : decode cX12_piles 7 = .ok (.if_icmp .ne 5, 3) := by decide +kernel
theorem dX12_piles_10 : decode cX12_piles 10 = .ok (.iconst 0, 1) := by decide +kernel
theorem dX12_piles_11 : decode cX12_piles 11 = .ok (.ireturn, 1) := by decide +kernel
theorem dX12_piles_12 : decode cX12_piles 12 = .ok (.aload_n 0, 1) := by decide +kernel
theorem dX12_piles_13 : decode cX12_piles 13 = .ok (.aload_n 0, 1) := by decide +kernel
theorem dX12_piles_14 : decode cX12_piles 14 = .ok (.getfield 88, 3) := by decide +kernel
theorem dX12_piles_17 : decode cX12_piles 17 = .ok (.iload_n 1, 1) := by decide +kernel
theorem dX12_piles_18 : decode cX12_piles 18 = .ok (.iaload, 1) := by decide +kernel
theorem dX12_piles_19 : decode cX12_piles 19 = .ok (.invokevirtual 328, 3) := by decide +kernel
theorem dX12_piles_22 : decode cX12_piles 22 = .ok (.istore_n 2, 1) := by decide +kernel
theorem dX12_piles_23 : decode cX12_piles 23 = .ok (.iconst 0, 1) := by decide +kernel
theorem dX12_piles_24 : decode cX12_piles 24 = .ok (.istore_n 3, 1) := by decide +kernel
theorem dX12_piles_25 : decode cX12_piles 25 = .ok (.iload_n 3, 1) := by decide +kernel
theorem dX12_piles_26 : decode cX12_piles 26 = .ok (.aload_n 0, 1) := by decide +kernel
theorem dX12_piles_27 : decode cX12_piles 27 = .ok (.getfield 85, 3) := by decide +kernel
theorem dX12_piles_30 : decode cX12_piles 30 = .ok (.if_icmp .ge 37, 3) := by decide +kernel
theorem dX12_piles_33 : decode cX12_piles 33 = .ok (.aload_n 0, 1) := by decide +kernel
theorem dX12_piles_34 : decode cX12_piles 34 = .ok (.getfield 76, 3) := by decide +kernel
theorem dX12_piles_37 : decode cX12_piles 37 = .ok (.sipush 325, 3) := by decide +kernel
theorem dX12_piles_40 : decode cX12_piles 40 = .ok (.aload_n 0, 1) := by decide +kernel
theorem dX12_piles_41 : decode cX12_piles 41 = .ok (.getfield 82, 3) := by decide +kernel
theorem dX12_piles_44 : decode cX12_piles 44 = .ok (.imul, 1) := by decide +kernel
theorem dX12_piles_45 : decode cX12_piles 45 = .ok (.iload_n 3, 1) := by decide +kernel
theorem dX12_piles_46 : decode cX12_piles 46 = .ok (.iadd, 1) := by decide +kernel
theorem dX12_piles_47 : decode cX12_piles 47 = .ok (.aload_n 0, 1) := by decide +kernel
theorem dX12_piles_48 : decode cX12_piles 48 = .ok (.getfield 88, 3) := by decide +kernel
theorem dX12_piles_51 : decode cX12_piles 51 = .ok (.iload_n 3, 1) := by decide +kernel
theorem dX12_piles_52 : decode cX12_piles 52 = .ok (.iaload, 1) := by decide +kernel
theorem dX12_piles_53 : decode cX12_piles 53 = .ok (.iload_n 2, 1) := by decide +kernel
theorem dX12_piles_54 : decode cX12_piles 54 = .ok (.imul, 1) := by decide +kernel
theorem dX12_piles_55 : decode cX12_piles 55 = .ok (.aload_n 0, 1) := by decide +kernel
theorem dX12_piles_56 : decode cX12_piles 56 = .ok (.getfield 41, 3) := by decide +kernel
theorem dX12_piles_59 : decode cX12_piles 59 = .ok (.irem, 1) := by decide +kernel
theorem dX12_piles_60 : decode cX12_piles 60 = .ok (.iastore, 1) := by decide +kernel
theorem dX12_piles_61 : decode cX12_piles 61 = .ok (.iinc 3 1, 3) := by decide +kernel
theorem dX12_piles_64 : decode cX12_piles 64 = .ok (.goto (-39), 3) := by decide +kernel
theorem dX12_piles_67 : decode cX12_piles 67 = .ok (.aload_n 0, 1) := by decide +kernel
theorem dX12_piles_68 : decode cX12_piles 68 = .ok (.getfield 79, 3) := by decide +kernel
theorem dX12_piles_71 : decode cX12_piles 71 = .ok (.iload_n 1, 1) := by decide +kernel
theorem dX12_piles_72 : decode cX12_piles 72 = .ok (.aload_n 0, 1) := by decide +kernel
theorem dX12_piles_73 : decode cX12_piles 73 = .ok (.getfield 82, 3) := by decide +kernel
theorem dX12_piles_76 : decode cX12_piles 76 = .ok (.iastore, 1) := by decide +kernel
theorem dX12_piles_77 : decode cX12_piles 77 = .ok (.aload_n 0, 1) := by decide +kernel
theorem dX12_piles_78 : decode cX12_piles 78 = .ok (.dup, 1) := by decide +kernel
theorem dX12_piles_79 : decode cX12_piles 79 = .ok (.getfield 82, 3) := by decide +kernel
theorem dX12_piles_82 : decode cX12_piles 82 = .ok (.iconst 1, 1) := by decide +kernel
theorem dX12_piles_83 : decode cX12_piles 83 = .ok (.iadd, 1) := by decide +kernel
theorem dX12_piles_84 : decode cX12_piles 84 = .ok (.putfield 82, 3) := by decide +kernel
theorem dX12_piles_87 : decode cX12_piles 87 = .ok (.iconst 1, 1) := by decide +kernel
theorem dX12_piles_88 : decode cX12_piles 88 = .ok (.ireturn, 1) := by decide +kernel
theorem dX12_termAt_0 : decode cX12_termAt 0 = .ok (.iload_n 0, 1) := by decide +kernel
theorem dX12_termAt_1 : decode cX12_termAt 1 = .ok (.iload_n 1, 1) := by decide +kernel
theorem dX12_termAt_2 : decode cX12_termAt 2 = .ok (.iadd, 1) := by decide +kernel
theorem dX12_termAt_3 : decode cX12_termAt 3 = .ok (.iload_n 0, 1) := by decide +kernel
theorem dX12_termAt_4 : decode cX12_termAt 4 = .ok (.iload_n 1, 1) := by decide +kernel
theorem dX12_termAt_5 : decode cX12_termAt 5 = .ok (.iadd, 1) := by decide +kernel
theorem dX12_termAt_6 : decode cX12_termAt 6 = .ok (.iconst 1, 1) := by decide +kernel
theorem dX12_termAt_7 : decode cX12_termAt 7 = .ok (.iadd, 1) := by decide +kernel
theorem dX12_termAt_8 : decode cX12_termAt 8 = .ok (.imul, 1) := by decide +kernel
theorem dX12_termAt_9 : decode cX12_termAt 9 = .ok (.iconst 2, 1) := by decide +kernel
theorem dX12_termAt_10 : decode cX12_termAt 10 = .ok (.idiv, 1) := by decide +kernel
theorem dX12_termAt_11 : decode cX12_termAt 11 = .ok (.iload_n 1, 1) := by decide +kernel
theorem dX12_termAt_12 : decode cX12_termAt 12 = .ok (.iadd, 1) := by decide +kernel
theorem dX12_termAt_13 : decode cX12_termAt 13 = .ok (.ireturn, 1) := by decide +kernel
theorem dX12_solves_0 : decode cX12_solves 0 = .ok (.iconst 0, 1) := by decide +kernel
theorem dX12_solves_1 : decode cX12_solves 1 = .ok (.istore_n 3, 1) := by decide +kernel
theorem dX12_solves_2 : decode cX12_solves 2 = .ok (.iconst 0, 1) := by decide +kernel
theorem dX12_solves_3 : decode cX12_solves 3 = .ok (.istore 4, 2) := by decide +kernel
theorem dX12_solves_5 : decode cX12_solves 5 = .ok (.iload 4, 2) := by decide +kernel
theorem dX12_solves_7 : decode cX12_solves 7 = .ok (.iload_n 2, 1) := by decide +kernel
theorem dX12_solves_8 : decode cX12_solves 8 = .ok (.if_icmp .ge 249, 3) := by decide +kernel
theorem dX12_solves_11 : decode cX12_solves 11 = .ok (.aload_n 0, 1) := by decide +kernel
theorem dX12_solves_12 : decode cX12_solves 12 = .ok (.getfield 100, 3) := by decide +kernel
theorem dX12_solves_15 : decode cX12_solves 15 = .ok (.iload 4, 2) := by decide +kernel
theorem dX12_solves_17 : decode cX12_solves 17 = .ok (.iconst (-1), 1) := by decide +kernel
theorem dX12_solves_18 : decode cX12_solves 18 = .ok (.iastore, 1) := by decide +kernel
theorem dX12_solves_19 : decode cX12_solves 19 = .ok (.iload_n 3, 1) := by decide +kernel
theorem dX12_solves_20 : decode cX12_solves 20 = .ok (.istore 5, 2) := by decide +kernel
theorem dX12_solves_22 : decode cX12_solves 22 = .ok (.iload 5, 2) := by decide +kernel
theorem dX12_solves_24 : decode cX12_solves 24 = .ok (.iload_n 1, 1) := by decide +kernel
theorem dX12_solves_25 : decode cX12_solves 25 = .ok (.if_icmp .ge 25, 3) := by decide +kernel
theorem dX12_solves_28 : decode cX12_solves 28 = .ok (.aload_n 0, 1) := by decide +kernel
theorem dX12_solves_29 : decode cX12_solves 29 = .ok (.getfield 97, 3) := by decide +kernel
theorem dX12_solves_32 : decode cX12_solves 32 = .ok (.bipush 30, 2) := by decide +kernel
theorem dX12_solves_34 : decode cX12_solves 34 = .ok (.iload 5, 2) := by decide +kernel
theorem dX12_solves_36 : decode cX12_solves 36 = .ok (.imul, 1) := by decide +kernel
theorem dX12_solves_37 : decode cX12_solves 37 = .ok (.iload 4, 2) := by decide +kernel
theorem dX12_solves_39 : decode cX12_solves 39 = .ok (.iadd, 1) := by decide +kernel
theorem dX12_solves_40 : decode cX12_solves 40 = .ok (.iaload, 1) := by decide +kernel
theorem dX12_solves_41 : decode cX12_solves 41 = .ok (.ifCond .ne 9, 3) := by decide +kernel
theorem dX12_solves_44 : decode cX12_solves 44 = .ok (.iinc 5 1, 3) := by decide +kernel
theorem dX12_solves_47 : decode cX12_solves 47 = .ok (.goto (-25), 3) := by decide +kernel
theorem dX12_solves_50 : decode cX12_solves 50 = .ok (.iload 5, 2) := by decide +kernel
theorem dX12_solves_52 : decode cX12_solves 52 = .ok (.iload_n 1, 1) := by decide +kernel
theorem dX12_solves_53 : decode cX12_solves 53 = .ok (.if_icmp .ne 6, 3) := by decide +kernel
theorem dX12_solves_56 : decode cX12_solves 56 = .ok (.goto 195, 3) := by decide +kernel
theorem dX12_solves_59 : decode cX12_solves 59 = .ok (.aload_n 0, 1) := by decide +kernel
theorem dX12_solves_60 : decode cX12_solves 60 = .ok (.iload 5, 2) := by decide +kernel
theorem dX12_solves_62 : decode cX12_solves 62 = .ok (.iload_n 3, 1) := by decide +kernel
theorem dX12_solves_63 : decode cX12_solves 63 = .ok (.iload_n 2, 1) := by decide +kernel
theorem dX12_solves_64 : decode cX12_solves 64 = .ok (.invokevirtual 337, 3) := by decide +kernel
theorem dX12_solves_67 : decode cX12_solves 67 = .ok (.aload_n 0, 1) := by decide +kernel
theorem dX12_solves_68 : decode cX12_solves 68 = .ok (.aload_n 0, 1) := by decide +kernel
theorem dX12_solves_69 : decode cX12_solves 69 = .ok (.getfield 97, 3) := by decide +kernel
theorem dX12_solves_72 : decode cX12_solves 72 = .ok (.bipush 30, 2) := by decide +kernel
theorem dX12_solves_74 : decode cX12_solves 74 = .ok (.iload_n 3, 1) := by decide +kernel
theorem dX12_solves_75 : decode cX12_solves 75 = .ok (.imul, 1) := by decide +kernel
theorem dX12_solves_76 : decode cX12_solves 76 = .ok (.iload 4, 2) := by decide +kernel
theorem dX12_solves_78 : decode cX12_solves 78 = .ok (.iadd, 1) := by decide +kernel
theorem dX12_solves_79 : decode cX12_solves 79 = .ok (.iaload, 1) := by decide +kernel
theorem dX12_solves_80 : decode cX12_solves 80 = .ok (.invokevirtual 328, 3) := by decide +kernel
theorem dX12_solves_83 : decode cX12_solves 83 = .ok (.istore 6, 2) := by decide +kernel
theorem dX12_solves_85 : decode cX12_solves 85 = .ok (.iconst 0, 1) := by decide +kernel
theorem dX12_solves_86 : decode cX12_solves 86 = .ok (.istore 7, 2) := by decide +kernel
theorem dX12_solves_88 : decode cX12_solves 88 = .ok (.iload 7, 2) := by decide +kernel
theorem dX12_solves_90 : decode cX12_solves 90 = .ok (.iload_n 2, 1) := by decide +kernel
theorem dX12_solves_91 : decode cX12_solves 91 = .ok (.if_icmp .ge 41, 3) := by decide +kernel
theorem dX12_solves_94 : decode cX12_solves 94 = .ok (.aload_n 0, 1) := by decide +kernel
theorem dX12_solves_95 : decode cX12_solves 95 = .ok (.getfield 97, 3) := by decide +kernel
theorem dX12_solves_98 : decode cX12_solves 98 = .ok (.bipush 30, 2) := by decide +kernel
theorem dX12_solves_100 : decode cX12_solves 100 = .ok (.iload_n 3, 1) := by decide +kernel
theorem dX12_solves_101 : decode cX12_solves 101 = .ok (.imul, 1) := by decide +kernel
theorem dX12_solves_102 : decode cX12_solves 102 = .ok (.iload 7, 2) := by decide +kernel
theorem dX12_solves_104 : decode cX12_solves 104 = .ok (.iadd, 1) := by decide +kernel
theorem dX12_solves_105 : decode cX12_solves 105 = .ok (.aload_n 0, 1) := by decide +kernel
theorem dX12_solves_106 : decode cX12_solves 106 = .ok (.getfield 97, 3) := by decide +kernel
theorem dX12_solves_109 : decode cX12_solves 109 = .ok (.bipush 30, 2) := by decide +kernel
theorem dX12_solves_111 : decode cX12_solves 111 = .ok (.iload_n 3, 1) := by decide +kernel
theorem dX12_solves_112 : decode cX12_solves 112 = .ok (.imul, 1) := by decide +kernel
theorem dX12_solves_113 : decode cX12_solves 113 = .ok (.iload 7, 2) := by decide +kernel
theorem dX12_solves_115 : decode cX12_solves 115 = .ok (.iadd, 1) := by decide +kernel
theorem dX12_solves_116 : decode cX12_solves 116 = .ok (.iaload, 1) := by decide +kernel
theorem dX12_solves_117 : decode cX12_solves 117 = .ok (.iload 6, 2) := by decide +kernel
theorem dX12_solves_119 : decode cX12_solves 119 = .ok (.imul, 1) := by decide +kernel
theorem dX12_solves_120 : decode cX12_solves 120 = .ok (.aload_n 0, 1) := by decide +kernel
theorem dX12_solves_121 : decode cX12_solves 121 = .ok (.getfield 41, 3) := by decide +kernel
theorem dX12_solves_124 : decode cX12_solves 124 = .ok (.irem, 1) := by decide +kernel
theorem dX12_solves_125 : decode cX12_solves 125 = .ok (.iastore, 1) := by decide +kernel
theorem dX12_solves_126 : decode cX12_solves 126 = .ok (.iinc 7 1, 3) := by decide +kernel
theorem dX12_solves_129 : decode cX12_solves 129 = .ok (.goto (-41), 3) := by decide +kernel
theorem dX12_solves_132 : decode cX12_solves 132 = .ok (.iconst 0, 1) := by decide +kernel
theorem dX12_solves_133 : decode cX12_solves 133 = .ok (.istore 7, 2) := by decide +kernel
theorem dX12_solves_135 : decode cX12_solves 135 = .ok (.iload 7, 2) := by decide +kernel
theorem dX12_solves_137 : decode cX12_solves 137 = .ok (.iload_n 1, 1) := by decide +kernel
theorem dX12_solves_138 : decode cX12_solves 138 = .ok (.if_icmp .ge 102, 3) := by decide +kernel
theorem dX12_solves_141 : decode cX12_solves 141 = .ok (.aload_n 0, 1) := by decide +kernel
theorem dX12_solves_142 : decode cX12_solves 142 = .ok (.getfield 97, 3) := by decide +kernel
theorem dX12_solves_145 : decode cX12_solves 145 = .ok (.bipush 30, 2) := by decide +kernel
theorem dX12_solves_147 : decode cX12_solves 147 = .ok (.iload 7, 2) := by decide +kernel
theorem dX12_solves_149 : decode cX12_solves 149 = .ok (.imul, 1) := by decide +kernel
theorem dX12_solves_150 : decode cX12_solves 150 = .ok (.iload 4, 2) := by decide +kernel
theorem dX12_solves_152 : decode cX12_solves 152 = .ok (.iadd, 1) := by decide +kernel
theorem dX12_solves_153 : decode cX12_solves 153 = .ok (.iaload, 1) := by decide +kernel
theorem dX12_solves_154 : decode cX12_solves 154 = .ok (.istore 8, 2) := by decide +kernel
theorem dX12_solves_156 : decode cX12_solves 156 = .ok (.iload 7, 2) := by decide +kernel
theorem dX12_solves_158 : decode cX12_solves 158 = .ok (.iload_n 3, 1) := by decide +kernel
theorem dX12_solves_159 : decode cX12_solves 159 = .ok (.if_icmp .eq 75, 3) := by decide +kernel
theorem dX12_solves_162 : decode cX12_solves 162 = .ok (.iload 8, 2) := by decide +kernel
theorem dX12_solves_164 : decode cX12_solves 164 = .ok (.ifCond .ne 6, 3) := by decide +kernel
theorem dX12_solves_167 : decode cX12_solves 167 = .ok (.goto 67, 3) := by decide +kernel
theorem dX12_solves_170 : decode cX12_solves 170 = .ok (.iconst 0, 1) := by decide +kernel
theorem dX12_solves_171 : decode cX12_solves 171 = .ok (.istore 9, 2) := by decide +kernel
theorem dX12_solves_173 : decode cX12_solves 173 = .ok (.iload 9, 2) := by decide +kernel
theorem dX12_solves_175 : decode cX12_solves 175 = .ok (.iload_n 2, 1) := by decide +kernel
theorem dX12_solves_176 : decode cX12_solves 176 = .ok (.if_icmp .ge 58, 3) := by decide +kernel
theorem dX12_solves_179 : decode cX12_solves 179 = .ok (.aload_n 0, 1) := by decide +kernel
theorem dX12_solves_180 : decode cX12_solves 180 = .ok (.getfield 97, 3) := by decide +kernel
theorem dX12_solves_183 : decode cX12_solves 183 = .ok (.bipush 30, 2) := by decide +kernel
theorem dX12_solves_185 : decode cX12_solves 185 = .ok (.iload 7, 2) := by decide +kernel
theorem dX12_solves_187 : decode cX12_solves 187 = .ok (.imul, 1) := by decide +kernel
theorem dX12_solves_188 : decode cX12_solves 188 = .ok (.iload 9, 2) := by decide +kernel
theorem dX12_solves_190 : decode cX12_solves 190 = .ok (.iadd, 1) := by decide +kernel
theorem dX12_solves_191 : decode cX12_solves 191 = .ok (.aload_n 0, 1) := by decide +kernel
theorem dX12_solves_192 : decode cX12_solves 192 = .ok (.aload_n 0, 1) := by decide +kernel
theorem dX12_solves_193 : decode cX12_solves 193 = .ok (.getfield 97, 3) := by decide +kernel
theorem dX12_solves_196 : decode cX12_solves 196 = .ok (.bipush 30, 2) := by decide +kernel
theorem dX12_solves_198 : decode cX12_solves 198 = .ok (.iload 7, 2) := by decide +kernel
theorem dX12_solves_200 : decode cX12_solves 200 = .ok (.imul, 1) := by decide +kernel
theorem dX12_solves_201 : decode cX12_solves 201 = .ok (.iload 9, 2) := by decide +kernel
theorem dX12_solves_203 : decode cX12_solves 203 = .ok (.iadd, 1) := by decide +kernel
theorem dX12_solves_204 : decode cX12_solves 204 = .ok (.iaload, 1) := by decide +kernel
theorem dX12_solves_205 : decode cX12_solves 205 = .ok (.i2l, 1) := by decide +kernel
theorem dX12_solves_206 : decode cX12_solves 206 = .ok (.iload 8, 2) := by decide +kernel
theorem dX12_solves_208 : decode cX12_solves 208 = .ok (.i2l, 1) := by decide +kernel
theorem dX12_solves_209 : decode cX12_solves 209 = .ok (.aload_n 0, 1) := by decide +kernel
theorem dX12_solves_210 : decode cX12_solves 210 = .ok (.getfield 97, 3) := by decide +kernel
theorem dX12_solves_213 : decode cX12_solves 213 = .ok (.bipush 30, 2) := by decide +kernel
theorem dX12_solves_215 : decode cX12_solves 215 = .ok (.iload_n 3, 1) := by decide +kernel
theorem dX12_solves_216 : decode cX12_solves 216 = .ok (.imul, 1) := by decide +kernel
theorem dX12_solves_217 : decode cX12_solves 217 = .ok (.iload 9, 2) := by decide +kernel
theorem dX12_solves_219 : decode cX12_solves 219 = .ok (.iadd, 1) := by decide +kernel
theorem dX12_solves_220 : decode cX12_solves 220 = .ok (.iaload, 1) := by decide +kernel
theorem dX12_solves_221 : decode cX12_solves 221 = .ok (.i2l, 1) := by decide +kernel
theorem dX12_solves_222 : decode cX12_solves 222 = .ok (.lmul, 1) := by decide +kernel
theorem dX12_solves_223 : decode cX12_solves 223 = .ok (.lsub, 1) := by decide +kernel
theorem dX12_solves_224 : decode cX12_solves 224 = .ok (.invokevirtual 176, 3) := by decide +kernel
theorem dX12_solves_227 : decode cX12_solves 227 = .ok (.iastore, 1) := by decide +kernel
theorem dX12_solves_228 : decode cX12_solves 228 = .ok (.iinc 9 1, 3) := by decide +kernel
theorem dX12_solves_231 : decode cX12_solves 231 = .ok (.goto (-58), 3) := by decide +kernel
theorem dX12_solves_234 : decode cX12_solves 234 = .ok (.iinc 7 1, 3) := by decide +kernel
theorem dX12_solves_237 : decode cX12_solves 237 = .ok (.goto (-102), 3) := by decide +kernel
theorem dX12_solves_240 : decode cX12_solves 240 = .ok (.aload_n 0, 1) := by decide +kernel
theorem dX12_solves_241 : decode cX12_solves 241 = .ok (.getfield 100, 3) := by decide +kernel
theorem dX12_solves_244 : decode cX12_solves 244 = .ok (.iload 4, 2) := by decide +kernel
theorem dX12_solves_246 : decode cX12_solves 246 = .ok (.iload_n 3, 1) := by decide +kernel
theorem dX12_solves_247 : decode cX12_solves 247 = .ok (.iastore, 1) := by decide +kernel
theorem dX12_solves_248 : decode cX12_solves 248 = .ok (.iinc 3 1, 3) := by decide +kernel
theorem dX12_solves_251 : decode cX12_solves 251 = .ok (.iinc 4 1, 3) := by decide +kernel
theorem dX12_solves_254 : decode cX12_solves 254 = .ok (.goto (-249), 3) := by decide +kernel
theorem dX12_solves_257 : decode cX12_solves 257 = .ok (.iconst 0, 1) := by decide +kernel
theorem dX12_solves_258 : decode cX12_solves 258 = .ok (.istore 4, 2) := by decide +kernel
theorem dX12_solves_260 : decode cX12_solves 260 = .ok (.iload 4, 2) := by decide +kernel
theorem dX12_solves_262 : decode cX12_solves 262 = .ok (.iload_n 2, 1) := by decide +kernel
theorem dX12_solves_263 : decode cX12_solves 263 = .ok (.if_icmp .ge 20, 3) := by decide +kernel
theorem dX12_solves_266 : decode cX12_solves 266 = .ok (.aload_n 0, 1) := by decide +kernel
theorem dX12_solves_267 : decode cX12_solves 267 = .ok (.getfield 100, 3) := by decide +kernel
theorem dX12_solves_270 : decode cX12_solves 270 = .ok (.iload 4, 2) := by decide +kernel
theorem dX12_solves_272 : decode cX12_solves 272 = .ok (.iaload, 1) := by decide +kernel
theorem dX12_solves_273 : decode cX12_solves 273 = .ok (.iconst (-1), 1) := by decide +kernel
theorem dX12_solves_274 : decode cX12_solves 274 = .ok (.if_icmp .eq 9, 3) := by decide +kernel
theorem dX12_solves_277 : decode cX12_solves 277 = .ok (.iinc 4 1, 3) := by decide +kernel
theorem dX12_solves_280 : decode cX12_solves 280 = .ok (.goto (-20), 3) := by decide +kernel
theorem dX12_solves_283 : decode cX12_solves 283 = .ok (.iload 4, 2) := by decide +kernel
theorem dX12_solves_285 : decode cX12_solves 285 = .ok (.iload_n 2, 1) := by decide +kernel
theorem dX12_solves_286 : decode cX12_solves 286 = .ok (.if_icmp .ne 5, 3) := by decide +kernel
theorem dX12_solves_289 : decode cX12_solves 289 = .ok (.iconst 0, 1) := by decide +kernel
theorem dX12_solves_290 : decode cX12_solves 290 = .ok (.ireturn, 1) := by decide +kernel
theorem dX12_solves_291 : decode cX12_solves 291 = .ok (.iconst 0, 1) := by decide +kernel
theorem dX12_solves_292 : decode cX12_solves 292 = .ok (.istore 5, 2) := by decide +kernel
theorem dX12_solves_294 : decode cX12_solves 294 = .ok (.iload 5, 2) := by decide +kernel
theorem dX12_solves_296 : decode cX12_solves 296 = .ok (.iload_n 2, 1) := by decide +kernel
theorem dX12_solves_297 : decode cX12_solves 297 = .ok (.if_icmp .ge 66, 3) := by decide +kernel
theorem dX12_solves_300 : decode cX12_solves 300 = .ok (.aload_n 0, 1) := by decide +kernel
theorem dX12_solves_301 : decode cX12_solves 301 = .ok (.getfield 94, 3) := by decide +kernel
theorem dX12_solves_304 : decode cX12_solves 304 = .ok (.iload 5, 2) := by decide +kernel
theorem dX12_solves_306 : decode cX12_solves 306 = .ok (.aload_n 0, 1) := by decide +kernel
theorem dX12_solves_307 : decode cX12_solves 307 = .ok (.getfield 100, 3) := by decide +kernel
theorem dX12_solves_310 : decode cX12_solves 310 = .ok (.iload 5, 2) := by decide +kernel
theorem dX12_solves_312 : decode cX12_solves 312 = .ok (.iaload, 1) := by decide +kernel
theorem dX12_solves_313 : decode cX12_solves 313 = .ok (.iconst (-1), 1) := by decide +kernel
theorem dX12_solves_314 : decode cX12_solves 314 = .ok (.if_icmp .eq 30, 3) := by decide +kernel
theorem dX12_solves_317 : decode cX12_solves 317 = .ok (.aload_n 0, 1) := by decide +kernel
theorem dX12_solves_318 : decode cX12_solves 318 = .ok (.aload_n 0, 1) := by decide +kernel
theorem dX12_solves_319 : decode cX12_solves 319 = .ok (.getfield 97, 3) := by decide +kernel
theorem dX12_solves_322 : decode cX12_solves 322 = .ok (.bipush 30, 2) := by decide +kernel
theorem dX12_solves_324 : decode cX12_solves 324 = .ok (.aload_n 0, 1) := by decide +kernel
theorem dX12_solves_325 : decode cX12_solves 325 = .ok (.getfield 100, 3) := by decide +kernel
theorem dX12_solves_328 : decode cX12_solves 328 = .ok (.iload 5, 2) := by decide +kernel
theorem dX12_solves_330 : decode cX12_solves 330 = .ok (.iaload, 1) := by decide +kernel
theorem dX12_solves_331 : decode cX12_solves 331 = .ok (.imul, 1) := by decide +kernel
theorem dX12_solves_332 : decode cX12_solves 332 = .ok (.iload 4, 2) := by decide +kernel
theorem dX12_solves_334 : decode cX12_solves 334 = .ok (.iadd, 1) := by decide +kernel
theorem dX12_solves_335 : decode cX12_solves 335 = .ok (.iaload, 1) := by decide +kernel
theorem dX12_solves_336 : decode cX12_solves 336 = .ok (.ineg, 1) := by decide +kernel
theorem dX12_solves_337 : decode cX12_solves 337 = .ok (.i2l, 1) := by decide +kernel
theorem dX12_solves_338 : decode cX12_solves 338 = .ok (.invokevirtual 176, 3) := by decide +kernel
theorem dX12_solves_341 : decode cX12_solves 341 = .ok (.goto 15, 3) := by decide +kernel
theorem dX12_solves_344 : decode cX12_solves 344 = .ok (.iload 5, 2) := by decide +kernel
theorem dX12_solves_346 : decode cX12_solves 346 = .ok (.iload 4, 2) := by decide +kernel
theorem dX12_solves_348 : decode cX12_solves 348 = .ok (.if_icmp .ne 7, 3) := by decide +kernel
theorem dX12_solves_351 : decode cX12_solves 351 = .ok (.iconst 1, 1) := by decide +kernel
theorem dX12_solves_352 : decode cX12_solves 352 = .ok (.goto 4, 3) := by decide +kernel
theorem dX12_solves_355 : decode cX12_solves 355 = .ok (.iconst 0, 1) := by decide +kernel
theorem dX12_solves_356 : decode cX12_solves 356 = .ok (.iastore, 1) := by decide +kernel
theorem dX12_solves_357 : decode cX12_solves 357 = .ok (.iinc 5 1, 3) := by decide +kernel
theorem dX12_solves_360 : decode cX12_solves 360 = .ok (.goto (-66), 3) := by decide +kernel
theorem dX12_solves_363 : decode cX12_solves 363 = .ok (.iconst 1, 1) := by decide +kernel
theorem dX12_solves_364 : decode cX12_solves 364 = .ok (.ireturn, 1) := by decide +kernel
theorem dX12_swapsRows_0 : decode cX12_swapsRows 0 = .ok (.iconst 0, 1) := by decide +kernel
theorem dX12_swapsRows_1 : decode cX12_swapsRows 1 = .ok (.istore 4, 2) := by decide +kernel
theorem dX12_swapsRows_3 : decode cX12_swapsRows 3 = .ok (.iload 4, 2) := by decide +kernel
theorem dX12_swapsRows_5 : decode cX12_swapsRows 5 = .ok (.iload_n 3, 1) := by decide +kernel
theorem dX12_swapsRows_6 : decode cX12_swapsRows 6 = .ok (.if_icmp .ge 61, 3) := by decide +kernel
theorem dX12_swapsRows_9 : decode cX12_swapsRows 9 = .ok (.aload_n 0, 1) := by decide +kernel
theorem dX12_swapsRows_10 : decode cX12_swapsRows 10 = .ok (.getfield 97, 3) := by decide +kernel
theorem dX12_swapsRows_13 : decode cX12_swapsRows 13 = .ok (.bipush 30, 2) := by decide +kernel
theorem dX12_swapsRows_15 : decode cX12_swapsRows 15 = .ok (.iload_n 1, 1) := by decide +kernel
theorem dX12_swapsRows_16 : decode cX12_swapsRows 16 = .ok (.imul, 1) := by decide +kernel
theorem dX12_swapsRows_17 : decode cX12_swapsRows 17 = .ok (.iload 4, 2) := by decide +kernel
theorem dX12_swapsRows_19 : decode cX12_swapsRows 19 = .ok (.iadd, 1) := by decide +kernel
theorem dX12_swapsRows_20 : decode cX12_swapsRows 20 = .ok (.iaload, 1) := by decide +kernel
theorem dX12_swapsRows_21 : decode cX12_swapsRows 21 = .ok (.istore 5, 2) := by decide +kernel
theorem dX12_swapsRows_23 : decode cX12_swapsRows 23 = .ok (.aload_n 0, 1) := by decide +kernel
theorem dX12_swapsRows_24 : decode cX12_swapsRows 24 = .ok (.getfield 97, 3) := by decide +kernel
theorem dX12_swapsRows_27 : decode cX12_swapsRows 27 = .ok (.bipush 30, 2) := by decide +kernel
theorem dX12_swapsRows_29 : decode cX12_swapsRows 29 = .ok (.iload_n 1, 1) := by decide +kernel
theorem dX12_swapsRows_30 : decode cX12_swapsRows 30 = .ok (.imul, 1) := by decide +kernel
theorem dX12_swapsRows_31 : decode cX12_swapsRows 31 = .ok (.iload 4, 2) := by decide +kernel
theorem dX12_swapsRows_33 : decode cX12_swapsRows 33 = .ok (.iadd, 1) := by decide +kernel
theorem dX12_swapsRows_34 : decode cX12_swapsRows 34 = .ok (.aload_n 0, 1) := by decide +kernel
theorem dX12_swapsRows_35 : decode cX12_swapsRows 35 = .ok (.getfield 97, 3) := by decide +kernel
theorem dX12_swapsRows_38 : decode cX12_swapsRows 38 = .ok (.bipush 30, 2) := by decide +kernel
theorem dX12_swapsRows_40 : decode cX12_swapsRows 40 = .ok (.iload_n 2, 1) := by decide +kernel
theorem dX12_swapsRows_41 : decode cX12_swapsRows 41 = .ok (.imul, 1) := by decide +kernel
theorem dX12_swapsRows_42 : decode cX12_swapsRows 42 = .ok (.iload 4, 2) := by decide +kernel
theorem dX12_swapsRows_44 : decode cX12_swapsRows 44 = .ok (.iadd, 1) := by decide +kernel
theorem dX12_swapsRows_45 : decode cX12_swapsRows 45 = .ok (.iaload, 1) := by decide +kernel
theorem dX12_swapsRows_46 : decode cX12_swapsRows 46 = .ok (.iastore, 1) := by decide +kernel
theorem dX12_swapsRows_47 : decode cX12_swapsRows 47 = .ok (.aload_n 0, 1) := by decide +kernel
theorem dX12_swapsRows_48 : decode cX12_swapsRows 48 = .ok (.getfield 97, 3) := by decide +kernel
theorem dX12_swapsRows_51 : decode cX12_swapsRows 51 = .ok (.bipush 30, 2) := by decide +kernel
theorem dX12_swapsRows_53 : decode cX12_swapsRows 53 = .ok (.iload_n 2, 1) := by decide +kernel
theorem dX12_swapsRows_54 : decode cX12_swapsRows 54 = .ok (.imul, 1) := by decide +kernel
theorem dX12_swapsRows_55 : decode cX12_swapsRows 55 = .ok (.iload 4, 2) := by decide +kernel
theorem dX12_swapsRows_57 : decode cX12_swapsRows 57 = .ok (.iadd, 1) := by decide +kernel
theorem dX12_swapsRows_58 : decode cX12_swapsRows 58 = .ok (.iload 5, 2) := by decide +kernel
theorem dX12_swapsRows_60 : decode cX12_swapsRows 60 = .ok (.iastore, 1) := by decide +kernel
theorem dX12_swapsRows_61 : decode cX12_swapsRows 61 = .ok (.iinc 4 1, 3) := by decide +kernel
theorem dX12_swapsRows_64 : decode cX12_swapsRows 64 = .ok (.goto (-61), 3) := by decide +kernel
theorem dX12_swapsRows_67 : decode cX12_swapsRows 67 = .ok (.return_, 1) := by decide +kernel
theorem dX12_manyTerms_0 : decode cX12_manyTerms 0 = .ok (.iload_n 0, 1) := by decide +kernel
theorem dX12_manyTerms_1 : decode cX12_manyTerms 1 = .ok (.iconst 1, 1) := by decide +kernel
theorem dX12_manyTerms_2 : decode cX12_manyTerms 2 = .ok (.iadd, 1) := by decide +kernel
theorem dX12_manyTerms_3 : decode cX12_manyTerms 3 = .ok (.iload_n 0, 1) := by decide +kernel
theorem dX12_manyTerms_4 : decode cX12_manyTerms 4 = .ok (.iconst 2, 1) := by decide +kernel
theorem dX12_manyTerms_5 : decode cX12_manyTerms 5 = .ok (.iadd, 1) := by decide +kernel
theorem dX12_manyTerms_6 : decode cX12_manyTerms 6 = .ok (.imul, 1) := by decide +kernel
theorem dX12_manyTerms_7 : decode cX12_manyTerms 7 = .ok (.iconst 2, 1) := by decide +kernel
theorem dX12_manyTerms_8 : decode cX12_manyTerms 8 = .ok (.idiv, 1) := by decide +kernel
theorem dX12_manyTerms_9 : decode cX12_manyTerms 9 = .ok (.ireturn, 1) := by decide +kernel
theorem dX12_addsUnknowns_0 : decode cX12_addsUnknowns 0 = .ok (.iconst 0, 1) := by decide +kernel
theorem dX12_addsUnknowns_1 : decode cX12_addsUnknowns 1 = .ok (.istore 6, 2) := by decide +kernel
theorem dX12_addsUnknowns_3 : decode cX12_addsUnknowns 3 = .ok (.iload 6, 2) := by decide +kernel
theorem dX12_addsUnknowns_5 : decode cX12_addsUnknowns 5 = .ok (.iload_n 2, 1) := by decide +kernel
theorem dX12_addsUnknowns_6 : decode cX12_addsUnknowns 6 = .ok (.if_icmp .gt 121, 3) := by decide +kernel
theorem dX12_addsUnknowns_9 : decode cX12_addsUnknowns 9 = .ok (.iconst 0, 1) := by decide +kernel
theorem dX12_addsUnknowns_10 : decode cX12_addsUnknowns 10 = .ok (.istore 7, 2) := by decide +kernel
theorem dX12_addsUnknowns_12 : decode cX12_addsUnknowns 12 = .ok (.iload 6, 2) := by decide +kernel
theorem dX12_addsUnknowns_14 : decode cX12_addsUnknowns 14 = .ok (.iload 7, 2) := by decide +kernel
theorem dX12_addsUnknowns_16 : decode cX12_addsUnknowns 16 = .ok (.iadd, 1) := by decide +kernel
theorem dX12_addsUnknowns_17 : decode cX12_addsUnknowns 17 = .ok (.iload_n 2, 1) := by decide +kernel
theorem dX12_addsUnknowns_18 : decode cX12_addsUnknowns 18 = .ok (.if_icmp .gt 103, 3) := by decide +kernel
theorem dX12_addsUnknowns_21 : decode cX12_addsUnknowns 21 = .ok (.iconst 0, 1) := by decide +kernel
theorem dX12_addsUnknowns_22 : decode cX12_addsUnknowns 22 = .ok (.istore 8, 2) := by decide +kernel
theorem dX12_addsUnknowns_24 : decode cX12_addsUnknowns 24 = .ok (.iload 8, 2) := by decide +kernel
theorem dX12_addsUnknowns_26 : decode cX12_addsUnknowns 26 = .ok (.iconst 4, 1) := by decide +kernel
theorem dX12_addsUnknowns_27 : decode cX12_addsUnknowns 27 = .ok (.if_icmp .gt 88, 3) := by decide +kernel
theorem dX12_addsUnknowns_30 : decode cX12_addsUnknowns 30 = .ok (.iconst 0, 1) := by decide +kernel
theorem dX12_addsUnknowns_31 : decode cX12_addsUnknowns 31 = .ok (.istore 9, 2) := by decide +kernel
theorem dX12_addsUnknowns_33 : decode cX12_addsUnknowns 33 = .ok (.iload 8, 2) := by decide +kernel
theorem dX12_addsUnknowns_35 : decode cX12_addsUnknowns 35 = .ok (.iload 9, 2) := by decide +kernel
theorem dX12_addsUnknowns_37 : decode cX12_addsUnknowns 37 = .ok (.iadd, 1) := by decide +kernel
theorem dX12_addsUnknowns_38 : decode cX12_addsUnknowns 38 = .ok (.iconst 4, 1) := by decide +kernel
theorem dX12_addsUnknowns_39 : decode cX12_addsUnknowns 39 = .ok (.if_icmp .gt 70, 3) := by decide +kernel
theorem dX12_addsUnknowns_42 : decode cX12_addsUnknowns 42 = .ok (.bipush 30, 2) := by decide +kernel
theorem dX12_addsUnknowns_44 : decode cX12_addsUnknowns 44 = .ok (.iload 6, 2) := by decide +kernel
theorem dX12_addsUnknowns_46 : decode cX12_addsUnknowns 46 = .ok (.iload 8, 2) := by decide +kernel
theorem dX12_addsUnknowns_48 : decode cX12_addsUnknowns 48 = .ok (.iadd, 1) := by decide +kernel
theorem dX12_addsUnknowns_49 : decode cX12_addsUnknowns 49 = .ok (.iload 7, 2) := by decide +kernel
theorem dX12_addsUnknowns_51 : decode cX12_addsUnknowns 51 = .ok (.iload 9, 2) := by decide +kernel
theorem dX12_addsUnknowns_53 : decode cX12_addsUnknowns 53 = .ok (.iadd, 1) := by decide +kernel
theorem dX12_addsUnknowns_54 : decode cX12_addsUnknowns 54 = .ok (.invokestatic 340, 3) := by decide +kernel
theorem dX12_addsUnknowns_57 : decode cX12_addsUnknowns 57 = .ok (.imul, 1) := by decide +kernel
theorem dX12_addsUnknowns_58 : decode cX12_addsUnknowns 58 = .ok (.iload_n 1, 1) := by decide +kernel
theorem dX12_addsUnknowns_59 : decode cX12_addsUnknowns 59 = .ok (.iadd, 1) := by decide +kernel
theorem dX12_addsUnknowns_60 : decode cX12_addsUnknowns 60 = .ok (.iload 6, 2) := by decide +kernel
theorem dX12_addsUnknowns_62 : decode cX12_addsUnknowns 62 = .ok (.iload 7, 2) := by decide +kernel
theorem dX12_addsUnknowns_64 : decode cX12_addsUnknowns 64 = .ok (.invokestatic 340, 3) := by decide +kernel
theorem dX12_addsUnknowns_67 : decode cX12_addsUnknowns 67 = .ok (.iadd, 1) := by decide +kernel
theorem dX12_addsUnknowns_68 : decode cX12_addsUnknowns 68 = .ok (.istore 10, 2) := by decide +kernel
theorem dX12_addsUnknowns_70 : decode cX12_addsUnknowns 70 = .ok (.aload_n 0, 1) := by decide +kernel
theorem dX12_addsUnknowns_71 : decode cX12_addsUnknowns 71 = .ok (.getfield 97, 3) := by decide +kernel
theorem dX12_addsUnknowns_74 : decode cX12_addsUnknowns 74 = .ok (.iload 10, 2) := by decide +kernel
theorem dX12_addsUnknowns_76 : decode cX12_addsUnknowns 76 = .ok (.aload_n 0, 1) := by decide +kernel
theorem dX12_addsUnknowns_77 : decode cX12_addsUnknowns 77 = .ok (.aload_n 0, 1) := by decide +kernel
theorem dX12_addsUnknowns_78 : decode cX12_addsUnknowns 78 = .ok (.getfield 97, 3) := by decide +kernel
theorem dX12_addsUnknowns_81 : decode cX12_addsUnknowns 81 = .ok (.iload 10, 2) := by decide +kernel
theorem dX12_addsUnknowns_83 : decode cX12_addsUnknowns 83 = .ok (.iaload, 1) := by decide +kernel
theorem dX12_addsUnknowns_84 : decode cX12_addsUnknowns 84 = .ok (.i2l, 1) := by decide +kernel
theorem dX12_addsUnknowns_85 : decode cX12_addsUnknowns 85 = .ok (.lload 4, 2) := by decide +kernel
theorem dX12_addsUnknowns_87 : decode cX12_addsUnknowns 87 = .ok (.aload_n 0, 1) := by decide +kernel
theorem dX12_addsUnknowns_88 : decode cX12_addsUnknowns 88 = .ok (.iload_n 3, 1) := by decide +kernel
theorem dX12_addsUnknowns_89 : decode cX12_addsUnknowns 89 = .ok (.iload 8, 2) := by decide +kernel
theorem dX12_addsUnknowns_91 : decode cX12_addsUnknowns 91 = .ok (.iload 9, 2) := by decide +kernel
theorem dX12_addsUnknowns_93 : decode cX12_addsUnknowns 93 = .ok (.invokevirtual 184, 3) := by decide +kernel
theorem dX12_addsUnknowns_96 : decode cX12_addsUnknowns 96 = .ok (.i2l, 1) := by decide +kernel
theorem dX12_addsUnknowns_97 : decode cX12_addsUnknowns 97 = .ok (.lmul, 1) := by decide +kernel
theorem dX12_addsUnknowns_98 : decode cX12_addsUnknowns 98 = .ok (.ladd, 1) := by decide +kernel
theorem dX12_addsUnknowns_99 : decode cX12_addsUnknowns 99 = .ok (.invokevirtual 176, 3) := by decide +kernel
theorem dX12_addsUnknowns_102 : decode cX12_addsUnknowns 102 = .ok (.iastore, 1) := by decide +kernel
theorem dX12_addsUnknowns_103 : decode cX12_addsUnknowns 103 = .ok (.iinc 9 1, 3) := by decide +kernel
theorem dX12_addsUnknowns_106 : decode cX12_addsUnknowns 106 = .ok (.goto (-73), 3) := by decide +kernel
theorem dX12_addsUnknowns_109 : decode cX12_addsUnknowns 109 = .ok (.iinc 8 1, 3) := by decide +kernel
theorem dX12_addsUnknowns_112 : decode cX12_addsUnknowns 112 = .ok (.goto (-88), 3) := by decide +kernel
theorem dX12_addsUnknowns_115 : decode cX12_addsUnknowns 115 = .ok (.iinc 7 1, 3) := by decide +kernel
theorem dX12_addsUnknowns_118 : decode cX12_addsUnknowns 118 = .ok (.goto (-106), 3) := by decide +kernel
theorem dX12_addsUnknowns_121 : decode cX12_addsUnknowns 121 = .ok (.iinc 6 1, 3) := by decide +kernel
theorem dX12_addsUnknowns_124 : decode cX12_addsUnknowns 124 = .ok (.goto (-121), 3) := by decide +kernel
theorem dX12_addsUnknowns_127 : decode cX12_addsUnknowns 127 = .ok (.return_, 1) := by decide +kernel
theorem dX12_emptiesEquations_0 : decode cX12_emptiesEquations 0 = .ok (.iconst 0, 1) := by decide +kernel
theorem dX12_emptiesEquations_1 : decode cX12_emptiesEquations 1 = .ok (.istore_n 1, 1) := by decide +kernel
theorem dX12_emptiesEquations_2 : decode cX12_emptiesEquations 2 = .ok (.iload_n 1, 1) := by decide +kernel
theorem dX12_emptiesEquations_3 : decode cX12_emptiesEquations 3 = .ok (.sipush 1350, 3) := by decide +kernel
theorem dX12_emptiesEquations_6 : decode cX12_emptiesEquations 6 = .ok (.if_icmp .ge 16, 3) := by decide +kernel
theorem dX12_emptiesEquations_9 : decode cX12_emptiesEquations 9 = .ok (.aload_n 0, 1) := by decide +kernel
theorem dX12_emptiesEquations_10 : decode cX12_emptiesEquations 10 = .ok (.getfield 97, 3) := by decide +kernel
theorem dX12_emptiesEquations_13 : decode cX12_emptiesEquations 13 = .ok (.iload_n 1, 1) := by decide +kernel
theorem dX12_emptiesEquations_14 : decode cX12_emptiesEquations 14 = .ok (.iconst 0, 1) := by decide +kernel
theorem dX12_emptiesEquations_15 : decode cX12_emptiesEquations 15 = .ok (.iastore, 1) := by decide +kernel
theorem dX12_emptiesEquations_16 : decode cX12_emptiesEquations 16 = .ok (.iinc 1 1, 3) := by decide +kernel
theorem dX12_emptiesEquations_19 : decode cX12_emptiesEquations 19 = .ok (.goto (-17), 3) := by decide +kernel
theorem dX12_emptiesEquations_22 : decode cX12_emptiesEquations 22 = .ok (.return_, 1) := by decide +kernel
theorem dX12_laysCommon_0 : decode cX12_laysCommon 0 = .ok (.aload_n 0, 1) := by decide +kernel
theorem dX12_laysCommon_1 : decode cX12_laysCommon 1 = .ok (.iload_n 1, 1) := by decide +kernel
theorem dX12_laysCommon_2 : decode cX12_laysCommon 2 = .ok (.invokevirtual 254, 3) := by decide +kernel
theorem dX12_laysCommon_5 : decode cX12_laysCommon 5 = .ok (.istore_n 3, 1) := by decide +kernel
theorem dX12_laysCommon_6 : decode cX12_laysCommon 6 = .ok (.aload_n 0, 1) := by decide +kernel
theorem dX12_laysCommon_7 : decode cX12_laysCommon 7 = .ok (.iload_n 2, 1) := by decide +kernel
theorem dX12_laysCommon_8 : decode cX12_laysCommon 8 = .ok (.invokevirtual 254, 3) := by decide +kernel
theorem dX12_laysCommon_11 : decode cX12_laysCommon 11 = .ok (.istore 4, 2) := by decide +kernel
theorem dX12_laysCommon_13 : decode cX12_laysCommon 13 = .ok (.iload_n 3, 1) := by decide +kernel
theorem dX12_laysCommon_14 : decode cX12_laysCommon 14 = .ok (.iload 4, 2) := by decide +kernel
theorem dX12_laysCommon_16 : decode cX12_laysCommon 16 = .ok (.if_icmp .ge 7, 3) := by decide +kernel
theorem dX12_laysCommon_19 : decode cX12_laysCommon 19 = .ok (.iload_n 3, 1) := by decide +kernel
theorem dX12_laysCommon_20 : decode cX12_laysCommon 20 = .ok (.goto 5, 3) := by decide +kernel
theorem dX12_laysCommon_23 : decode cX12_laysCommon 23 = .ok (.iload 4, 2) := by decide +kernel
theorem dX12_laysCommon_25 : decode cX12_laysCommon 25 = .ok (.istore 5, 2) := by decide +kernel
theorem dX12_laysCommon_27 : decode cX12_laysCommon 27 = .ok (.iconst 0, 1) := by decide +kernel
theorem dX12_laysCommon_28 : decode cX12_laysCommon 28 = .ok (.istore 6, 2) := by decide +kernel
theorem dX12_laysCommon_30 : decode cX12_laysCommon 30 = .ok (.iload 5, 2) := by decide +kernel
theorem dX12_laysCommon_32 : decode cX12_laysCommon 32 = .ok (.ifCond .le 79, 3) := by decide +kernel
theorem dX12_laysCommon_35 : decode cX12_laysCommon 35 = .ok (.iload 6, 2) := by decide +kernel
theorem dX12_laysCommon_37 : decode cX12_laysCommon 37 = .ok (.ifCond .ne 74, 3) := by decide +kernel
theorem dX12_laysCommon_40 : decode cX12_laysCommon 40 = .ok (.aload_n 0, 1) := by decide +kernel
theorem dX12_laysCommon_41 : decode cX12_laysCommon 41 = .ok (.invokevirtual 343, 3) := by decide +kernel
theorem dX12_laysCommon_44 : decode cX12_laysCommon 44 = .ok (.aload_n 0, 1) := by decide +kernel
theorem dX12_laysCommon_45 : decode cX12_laysCommon 45 = .ok (.iconst 0, 1) := by decide +kernel
theorem dX12_laysCommon_46 : decode cX12_laysCommon 46 = .ok (.iload 4, 2) := by decide +kernel
theorem dX12_laysCommon_48 : decode cX12_laysCommon 48 = .ok (.iload 5, 2) := by decide +kernel
theorem dX12_laysCommon_50 : decode cX12_laysCommon 50 = .ok (.isub, 1) := by decide +kernel
theorem dX12_laysCommon_51 : decode cX12_laysCommon 51 = .ok (.iload_n 1, 1) := by decide +kernel
theorem dX12_laysCommon_52 : decode cX12_laysCommon 52 = .ok (.lconst 1, 1) := by decide +kernel
theorem dX12_laysCommon_53 : decode cX12_laysCommon 53 = .ok (.invokevirtual 346, 3) := by decide +kernel
theorem dX12_laysCommon_56 : decode cX12_laysCommon 56 = .ok (.aload_n 0, 1) := by decide +kernel
theorem dX12_laysCommon_57 : decode cX12_laysCommon 57 = .ok (.iload 4, 2) := by decide +kernel
theorem dX12_laysCommon_59 : decode cX12_laysCommon 59 = .ok (.iload 5, 2) := by decide +kernel
theorem dX12_laysCommon_61 : decode cX12_laysCommon 61 = .ok (.isub, 1) := by decide +kernel
theorem dX12_laysCommon_62 : decode cX12_laysCommon 62 = .ok (.invokestatic 349, 3) := by decide +kernel
theorem dX12_laysCommon_65 : decode cX12_laysCommon 65 = .ok (.iload_n 3, 1) := by decide +kernel
theorem dX12_laysCommon_66 : decode cX12_laysCommon 66 = .ok (.iload 5, 2) := by decide +kernel
theorem dX12_laysCommon_68 : decode cX12_laysCommon 68 = .ok (.isub, 1) := by decide +kernel
theorem dX12_laysCommon_69 : decode cX12_laysCommon 69 = .ok (.iload_n 2, 1) := by decide +kernel
theorem dX12_laysCommon_70 : decode cX12_laysCommon 70 = .ok (.ldc2_w 352, 3) := by decide +kernel
theorem dX12_laysCommon_73 : decode cX12_laysCommon 73 = .ok (.invokevirtual 346, 3) := by decide +kernel
theorem dX12_laysCommon_76 : decode cX12_laysCommon 76 = .ok (.aload_n 0, 1) := by decide +kernel
theorem dX12_laysCommon_77 : decode cX12_laysCommon 77 = .ok (.bipush 45, 2) := by decide +kernel
theorem dX12_laysCommon_79 : decode cX12_laysCommon 79 = .ok (.iload 4, 2) := by decide +kernel
theorem dX12_laysCommon_81 : decode cX12_laysCommon 81 = .ok (.iload 5, 2) := by decide +kernel
theorem dX12_laysCommon_83 : decode cX12_laysCommon 83 = .ok (.isub, 1) := by decide +kernel
theorem dX12_laysCommon_84 : decode cX12_laysCommon 84 = .ok (.invokestatic 349, 3) := by decide +kernel
theorem dX12_laysCommon_87 : decode cX12_laysCommon 87 = .ok (.iload_n 3, 1) := by decide +kernel
theorem dX12_laysCommon_88 : decode cX12_laysCommon 88 = .ok (.iload 5, 2) := by decide +kernel
theorem dX12_laysCommon_90 : decode cX12_laysCommon 90 = .ok (.isub, 1) := by decide +kernel
theorem dX12_laysCommon_91 : decode cX12_laysCommon 91 = .ok (.invokestatic 349, 3) := by decide +kernel
theorem dX12_laysCommon_94 : decode cX12_laysCommon 94 = .ok (.iadd, 1) := by decide +kernel
theorem dX12_laysCommon_95 : decode cX12_laysCommon 95 = .ok (.invokevirtual 354, 3) := by decide +kernel
theorem dX12_laysCommon_98 : decode cX12_laysCommon 98 = .ok (.istore 6, 2) := by decide +kernel
theorem dX12_laysCommon_100 : decode cX12_laysCommon 100 = .ok (.iload 6, 2) := by decide +kernel
theorem dX12_laysCommon_102 : decode cX12_laysCommon 102 = .ok (.ifCond .ne (-72), 3) := by decide +kernel
theorem dX12_laysCommon_105 : decode cX12_laysCommon 105 = .ok (.iinc 5 (-1), 3) := by decide +kernel
theorem dX12_laysCommon_108 : decode cX12_laysCommon 108 = .ok (.goto (-78), 3) := by decide +kernel
theorem dX12_laysCommon_111 : decode cX12_laysCommon 111 = .ok (.aload_n 0, 1) := by decide +kernel
theorem dX12_laysCommon_112 : decode cX12_laysCommon 112 = .ok (.sipush 143, 3) := by decide +kernel
theorem dX12_laysCommon_115 : decode cX12_laysCommon 115 = .ok (.invokevirtual 192, 3) := by decide +kernel
theorem dX12_laysCommon_118 : decode cX12_laysCommon 118 = .ok (.iload 5, 2) := by decide +kernel
theorem dX12_laysCommon_120 : decode cX12_laysCommon 120 = .ok (.ifCond .ne 14, 3) := by decide +kernel
theorem dX12_laysCommon_123 : decode cX12_laysCommon 123 = .ok (.aload_n 0, 1) := by decide +kernel
theorem dX12_laysCommon_124 : decode cX12_laysCommon 124 = .ok (.sipush 143, 3) := by decide +kernel
theorem dX12_laysCommon_127 : decode cX12_laysCommon 127 = .ok (.iconst 0, 1) := by decide +kernel
theorem dX12_laysCommon_128 : decode cX12_laysCommon 128 = .ok (.iconst 0, 1) := by decide +kernel
theorem dX12_laysCommon_129 : decode cX12_laysCommon 129 = .ok (.lconst 1, 1) := by decide +kernel
theorem dX12_laysCommon_130 : decode cX12_laysCommon 130 = .ok (.invokevirtual 188, 3) := by decide +kernel
theorem dX12_laysCommon_133 : decode cX12_laysCommon 133 = .ok (.return_, 1) := by decide +kernel
theorem dX12_laysCommon_134 : decode cX12_laysCommon 134 = .ok (.aload_n 0, 1) := by decide +kernel
theorem dX12_laysCommon_135 : decode cX12_laysCommon 135 = .ok (.sipush 142, 3) := by decide +kernel
theorem dX12_laysCommon_138 : decode cX12_laysCommon 138 = .ok (.invokevirtual 192, 3) := by decide +kernel
theorem dX12_laysCommon_141 : decode cX12_laysCommon 141 = .ok (.iload 4, 2) := by decide +kernel
theorem dX12_laysCommon_143 : decode cX12_laysCommon 143 = .ok (.iload 5, 2) := by decide +kernel
theorem dX12_laysCommon_145 : decode cX12_laysCommon 145 = .ok (.isub, 1) := by decide +kernel
theorem dX12_laysCommon_146 : decode cX12_laysCommon 146 = .ok (.invokestatic 349, 3) := by decide +kernel
theorem dX12_laysCommon_149 : decode cX12_laysCommon 149 = .ok (.istore 7, 2) := by decide +kernel
theorem dX12_laysCommon_151 : decode cX12_laysCommon 151 = .ok (.iconst 0, 1) := by decide +kernel
theorem dX12_laysCommon_152 : decode cX12_laysCommon 152 = .ok (.istore 8, 2) := by decide +kernel
theorem dX12_laysCommon_154 : decode cX12_laysCommon 154 = .ok (.iload 8, 2) := by decide +kernel
theorem dX12_laysCommon_156 : decode cX12_laysCommon 156 = .ok (.iload_n 3, 1) := by decide +kernel
theorem dX12_laysCommon_157 : decode cX12_laysCommon 157 = .ok (.iload 5, 2) := by decide +kernel
theorem dX12_laysCommon_159 : decode cX12_laysCommon 159 = .ok (.isub, 1) := by decide +kernel
theorem dX12_laysCommon_160 : decode cX12_laysCommon 160 = .ok (.if_icmp .gt 57, 3) := by decide +kernel
theorem dX12_laysCommon_163 : decode cX12_laysCommon 163 = .ok (.iconst 0, 1) := by decide +kernel
theorem dX12_laysCommon_164 : decode cX12_laysCommon 164 = .ok (.istore 9, 2) := by decide +kernel
theorem dX12_laysCommon_166 : decode cX12_laysCommon 166 = .ok (.iload 8, 2) := by decide +kernel
theorem dX12_laysCommon_168 : decode cX12_laysCommon 168 = .ok (.iload 9, 2) := by decide +kernel
theorem dX12_laysCommon_170 : decode cX12_laysCommon 170 = .ok (.iadd, 1) := by decide +kernel
theorem dX12_laysCommon_171 : decode cX12_laysCommon 171 = .ok (.iload_n 3, 1) := by decide +kernel
theorem dX12_laysCommon_172 : decode cX12_laysCommon 172 = .ok (.iload 5, 2) := by decide +kernel
theorem dX12_laysCommon_174 : decode cX12_laysCommon 174 = .ok (.isub, 1) := by decide +kernel
theorem dX12_laysCommon_175 : decode cX12_laysCommon 175 = .ok (.if_icmp .gt 36, 3) := by decide +kernel
theorem dX12_laysCommon_178 : decode cX12_laysCommon 178 = .ok (.aload_n 0, 1) := by decide +kernel
theorem dX12_laysCommon_179 : decode cX12_laysCommon 179 = .ok (.sipush 142, 3) := by decide +kernel
theorem dX12_laysCommon_182 : decode cX12_laysCommon 182 = .ok (.iload 8, 2) := by decide +kernel
theorem dX12_laysCommon_184 : decode cX12_laysCommon 184 = .ok (.iload 9, 2) := by decide +kernel
theorem dX12_laysCommon_186 : decode cX12_laysCommon 186 = .ok (.aload_n 0, 1) := by decide +kernel
theorem dX12_laysCommon_187 : decode cX12_laysCommon 187 = .ok (.getfield 94, 3) := by decide +kernel
theorem dX12_laysCommon_190 : decode cX12_laysCommon 190 = .ok (.iload 7, 2) := by decide +kernel
theorem dX12_laysCommon_192 : decode cX12_laysCommon 192 = .ok (.iload 8, 2) := by decide +kernel
theorem dX12_laysCommon_194 : decode cX12_laysCommon 194 = .ok (.iload 9, 2) := by decide +kernel
theorem dX12_laysCommon_196 : decode cX12_laysCommon 196 = .ok (.invokestatic 340, 3) := by decide +kernel
theorem dX12_laysCommon_199 : decode cX12_laysCommon 199 = .ok (.iadd, 1) := by decide +kernel
theorem dX12_laysCommon_200 : decode cX12_laysCommon 200 = .ok (.iaload, 1) := by decide +kernel
theorem dX12_laysCommon_201 : decode cX12_laysCommon 201 = .ok (.i2l, 1) := by decide +kernel
theorem dX12_laysCommon_202 : decode cX12_laysCommon 202 = .ok (.invokevirtual 188, 3) := by decide +kernel
theorem dX12_laysCommon_205 : decode cX12_laysCommon 205 = .ok (.iinc 9 1, 3) := by decide +kernel
theorem dX12_laysCommon_208 : decode cX12_laysCommon 208 = .ok (.goto (-42), 3) := by decide +kernel
theorem dX12_laysCommon_211 : decode cX12_laysCommon 211 = .ok (.iinc 8 1, 3) := by decide +kernel
theorem dX12_laysCommon_214 : decode cX12_laysCommon 214 = .ok (.goto (-60), 3) := by decide +kernel
theorem dX12_laysCommon_217 : decode cX12_laysCommon 217 = .ok (.aload_n 0, 1) := by decide +kernel
theorem dX12_laysCommon_218 : decode cX12_laysCommon 218 = .ok (.iload_n 1, 1) := by decide +kernel
theorem dX12_laysCommon_219 : decode cX12_laysCommon 219 = .ok (.iload 5, 2) := by decide +kernel
theorem dX12_laysCommon_221 : decode cX12_laysCommon 221 = .ok (.invokevirtual 357, 3) := by decide +kernel
theorem dX12_laysCommon_224 : decode cX12_laysCommon 224 = .ok (.aload_n 0, 1) := by decide +kernel
theorem dX12_laysCommon_225 : decode cX12_laysCommon 225 = .ok (.sipush 143, 3) := by decide +kernel
theorem dX12_laysCommon_228 : decode cX12_laysCommon 228 = .ok (.invokevirtual 360, 3) := by decide +kernel
theorem dX12_laysCommon_231 : decode cX12_laysCommon 231 = .ok (.return_, 1) := by decide +kernel
theorem dX12_dividesBy_0 : decode cX12_dividesBy 0 = .ok (.iload_n 2, 1) := by decide +kernel
theorem dX12_dividesBy_1 : decode cX12_dividesBy 1 = .ok (.invokestatic 349, 3) := by decide +kernel
theorem dX12_dividesBy_4 : decode cX12_dividesBy 4 = .ok (.istore_n 3, 1) := by decide +kernel
theorem dX12_dividesBy_5 : decode cX12_dividesBy 5 = .ok (.aload_n 0, 1) := by decide +kernel
theorem dX12_dividesBy_6 : decode cX12_dividesBy 6 = .ok (.invokevirtual 343, 3) := by decide +kernel
theorem dX12_dividesBy_9 : decode cX12_dividesBy 9 = .ok (.aload_n 0, 1) := by decide +kernel
theorem dX12_dividesBy_10 : decode cX12_dividesBy 10 = .ok (.iconst 0, 1) := by decide +kernel
theorem dX12_dividesBy_11 : decode cX12_dividesBy 11 = .ok (.iload_n 2, 1) := by decide +kernel
theorem dX12_dividesBy_12 : decode cX12_dividesBy 12 = .ok (.sipush 142, 3) := by decide +kernel
theorem dX12_dividesBy_15 : decode cX12_dividesBy 15 = .ok (.lconst 1, 1) := by decide +kernel
theorem dX12_dividesBy_16 : decode cX12_dividesBy 16 = .ok (.invokevirtual 346, 3) := by decide +kernel
theorem dX12_dividesBy_19 : decode cX12_dividesBy 19 = .ok (.iconst 0, 1) := by decide +kernel
theorem dX12_dividesBy_20 : decode cX12_dividesBy 20 = .ok (.istore 4, 2) := by decide +kernel
theorem dX12_dividesBy_22 : decode cX12_dividesBy 22 = .ok (.iload 4, 2) := by decide +kernel
theorem dX12_dividesBy_24 : decode cX12_dividesBy 24 = .ok (.iconst 4, 1) := by decide +kernel
theorem dX12_dividesBy_25 : decode cX12_dividesBy 25 = .ok (.if_icmp .gt 59, 3) := by decide +kernel
theorem dX12_dividesBy_28 : decode cX12_dividesBy 28 = .ok (.iconst 0, 1) := by decide +kernel
theorem dX12_dividesBy_29 : decode cX12_dividesBy 29 = .ok (.istore 5, 2) := by decide +kernel
theorem dX12_dividesBy_31 : decode cX12_dividesBy 31 = .ok (.iload 4, 2) := by decide +kernel
theorem dX12_dividesBy_33 : decode cX12_dividesBy 33 = .ok (.iload 5, 2) := by decide +kernel
theorem dX12_dividesBy_35 : decode cX12_dividesBy 35 = .ok (.iadd, 1) := by decide +kernel
theorem dX12_dividesBy_36 : decode cX12_dividesBy 36 = .ok (.iconst 4, 1) := by decide +kernel
theorem dX12_dividesBy_37 : decode cX12_dividesBy 37 = .ok (.if_icmp .gt 41, 3) := by decide +kernel
theorem dX12_dividesBy_40 : decode cX12_dividesBy 40 = .ok (.aload_n 0, 1) := by decide +kernel
theorem dX12_dividesBy_41 : decode cX12_dividesBy 41 = .ok (.getfield 97, 3) := by decide +kernel
theorem dX12_dividesBy_44 : decode cX12_dividesBy 44 = .ok (.bipush 30, 2) := by decide +kernel
theorem dX12_dividesBy_46 : decode cX12_dividesBy 46 = .ok (.iload 4, 2) := by decide +kernel
theorem dX12_dividesBy_48 : decode cX12_dividesBy 48 = .ok (.iload 5, 2) := by decide +kernel
theorem dX12_dividesBy_50 : decode cX12_dividesBy 50 = .ok (.invokestatic 340, 3) := by decide +kernel
theorem dX12_dividesBy_53 : decode cX12_dividesBy 53 = .ok (.imul, 1) := by decide +kernel
theorem dX12_dividesBy_54 : decode cX12_dividesBy 54 = .ok (.iload_n 3, 1) := by decide +kernel
theorem dX12_dividesBy_55 : decode cX12_dividesBy 55 = .ok (.iadd, 1) := by decide +kernel
theorem dX12_dividesBy_56 : decode cX12_dividesBy 56 = .ok (.aload_n 0, 1) := by decide +kernel
theorem dX12_dividesBy_57 : decode cX12_dividesBy 57 = .ok (.aload_n 0, 1) := by decide +kernel
theorem dX12_dividesBy_58 : decode cX12_dividesBy 58 = .ok (.iload_n 1, 1) := by decide +kernel
theorem dX12_dividesBy_59 : decode cX12_dividesBy 59 = .ok (.iload 4, 2) := by decide +kernel
theorem dX12_dividesBy_61 : decode cX12_dividesBy 61 = .ok (.iload 5, 2) := by decide +kernel
theorem dX12_dividesBy_63 : decode cX12_dividesBy 63 = .ok (.invokevirtual 184, 3) := by decide +kernel
theorem dX12_dividesBy_66 : decode cX12_dividesBy 66 = .ok (.ineg, 1) := by decide +kernel
theorem dX12_dividesBy_67 : decode cX12_dividesBy 67 = .ok (.i2l, 1) := by decide +kernel
theorem dX12_dividesBy_68 : decode cX12_dividesBy 68 = .ok (.invokevirtual 176, 3) := by decide +kernel
theorem dX12_dividesBy_71 : decode cX12_dividesBy 71 = .ok (.iastore, 1) := by decide +kernel
theorem dX12_dividesBy_72 : decode cX12_dividesBy 72 = .ok (.iinc 5 1, 3) := by decide +kernel
theorem dX12_dividesBy_75 : decode cX12_dividesBy 75 = .ok (.goto (-44), 3) := by decide +kernel
theorem dX12_dividesBy_78 : decode cX12_dividesBy 78 = .ok (.iinc 4 1, 3) := by decide +kernel
theorem dX12_dividesBy_81 : decode cX12_dividesBy 81 = .ok (.goto (-59), 3) := by decide +kernel
theorem dX12_dividesBy_84 : decode cX12_dividesBy 84 = .ok (.aload_n 0, 1) := by decide +kernel
theorem dX12_dividesBy_85 : decode cX12_dividesBy 85 = .ok (.bipush 45, 2) := by decide +kernel
theorem dX12_dividesBy_87 : decode cX12_dividesBy 87 = .ok (.iload_n 3, 1) := by decide +kernel
theorem dX12_dividesBy_88 : decode cX12_dividesBy 88 = .ok (.iconst 1, 1) := by decide +kernel
theorem dX12_dividesBy_89 : decode cX12_dividesBy 89 = .ok (.iadd, 1) := by decide +kernel
theorem dX12_dividesBy_90 : decode cX12_dividesBy 90 = .ok (.invokevirtual 354, 3) := by decide +kernel
theorem dX12_dividesBy_93 : decode cX12_dividesBy 93 = .ok (.istore 4, 2) := by decide +kernel
theorem dX12_dividesBy_95 : decode cX12_dividesBy 95 = .ok (.iconst 0, 1) := by decide +kernel
theorem dX12_dividesBy_96 : decode cX12_dividesBy 96 = .ok (.istore 5, 2) := by decide +kernel
theorem dX12_dividesBy_98 : decode cX12_dividesBy 98 = .ok (.iload 5, 2) := by decide +kernel
theorem dX12_dividesBy_100 : decode cX12_dividesBy 100 = .ok (.iload_n 2, 1) := by decide +kernel
theorem dX12_dividesBy_101 : decode cX12_dividesBy 101 = .ok (.if_icmp .gt 56, 3) := by decide +kernel
theorem dX12_dividesBy_104 : decode cX12_dividesBy 104 = .ok (.iload 4, 2) := by decide +kernel
theorem dX12_dividesBy_106 : decode cX12_dividesBy 106 = .ok (.ifCond .eq 51, 3) := by decide +kernel
theorem dX12_dividesBy_109 : decode cX12_dividesBy 109 = .ok (.iconst 0, 1) := by decide +kernel
theorem dX12_dividesBy_110 : decode cX12_dividesBy 110 = .ok (.istore 6, 2) := by decide +kernel
theorem dX12_dividesBy_112 : decode cX12_dividesBy 112 = .ok (.iload 5, 2) := by decide +kernel
theorem dX12_dividesBy_114 : decode cX12_dividesBy 114 = .ok (.iload 6, 2) := by decide +kernel
theorem dX12_dividesBy_116 : decode cX12_dividesBy 116 = .ok (.iadd, 1) := by decide +kernel
theorem dX12_dividesBy_117 : decode cX12_dividesBy 117 = .ok (.iload_n 2, 1) := by decide +kernel
theorem dX12_dividesBy_118 : decode cX12_dividesBy 118 = .ok (.if_icmp .gt 33, 3) := by decide +kernel
theorem dX12_dividesBy_121 : decode cX12_dividesBy 121 = .ok (.aload_n 0, 1) := by decide +kernel
theorem dX12_dividesBy_122 : decode cX12_dividesBy 122 = .ok (.sipush 143, 3) := by decide +kernel
theorem dX12_dividesBy_125 : decode cX12_dividesBy 125 = .ok (.iload 5, 2) := by decide +kernel
theorem dX12_dividesBy_127 : decode cX12_dividesBy 127 = .ok (.iload 6, 2) := by decide +kernel
theorem dX12_dividesBy_129 : decode cX12_dividesBy 129 = .ok (.aload_n 0, 1) := by decide +kernel
theorem dX12_dividesBy_130 : decode cX12_dividesBy 130 = .ok (.getfield 94, 3) := by decide +kernel
theorem dX12_dividesBy_133 : decode cX12_dividesBy 133 = .ok (.iload 5, 2) := by decide +kernel
theorem dX12_dividesBy_135 : decode cX12_dividesBy 135 = .ok (.iload 6, 2) := by decide +kernel
theorem dX12_dividesBy_137 : decode cX12_dividesBy 137 = .ok (.invokestatic 340, 3) := by decide +kernel
theorem dX12_dividesBy_140 : decode cX12_dividesBy 140 = .ok (.iaload, 1) := by decide +kernel
theorem dX12_dividesBy_141 : decode cX12_dividesBy 141 = .ok (.i2l, 1) := by decide +kernel
theorem dX12_dividesBy_142 : decode cX12_dividesBy 142 = .ok (.invokevirtual 188, 3) := by decide +kernel
theorem dX12_dividesBy_145 : decode cX12_dividesBy 145 = .ok (.iinc 6 1, 3) := by decide +kernel
theorem dX12_dividesBy_148 : decode cX12_dividesBy 148 = .ok (.goto (-36), 3) := by decide +kernel
theorem dX12_dividesBy_151 : decode cX12_dividesBy 151 = .ok (.iinc 5 1, 3) := by decide +kernel
theorem dX12_dividesBy_154 : decode cX12_dividesBy 154 = .ok (.goto (-56), 3) := by decide +kernel
theorem dX12_dividesBy_157 : decode cX12_dividesBy 157 = .ok (.return_, 1) := by decide +kernel
theorem dX12_normal_0 : decode cX12_normal 0 = .ok (.aload_n 0, 1) := by decide +kernel
theorem dX12_normal_1 : decode cX12_normal 1 = .ok (.iload_n 1, 1) := by decide +kernel
theorem dX12_normal_2 : decode cX12_normal 2 = .ok (.invokevirtual 254, 3) := by decide +kernel
theorem dX12_normal_5 : decode cX12_normal 5 = .ok (.istore_n 2, 1) := by decide +kernel
theorem dX12_normal_6 : decode cX12_normal 6 = .ok (.iload_n 2, 1) := by decide +kernel
theorem dX12_normal_7 : decode cX12_normal 7 = .ok (.istore_n 3, 1) := by decide +kernel
theorem dX12_normal_8 : decode cX12_normal 8 = .ok (.iload_n 3, 1) := by decide +kernel
theorem dX12_normal_9 : decode cX12_normal 9 = .ok (.ifCond .lt 93, 3) := by decide +kernel
theorem dX12_normal_12 : decode cX12_normal 12 = .ok (.aload_n 0, 1) := by decide +kernel
theorem dX12_normal_13 : decode cX12_normal 13 = .ok (.iload_n 1, 1) := by decide +kernel
theorem dX12_normal_14 : decode cX12_normal 14 = .ok (.iload_n 3, 1) := by decide +kernel
theorem dX12_normal_15 : decode cX12_normal 15 = .ok (.iload_n 2, 1) := by decide +kernel
theorem dX12_normal_16 : decode cX12_normal 16 = .ok (.iload_n 3, 1) := by decide +kernel
theorem dX12_normal_17 : decode cX12_normal 17 = .ok (.isub, 1) := by decide +kernel
theorem dX12_normal_18 : decode cX12_normal 18 = .ok (.invokevirtual 184, 3) := by decide +kernel
theorem dX12_normal_21 : decode cX12_normal 21 = .ok (.istore 4, 2) := by decide +kernel
theorem dX12_normal_23 : decode cX12_normal 23 = .ok (.iload 4, 2) := by decide +kernel
theorem dX12_normal_25 : decode cX12_normal 25 = .ok (.ifCond .ne 6, 3) := by decide +kernel
theorem dX12_normal_28 : decode cX12_normal 28 = .ok (.goto 68, 3) := by decide +kernel
theorem dX12_normal_31 : decode cX12_normal 31 = .ok (.aload_n 0, 1) := by decide +kernel
theorem dX12_normal_32 : decode cX12_normal 32 = .ok (.iload 4, 2) := by decide +kernel
theorem dX12_normal_34 : decode cX12_normal 34 = .ok (.invokevirtual 328, 3) := by decide +kernel
theorem dX12_normal_37 : decode cX12_normal 37 = .ok (.istore 5, 2) := by decide +kernel
theorem dX12_normal_39 : decode cX12_normal 39 = .ok (.iconst 0, 1) := by decide +kernel
theorem dX12_normal_40 : decode cX12_normal 40 = .ok (.istore 6, 2) := by decide +kernel
theorem dX12_normal_42 : decode cX12_normal 42 = .ok (.iload 6, 2) := by decide +kernel
theorem dX12_normal_44 : decode cX12_normal 44 = .ok (.iload_n 2, 1) := by decide +kernel
theorem dX12_normal_45 : decode cX12_normal 45 = .ok (.if_icmp .gt 50, 3) := by decide +kernel
theorem dX12_normal_48 : decode cX12_normal 48 = .ok (.iconst 0, 1) := by decide +kernel
theorem dX12_normal_49 : decode cX12_normal 49 = .ok (.istore 7, 2) := by decide +kernel
theorem dX12_normal_51 : decode cX12_normal 51 = .ok (.iload 6, 2) := by decide +kernel
theorem dX12_normal_53 : decode cX12_normal 53 = .ok (.iload 7, 2) := by decide +kernel
theorem dX12_normal_55 : decode cX12_normal 55 = .ok (.iadd, 1) := by decide +kernel
theorem dX12_normal_56 : decode cX12_normal 56 = .ok (.iload_n 2, 1) := by decide +kernel
theorem dX12_normal_57 : decode cX12_normal 57 = .ok (.if_icmp .gt 32, 3) := by decide +kernel
theorem dX12_normal_60 : decode cX12_normal 60 = .ok (.aload_n 0, 1) := by decide +kernel
theorem dX12_normal_61 : decode cX12_normal 61 = .ok (.iload_n 1, 1) := by decide +kernel
theorem dX12_normal_62 : decode cX12_normal 62 = .ok (.iload 6, 2) := by decide +kernel
theorem dX12_normal_64 : decode cX12_normal 64 = .ok (.iload 7, 2) := by decide +kernel
theorem dX12_normal_66 : decode cX12_normal 66 = .ok (.aload_n 0, 1) := by decide +kernel
theorem dX12_normal_67 : decode cX12_normal 67 = .ok (.iload_n 1, 1) := by decide +kernel
theorem dX12_normal_68 : decode cX12_normal 68 = .ok (.iload 6, 2) := by decide +kernel
theorem dX12_normal_70 : decode cX12_normal 70 = .ok (.iload 7, 2) := by decide +kernel
theorem dX12_normal_72 : decode cX12_normal 72 = .ok (.invokevirtual 184, 3) := by decide +kernel
theorem dX12_normal_75 : decode cX12_normal 75 = .ok (.i2l, 1) := by decide +kernel
theorem dX12_normal_76 : decode cX12_normal 76 = .ok (.iload 5, 2) := by decide +kernel
theorem dX12_normal_78 : decode cX12_normal 78 = .ok (.i2l, 1) := by decide +kernel
theorem dX12_normal_79 : decode cX12_normal 79 = .ok (.lmul, 1) := by decide +kernel
theorem dX12_normal_80 : decode cX12_normal 80 = .ok (.invokevirtual 188, 3) := by decide +kernel
theorem dX12_normal_83 : decode cX12_normal 83 = .ok (.iinc 7 1, 3) := by decide +kernel
theorem dX12_normal_86 : decode cX12_normal 86 = .ok (.goto (-35), 3) := by decide +kernel
theorem dX12_normal_89 : decode cX12_normal 89 = .ok (.iinc 6 1, 3) := by decide +kernel
theorem dX12_normal_92 : decode cX12_normal 92 = .ok (.goto (-50), 3) := by decide +kernel
theorem dX12_normal_95 : decode cX12_normal 95 = .ok (.return_, 1) := by decide +kernel
theorem dX12_normal_96 : decode cX12_normal 96 = .ok (.iinc 3 (-1), 3) := by decide +kernel
theorem dX12_normal_99 : decode cX12_normal 99 = .ok (.goto (-91), 3) := by decide +kernel
theorem dX12_normal_102 : decode cX12_normal 102 = .ok (.return_, 1) := by decide +kernel
theorem dX12_areCurves_0 : decode cX12_areCurves 0 = .ok (.aload_n 0, 1) := by decide +kernel
theorem dX12_areCurves_1 : decode cX12_areCurves 1 = .ok (.iload_n 1, 1) := by decide +kernel
theorem dX12_areCurves_2 : decode cX12_areCurves 2 = .ok (.invokevirtual 286, 3) := by decide +kernel
theorem dX12_areCurves_5 : decode cX12_areCurves 5 = .ok (.ifCond .eq 15, 3) := by decide +kernel
theorem dX12_areCurves_8 : decode cX12_areCurves 8 = .ok (.aload_n 0, 1) := by decide +kernel
theorem dX12_areCurves_9 : decode cX12_areCurves 9 = .ok (.iload_n 2, 1) := by decide +kernel
theorem dX12_areCurves_10 : decode cX12_areCurves 10 = .ok (.invokevirtual 286, 3) := by decide +kernel
theorem dX12_areCurves_13 : decode cX12_areCurves 13 = .ok (.ifCond .eq 7, 3) := by decide +kernel
theorem dX12_areCurves_16 : decode cX12_areCurves 16 = .ok (.iconst 1, 1) := by decide +kernel
theorem dX12_areCurves_17 : decode cX12_areCurves 17 = .ok (.goto 4, 3) := by decide +kernel
theorem dX12_areCurves_20 : decode cX12_areCurves 20 = .ok (.iconst 0, 1) := by decide +kernel
theorem dX12_areCurves_21 : decode cX12_areCurves 21 = .ok (.ireturn, 1) := by decide +kernel
theorem dX12_common_0 : decode cX12_common 0 = .ok (.aload_n 0, 1) := by decide +kernel
theorem dX12_common_1 : decode cX12_common 1 = .ok (.iload_n 1, 1) := by decide +kernel
theorem dX12_common_2 : decode cX12_common 2 = .ok (.iload_n 2, 1) := by decide +kernel
theorem dX12_common_3 : decode cX12_common 3 = .ok (.invokevirtual 363, 3) := by decide +kernel
theorem dX12_common_6 : decode cX12_common 6 = .ok (.ifCond .ne 5, 3) := by decide +kernel
theorem dX12_common_9 : decode cX12_common 9 = .ok (.iconst (-1), 1) := by decide +kernel
theorem dX12_common_10 : decode cX12_common 10 = .ok (.ireturn, 1) := by decide +kernel
theorem dX12_common_11 : decode cX12_common 11 = .ok (.aload_n 0, 1) := by decide +kernel
theorem dX12_common_12 : decode cX12_common 12 = .ok (.iload_n 1, 1) := by decide +kernel
theorem dX12_common_13 : decode cX12_common 13 = .ok (.iload_n 2, 1) := by decide +kernel
theorem dX12_common_14 : decode cX12_common 14 = .ok (.invokevirtual 366, 3) := by decide +kernel
theorem dX12_common_17 : decode cX12_common 17 = .ok (.aload_n 0, 1) := by decide +kernel
theorem dX12_common_18 : decode cX12_common 18 = .ok (.sipush 143, 3) := by decide +kernel
theorem dX12_common_21 : decode cX12_common 21 = .ok (.invokevirtual 254, 3) := by decide +kernel
theorem dX12_common_24 : decode cX12_common 24 = .ok (.ireturn, 1) := by decide +kernel
theorem dX12_commonTerm_0 : decode cX12_commonTerm 0 = .ok (.aload_n 0, 1) := by decide +kernel
theorem dX12_commonTerm_1 : decode cX12_commonTerm 1 = .ok (.iload_n 1, 1) := by decide +kernel
theorem dX12_commonTerm_2 : decode cX12_commonTerm 2 = .ok (.iload_n 2, 1) := by decide +kernel
theorem dX12_commonTerm_3 : decode cX12_commonTerm 3 = .ok (.invokevirtual 363, 3) := by decide +kernel
theorem dX12_commonTerm_6 : decode cX12_commonTerm 6 = .ok (.ifCond .eq 12, 3) := by decide +kernel
theorem dX12_commonTerm_9 : decode cX12_commonTerm 9 = .ok (.iload_n 3, 1) := by decide +kernel
theorem dX12_commonTerm_10 : decode cX12_commonTerm 10 = .ok (.iload 4, 2) := by decide +kernel
theorem dX12_commonTerm_12 : decode cX12_commonTerm 12 = .ok (.invokestatic 289, 3) := by decide +kernel
theorem dX12_commonTerm_15 : decode cX12_commonTerm 15 = .ok (.ifCond .ne 5, 3) := by decide +kernel
theorem dX12_commonTerm_18 : decode cX12_commonTerm 18 = .ok (.iconst (-1), 1) := by decide +kernel
theorem dX12_commonTerm_19 : decode cX12_commonTerm 19 = .ok (.ireturn, 1) := by decide +kernel
theorem dX12_commonTerm_20 : decode cX12_commonTerm 20 = .ok (.aload_n 0, 1) := by decide +kernel
theorem dX12_commonTerm_21 : decode cX12_commonTerm 21 = .ok (.iload_n 1, 1) := by decide +kernel
theorem dX12_commonTerm_22 : decode cX12_commonTerm 22 = .ok (.iload_n 2, 1) := by decide +kernel
theorem dX12_commonTerm_23 : decode cX12_commonTerm 23 = .ok (.invokevirtual 366, 3) := by decide +kernel
theorem dX12_commonTerm_26 : decode cX12_commonTerm 26 = .ok (.aload_n 0, 1) := by decide +kernel
theorem dX12_commonTerm_27 : decode cX12_commonTerm 27 = .ok (.sipush 143, 3) := by decide +kernel
theorem dX12_commonTerm_30 : decode cX12_commonTerm 30 = .ok (.iload_n 3, 1) := by decide +kernel
theorem dX12_commonTerm_31 : decode cX12_commonTerm 31 = .ok (.iload 4, 2) := by decide +kernel
theorem dX12_commonTerm_33 : decode cX12_commonTerm 33 = .ok (.invokevirtual 184, 3) := by decide +kernel
theorem dX12_commonTerm_36 : decode cX12_commonTerm 36 = .ok (.ireturn, 1) := by decide +kernel
theorem dX12_laysLong_0 : decode cX12_laysLong 0 = .ok (.aload_n 0, 1) := by decide +kernel
theorem dX12_laysLong_1 : decode cX12_laysLong 1 = .ok (.sipush 141, 3) := by decide +kernel
theorem dX12_laysLong_4 : decode cX12_laysLong 4 = .ok (.iload_n 2, 1) := by decide +kernel
theorem dX12_laysLong_5 : decode cX12_laysLong 5 = .ok (.iload_n 3, 1) := by decide +kernel
theorem dX12_laysLong_6 : decode cX12_laysLong 6 = .ok (.invokevirtual 309, 3) := by decide +kernel
theorem dX12_laysLong_9 : decode cX12_laysLong 9 = .ok (.iconst 0, 1) := by decide +kernel
theorem dX12_laysLong_10 : decode cX12_laysLong 10 = .ok (.istore 4, 2) := by decide +kernel
theorem dX12_laysLong_12 : decode cX12_laysLong 12 = .ok (.iload 4, 2) := by decide +kernel
theorem dX12_laysLong_14 : decode cX12_laysLong 14 = .ok (.sipush 289, 3) := by decide +kernel
theorem dX12_laysLong_17 : decode cX12_laysLong 17 = .ok (.if_icmp .ge 14, 3) := by decide +kernel
theorem dX12_laysLong_20 : decode cX12_laysLong 20 = .ok (.aload_n 1, 1) := by decide +kernel
theorem dX12_laysLong_21 : decode cX12_laysLong 21 = .ok (.iload 4, 2) := by decide +kernel
theorem dX12_laysLong_23 : decode cX12_laysLong 23 = .ok (.iconst 0, 1) := by decide +kernel
theorem dX12_laysLong_24 : decode cX12_laysLong 24 = .ok (.iastore, 1) := by decide +kernel
theorem dX12_laysLong_25 : decode cX12_laysLong 25 = .ok (.iinc 4 1, 3) := by decide +kernel
theorem dX12_laysLong_28 : decode cX12_laysLong 28 = .ok (.goto (-16), 3) := by decide +kernel
theorem dX12_laysLong_31 : decode cX12_laysLong 31 = .ok (.iconst 0, 1) := by decide +kernel
theorem dX12_laysLong_32 : decode cX12_laysLong 32 = .ok (.istore 4, 2) := by decide +kernel
theorem dX12_laysLong_34 : decode cX12_laysLong 34 = .ok (.iload 4, 2) := by decide +kernel
theorem dX12_laysLong_36 : decode cX12_laysLong 36 = .ok (.iconst 4, 1) := by decide +kernel
theorem dX12_laysLong_37 : decode cX12_laysLong 37 = .ok (.if_icmp .gt 48, 3) := by decide +kernel
theorem dX12_laysLong_40 : decode cX12_laysLong 40 = .ok (.iconst 0, 1) := by decide +kernel
theorem dX12_laysLong_41 : decode cX12_laysLong 41 = .ok (.istore 5, 2) := by decide +kernel
theorem dX12_laysLong_43 : decode cX12_laysLong 43 = .ok (.iload 4, 2) := by decide +kernel
theorem dX12_laysLong_45 : decode cX12_laysLong 45 = .ok (.iload 5, 2) := by decide +kernel
theorem dX12_laysLong_47 : decode cX12_laysLong 47 = .ok (.iadd, 1) := by decide +kernel
theorem dX12_laysLong_48 : decode cX12_laysLong 48 = .ok (.iconst 4, 1) := by decide +kernel
theorem dX12_laysLong_49 : decode cX12_laysLong 49 = .ok (.if_icmp .gt 30, 3) := by decide +kernel
theorem dX12_laysLong_52 : decode cX12_laysLong 52 = .ok (.aload_n 1, 1) := by decide +kernel
theorem dX12_laysLong_53 : decode cX12_laysLong 53 = .ok (.bipush 17, 2) := by decide +kernel
theorem dX12_laysLong_55 : decode cX12_laysLong 55 = .ok (.iload 4, 2) := by decide +kernel
theorem dX12_laysLong_57 : decode cX12_laysLong 57 = .ok (.imul, 1) := by decide +kernel
theorem dX12_laysLong_58 : decode cX12_laysLong 58 = .ok (.iload 5, 2) := by decide +kernel
theorem dX12_laysLong_60 : decode cX12_laysLong 60 = .ok (.iadd, 1) := by decide +kernel
theorem dX12_laysLong_61 : decode cX12_laysLong 61 = .ok (.aload_n 0, 1) := by decide +kernel
theorem dX12_laysLong_62 : decode cX12_laysLong 62 = .ok (.sipush 141, 3) := by decide +kernel
theorem dX12_laysLong_65 : decode cX12_laysLong 65 = .ok (.iload 4, 2) := by decide +kernel
theorem dX12_laysLong_67 : decode cX12_laysLong 67 = .ok (.iload 5, 2) := by decide +kernel
theorem dX12_laysLong_69 : decode cX12_laysLong 69 = .ok (.invokevirtual 184, 3) := by decide +kernel
theorem dX12_laysLong_72 : decode cX12_laysLong 72 = .ok (.iastore, 1) := by decide +kernel
theorem dX12_laysLong_73 : decode cX12_laysLong 73 = .ok (.iinc 5 1, 3) := by decide +kernel
theorem dX12_laysLong_76 : decode cX12_laysLong 76 = .ok (.goto (-33), 3) := by decide +kernel
theorem dX12_laysLong_79 : decode cX12_laysLong 79 = .ok (.iinc 4 1, 3) := by decide +kernel
theorem dX12_laysLong_82 : decode cX12_laysLong 82 = .ok (.goto (-48), 3) := by decide +kernel
theorem dX12_laysLong_85 : decode cX12_laysLong 85 = .ok (.return_, 1) := by decide +kernel
theorem dX12_leastOf_0 : decode cX12_leastOf 0 = .ok (.iconst 0, 1) := by decide +kernel
theorem dX12_leastOf_1 : decode cX12_leastOf 1 = .ok (.istore_n 1, 1) := by decide +kernel
theorem dX12_leastOf_2 : decode cX12_leastOf 2 = .ok (.iload_n 1, 1) := by decide +kernel
theorem dX12_leastOf_3 : decode cX12_leastOf 3 = .ok (.bipush 16, 2) := by decide +kernel
theorem dX12_leastOf_5 : decode cX12_leastOf 5 = .ok (.if_icmp .gt 20, 3) := by decide +kernel
theorem dX12_leastOf_8 : decode cX12_leastOf 8 = .ok (.aload_n 0, 1) := by decide +kernel
theorem dX12_leastOf_9 : decode cX12_leastOf 9 = .ok (.bipush 17, 2) := by decide +kernel
theorem dX12_leastOf_11 : decode cX12_leastOf 11 = .ok (.iload_n 1, 1) := by decide +kernel
theorem dX12_leastOf_12 : decode cX12_leastOf 12 = .ok (.imul, 1) := by decide +kernel
theorem dX12_leastOf_13 : decode cX12_leastOf 13 = .ok (.iaload, 1) := by decide +kernel
theorem dX12_leastOf_14 : decode cX12_leastOf 14 = .ok (.ifCond .eq 5, 3) := by decide +kernel
theorem dX12_leastOf_17 : decode cX12_leastOf 17 = .ok (.iload_n 1, 1) := by decide +kernel
theorem dX12_leastOf_18 : decode cX12_leastOf 18 = .ok (.ireturn, 1) := by decide +kernel
theorem dX12_leastOf_19 : decode cX12_leastOf 19 = .ok (.iinc 1 1, 3) := by decide +kernel
theorem dX12_leastOf_22 : decode cX12_leastOf 22 = .ok (.goto (-20), 3) := by decide +kernel
theorem dX12_leastOf_25 : decode cX12_leastOf 25 = .ok (.iconst (-1), 1) := by decide +kernel
theorem dX12_leastOf_26 : decode cX12_leastOf 26 = .ok (.ireturn, 1) := by decide +kernel
theorem dX12_greatestOf_0 : decode cX12_greatestOf 0 = .ok (.bipush 16, 2) := by decide +kernel
theorem dX12_greatestOf_2 : decode cX12_greatestOf 2 = .ok (.istore_n 1, 1) := by decide +kernel
theorem dX12_greatestOf_3 : decode cX12_greatestOf 3 = .ok (.iload_n 1, 1) := by decide +kernel
theorem dX12_greatestOf_4 : decode cX12_greatestOf 4 = .ok (.ifCond .lt 20, 3) := by decide +kernel
theorem dX12_greatestOf_7 : decode cX12_greatestOf 7 = .ok (.aload_n 0, 1) := by decide +kernel
theorem dX12_greatestOf_8 : decode cX12_greatestOf 8 = .ok (.bipush 17, 2) := by decide +kernel
theorem dX12_greatestOf_10 : decode cX12_greatestOf 10 = .ok (.iload_n 1, 1) := by decide +kernel
theorem dX12_greatestOf_11 : decode cX12_greatestOf 11 = .ok (.imul, 1) := by decide +kernel
theorem dX12_greatestOf_12 : decode cX12_greatestOf 12 = .ok (.iaload, 1) := by decide +kernel
theorem dX12_greatestOf_13 : decode cX12_greatestOf 13 = .ok (.ifCond .eq 5, 3) := by decide +kernel
theorem dX12_greatestOf_16 : decode cX12_greatestOf 16 = .ok (.iload_n 1, 1) := by decide +kernel
theorem dX12_greatestOf_17 : decode cX12_greatestOf 17 = .ok (.ireturn, 1) := by decide +kernel
theorem dX12_greatestOf_18 : decode cX12_greatestOf 18 = .ok (.iinc 1 (-1), 3) := by decide +kernel
theorem dX12_greatestOf_21 : decode cX12_greatestOf 21 = .ok (.goto (-18), 3) := by decide +kernel
theorem dX12_greatestOf_24 : decode cX12_greatestOf 24 = .ok (.iconst (-1), 1) := by decide +kernel
theorem dX12_greatestOf_25 : decode cX12_greatestOf 25 = .ok (.ireturn, 1) := by decide +kernel
theorem dX12_goesBy_0 : decode cX12_goesBy 0 = .ok (.aload_n 0, 1) := by decide +kernel
theorem dX12_goesBy_1 : decode cX12_goesBy 1 = .ok (.getfield 109, 3) := by decide +kernel
theorem dX12_goesBy_4 : decode cX12_goesBy 4 = .ok (.iload_n 1, 1) := by decide +kernel
theorem dX12_goesBy_5 : decode cX12_goesBy 5 = .ok (.dup2, 1) := by decide +kernel
theorem dX12_goesBy_6 : decode cX12_goesBy 6 = .ok (.iaload, 1) := by decide +kernel
theorem dX12_goesBy_7 : decode cX12_goesBy 7 = .ok (.iconst 1, 1) := by decide +kernel
theorem dX12_goesBy_8 : decode cX12_goesBy 8 = .ok (.iadd, 1) := by decide +kernel
theorem dX12_goesBy_9 : decode cX12_goesBy 9 = .ok (.iastore, 1) := by decide +kernel
theorem dX12_goesBy_10 : decode cX12_goesBy 10 = .ok (.aload_n 0, 1) := by decide +kernel
theorem dX12_goesBy_11 : decode cX12_goesBy 11 = .ok (.getfield 112, 3) := by decide +kernel
theorem dX12_goesBy_14 : decode cX12_goesBy 14 = .ok (.sipush 4000, 3) := by decide +kernel
theorem dX12_goesBy_17 : decode cX12_goesBy 17 = .ok (.if_icmp .ge 13, 3) := by decide +kernel
theorem dX12_goesBy_20 : decode cX12_goesBy 20 = .ok (.aload_n 0, 1) := by decide +kernel
theorem dX12_goesBy_21 : decode cX12_goesBy 21 = .ok (.getfield 115, 3) := by decide +kernel
theorem dX12_goesBy_24 : decode cX12_goesBy 24 = .ok (.aload_n 0, 1) := by decide +kernel
theorem dX12_goesBy_25 : decode cX12_goesBy 25 = .ok (.getfield 112, 3) := by decide +kernel
theorem dX12_goesBy_28 : decode cX12_goesBy 28 = .ok (.iload_n 1, 1) := by decide +kernel
theorem dX12_goesBy_29 : decode cX12_goesBy 29 = .ok (.iastore, 1) := by decide +kernel
theorem dX12_goesBy_30 : decode cX12_goesBy 30 = .ok (.aload_n 0, 1) := by decide +kernel
theorem dX12_goesBy_31 : decode cX12_goesBy 31 = .ok (.dup, 1) := by decide +kernel
theorem dX12_goesBy_32 : decode cX12_goesBy 32 = .ok (.getfield 112, 3) := by decide +kernel
theorem dX12_goesBy_35 : decode cX12_goesBy 35 = .ok (.iconst 1, 1) := by decide +kernel
theorem dX12_goesBy_36 : decode cX12_goesBy 36 = .ok (.iadd, 1) := by decide +kernel
theorem dX12_goesBy_37 : decode cX12_goesBy 37 = .ok (.putfield 112, 3) := by decide +kernel
theorem dX12_goesBy_40 : decode cX12_goesBy 40 = .ok (.return_, 1) := by decide +kernel
theorem dX12_splits_0 : decode cX12_splits 0 = .ok (.iconst 0, 1) := by decide +kernel
theorem dX12_splits_1 : decode cX12_splits 1 = .ok (.istore_n 1, 1) := by decide +kernel
theorem dX12_splits_2 : decode cX12_splits 2 = .ok (.iload_n 1, 1) := by decide +kernel
theorem dX12_splits_3 : decode cX12_splits 3 = .ok (.bipush 16, 2) := by decide +kernel
theorem dX12_splits_5 : decode cX12_splits 5 = .ok (.if_icmp .gt 60, 3) := by decide +kernel
theorem dX12_splits_8 : decode cX12_splits 8 = .ok (.iconst 0, 1) := by decide +kernel
theorem dX12_splits_9 : decode cX12_splits 9 = .ok (.istore_n 2, 1) := by decide +kernel
theorem dX12_splits_10 : decode cX12_splits 10 = .ok (.iload_n 2, 1) := by decide +kernel
theorem dX12_splits_11 : decode cX12_splits 11 = .ok (.bipush 16, 2) := by decide +kernel
theorem dX12_splits_13 : decode cX12_splits 13 = .ok (.if_icmp .ge 33, 3) := by decide +kernel
theorem dX12_splits_16 : decode cX12_splits 16 = .ok (.aload_n 0, 1) := by decide +kernel
theorem dX12_splits_17 : decode cX12_splits 17 = .ok (.getfield 103, 3) := by decide +kernel
theorem dX12_splits_20 : decode cX12_splits 20 = .ok (.bipush 17, 2) := by decide +kernel
theorem dX12_splits_22 : decode cX12_splits 22 = .ok (.iload_n 1, 1) := by decide +kernel
theorem dX12_splits_23 : decode cX12_splits 23 = .ok (.imul, 1) := by decide +kernel
theorem dX12_splits_24 : decode cX12_splits 24 = .ok (.iload_n 2, 1) := by decide +kernel
theorem dX12_splits_25 : decode cX12_splits 25 = .ok (.iadd, 1) := by decide +kernel
theorem dX12_splits_26 : decode cX12_splits 26 = .ok (.aload_n 0, 1) := by decide +kernel
theorem dX12_splits_27 : decode cX12_splits 27 = .ok (.getfield 103, 3) := by decide +kernel
theorem dX12_splits_30 : decode cX12_splits 30 = .ok (.bipush 17, 2) := by decide +kernel
theorem dX12_splits_32 : decode cX12_splits 32 = .ok (.iload_n 1, 1) := by decide +kernel
theorem dX12_splits_33 : decode cX12_splits 33 = .ok (.imul, 1) := by decide +kernel
theorem dX12_splits_34 : decode cX12_splits 34 = .ok (.iload_n 2, 1) := by decide +kernel
theorem dX12_splits_35 : decode cX12_splits 35 = .ok (.iadd, 1) := by decide +kernel
theorem dX12_splits_36 : decode cX12_splits 36 = .ok (.iconst 1, 1) := by decide +kernel
theorem dX12_splits_37 : decode cX12_splits 37 = .ok (.iadd, 1) := by decide +kernel
theorem dX12_splits_38 : decode cX12_splits 38 = .ok (.iaload, 1) := by decide +kernel
theorem dX12_splits_39 : decode cX12_splits 39 = .ok (.iastore, 1) := by decide +kernel
theorem dX12_splits_40 : decode cX12_splits 40 = .ok (.iinc 2 1, 3) := by decide +kernel
theorem dX12_splits_43 : decode cX12_splits 43 = .ok (.goto (-33), 3) := by decide +kernel
theorem dX12_splits_46 : decode cX12_splits 46 = .ok (.aload_n 0, 1) := by decide +kernel
theorem dX12_splits_47 : decode cX12_splits 47 = .ok (.getfield 103, 3) := by decide +kernel
theorem dX12_splits_50 : decode cX12_splits 50 = .ok (.bipush 17, 2) := by decide +kernel
theorem dX12_splits_52 : decode cX12_splits 52 = .ok (.iload_n 1, 1) := by decide +kernel
theorem dX12_splits_53 : decode cX12_splits 53 = .ok (.imul, 1) := by decide +kernel
theorem dX12_splits_54 : decode cX12_splits 54 = .ok (.bipush 16, 2) := by decide +kernel
theorem dX12_splits_56 : decode cX12_splits 56 = .ok (.iadd, 1) := by decide +kernel
theorem dX12_splits_57 : decode cX12_splits 57 = .ok (.iconst 0, 1) := by decide +kernel
theorem dX12_splits_58 : decode cX12_splits 58 = .ok (.iastore, 1) := by decide +kernel
theorem dX12_splits_59 : decode cX12_splits 59 = .ok (.iinc 1 1, 3) := by decide +kernel
theorem dX12_splits_62 : decode cX12_splits 62 = .ok (.goto (-60), 3) := by decide +kernel
theorem dX12_splits_65 : decode cX12_splits 65 = .ok (.return_, 1) := by decide +kernel
theorem dX12_swaps_0 : decode cX12_swaps 0 = .ok (.iconst 0, 1) := by decide +kernel
theorem dX12_swaps_1 : decode cX12_swaps 1 = .ok (.istore_n 1, 1) := by decide +kernel
theorem dX12_swaps_2 : decode cX12_swaps 2 = .ok (.iload_n 1, 1) := by decide +kernel
theorem dX12_swaps_3 : decode cX12_swaps 3 = .ok (.sipush 289, 3) := by decide +kernel
theorem dX12_swaps_6 : decode cX12_swaps 6 = .ok (.if_icmp .ge 35, 3) := by decide +kernel
theorem dX12_swaps_9 : decode cX12_swaps 9 = .ok (.aload_n 0, 1) := by decide +kernel
theorem dX12_swaps_10 : decode cX12_swaps 10 = .ok (.getfield 103, 3) := by decide +kernel
theorem dX12_swaps_13 : decode cX12_swaps 13 = .ok (.iload_n 1, 1) := by decide +kernel
theorem dX12_swaps_14 : decode cX12_swaps 14 = .ok (.iaload, 1) := by decide +kernel
theorem dX12_swaps_15 : decode cX12_swaps 15 = .ok (.istore_n 2, 1) := by decide +kernel
theorem dX12_swaps_16 : decode cX12_swaps 16 = .ok (.aload_n 0, 1) := by decide +kernel
theorem dX12_swaps_17 : decode cX12_swaps 17 = .ok (.getfield 103, 3) := by decide +kernel
theorem dX12_swaps_20 : decode cX12_swaps 20 = .ok (.iload_n 1, 1) := by decide +kernel
theorem dX12_swaps_21 : decode cX12_swaps 21 = .ok (.aload_n 0, 1) := by decide +kernel
theorem dX12_swaps_22 : decode cX12_swaps 22 = .ok (.getfield 106, 3) := by decide +kernel
theorem dX12_swaps_25 : decode cX12_swaps 25 = .ok (.iload_n 1, 1) := by decide +kernel
theorem dX12_swaps_26 : decode cX12_swaps 26 = .ok (.iaload, 1) := by decide +kernel
theorem dX12_swaps_27 : decode cX12_swaps 27 = .ok (.iastore, 1) := by decide +kernel
theorem dX12_swaps_28 : decode cX12_swaps 28 = .ok (.aload_n 0, 1) := by decide +kernel
theorem dX12_swaps_29 : decode cX12_swaps 29 = .ok (.getfield 106, 3) := by decide +kernel
theorem dX12_swaps_32 : decode cX12_swaps 32 = .ok (.iload_n 1, 1) := by decide +kernel
theorem dX12_swaps_33 : decode cX12_swaps 33 = .ok (.iload_n 2, 1) := by decide +kernel
theorem dX12_swaps_34 : decode cX12_swaps 34 = .ok (.iastore, 1) := by decide +kernel
theorem dX12_swaps_35 : decode cX12_swaps 35 = .ok (.iinc 1 1, 3) := by decide +kernel
theorem dX12_swaps_38 : decode cX12_swaps 38 = .ok (.goto (-36), 3) := by decide +kernel
theorem dX12_swaps_41 : decode cX12_swaps 41 = .ok (.return_, 1) := by decide +kernel
theorem dX12_cuts_0 : decode cX12_cuts 0 = .ok (.aload_n 0, 1) := by decide +kernel
theorem dX12_cuts_1 : decode cX12_cuts 1 = .ok (.aload_n 0, 1) := by decide +kernel
theorem dX12_cuts_2 : decode cX12_cuts 2 = .ok (.getfield 106, 3) := by decide +kernel
theorem dX12_cuts_5 : decode cX12_cuts 5 = .ok (.bipush 17, 2) := by decide +kernel
theorem dX12_cuts_7 : decode cX12_cuts 7 = .ok (.iload_n 2, 1) := by decide +kernel
theorem dX12_cuts_8 : decode cX12_cuts 8 = .ok (.imul, 1) := by decide +kernel
theorem dX12_cuts_9 : decode cX12_cuts 9 = .ok (.iaload, 1) := by decide +kernel
theorem dX12_cuts_10 : decode cX12_cuts 10 = .ok (.i2l, 1) := by decide +kernel
theorem dX12_cuts_11 : decode cX12_cuts 11 = .ok (.aload_n 0, 1) := by decide +kernel
theorem dX12_cuts_12 : decode cX12_cuts 12 = .ok (.aload_n 0, 1) := by decide +kernel
theorem dX12_cuts_13 : decode cX12_cuts 13 = .ok (.getfield 103, 3) := by decide +kernel
theorem dX12_cuts_16 : decode cX12_cuts 16 = .ok (.bipush 17, 2) := by decide +kernel
theorem dX12_cuts_18 : decode cX12_cuts 18 = .ok (.iload_n 1, 1) := by decide +kernel
theorem dX12_cuts_19 : decode cX12_cuts 19 = .ok (.imul, 1) := by decide +kernel
theorem dX12_cuts_20 : decode cX12_cuts 20 = .ok (.iaload, 1) := by decide +kernel
theorem dX12_cuts_21 : decode cX12_cuts 21 = .ok (.invokevirtual 328, 3) := by decide +kernel
theorem dX12_cuts_24 : decode cX12_cuts 24 = .ok (.i2l, 1) := by decide +kernel
theorem dX12_cuts_25 : decode cX12_cuts 25 = .ok (.lmul, 1) := by decide +kernel
theorem dX12_cuts_26 : decode cX12_cuts 26 = .ok (.invokevirtual 176, 3) := by decide +kernel
theorem dX12_cuts_29 : decode cX12_cuts 29 = .ok (.istore_n 3, 1) := by decide +kernel
theorem dX12_cuts_30 : decode cX12_cuts 30 = .ok (.iload_n 2, 1) := by decide +kernel
theorem dX12_cuts_31 : decode cX12_cuts 31 = .ok (.iload_n 1, 1) := by decide +kernel
theorem dX12_cuts_32 : decode cX12_cuts 32 = .ok (.isub, 1) := by decide +kernel
theorem dX12_cuts_33 : decode cX12_cuts 33 = .ok (.istore 4, 2) := by decide +kernel
theorem dX12_cuts_35 : decode cX12_cuts 35 = .ok (.iconst 0, 1) := by decide +kernel
theorem dX12_cuts_36 : decode cX12_cuts 36 = .ok (.istore 5, 2) := by decide +kernel
theorem dX12_cuts_38 : decode cX12_cuts 38 = .ok (.iload 5, 2) := by decide +kernel
theorem dX12_cuts_40 : decode cX12_cuts 40 = .ok (.iload 4, 2) := by decide +kernel
theorem dX12_cuts_42 : decode cX12_cuts 42 = .ok (.iadd, 1) := by decide +kernel
theorem dX12_cuts_43 : decode cX12_cuts 43 = .ok (.bipush 16, 2) := by decide +kernel
theorem dX12_cuts_45 : decode cX12_cuts 45 = .ok (.if_icmp .gt 81, 3) := by decide +kernel
theorem dX12_cuts_48 : decode cX12_cuts 48 = .ok (.iconst 0, 1) := by decide +kernel
theorem dX12_cuts_49 : decode cX12_cuts 49 = .ok (.istore 6, 2) := by decide +kernel
theorem dX12_cuts_51 : decode cX12_cuts 51 = .ok (.iload 5, 2) := by decide +kernel
theorem dX12_cuts_53 : decode cX12_cuts 53 = .ok (.iload 4, 2) := by decide +kernel
theorem dX12_cuts_55 : decode cX12_cuts 55 = .ok (.iadd, 1) := by decide +kernel
theorem dX12_cuts_56 : decode cX12_cuts 56 = .ok (.iload 6, 2) := by decide +kernel
theorem dX12_cuts_58 : decode cX12_cuts 58 = .ok (.iadd, 1) := by decide +kernel
theorem dX12_cuts_59 : decode cX12_cuts 59 = .ok (.bipush 16, 2) := by decide +kernel
theorem dX12_cuts_61 : decode cX12_cuts 61 = .ok (.if_icmp .gt 59, 3) := by decide +kernel
theorem dX12_cuts_64 : decode cX12_cuts 64 = .ok (.bipush 17, 2) := by decide +kernel
theorem dX12_cuts_66 : decode cX12_cuts 66 = .ok (.iload 5, 2) := by decide +kernel
theorem dX12_cuts_68 : decode cX12_cuts 68 = .ok (.iload 4, 2) := by decide +kernel
theorem dX12_cuts_70 : decode cX12_cuts 70 = .ok (.iadd, 1) := by decide +kernel
theorem dX12_cuts_71 : decode cX12_cuts 71 = .ok (.imul, 1) := by decide +kernel
theorem dX12_cuts_72 : decode cX12_cuts 72 = .ok (.iload 6, 2) := by decide +kernel
theorem dX12_cuts_74 : decode cX12_cuts 74 = .ok (.iadd, 1) := by decide +kernel
theorem dX12_cuts_75 : decode cX12_cuts 75 = .ok (.istore 7, 2) := by decide +kernel
theorem dX12_cuts_77 : decode cX12_cuts 77 = .ok (.aload_n 0, 1) := by decide +kernel
theorem dX12_cuts_78 : decode cX12_cuts 78 = .ok (.getfield 106, 3) := by decide +kernel
theorem dX12_cuts_81 : decode cX12_cuts 81 = .ok (.iload 7, 2) := by decide +kernel
theorem dX12_cuts_83 : decode cX12_cuts 83 = .ok (.aload_n 0, 1) := by decide +kernel
theorem dX12_cuts_84 : decode cX12_cuts 84 = .ok (.aload_n 0, 1) := by decide +kernel
theorem dX12_cuts_85 : decode cX12_cuts 85 = .ok (.getfield 106, 3) := by decide +kernel
theorem dX12_cuts_88 : decode cX12_cuts 88 = .ok (.iload 7, 2) := by decide +kernel
theorem dX12_cuts_90 : decode cX12_cuts 90 = .ok (.iaload, 1) := by decide +kernel
theorem dX12_cuts_91 : decode cX12_cuts 91 = .ok (.i2l, 1) := by decide +kernel
theorem dX12_cuts_92 : decode cX12_cuts 92 = .ok (.iload_n 3, 1) := by decide +kernel
theorem dX12_cuts_93 : decode cX12_cuts 93 = .ok (.i2l, 1) := by decide +kernel
theorem dX12_cuts_94 : decode cX12_cuts 94 = .ok (.aload_n 0, 1) := by decide +kernel
theorem dX12_cuts_95 : decode cX12_cuts 95 = .ok (.getfield 103, 3) := by decide +kernel
theorem dX12_cuts_98 : decode cX12_cuts 98 = .ok (.bipush 17, 2) := by decide +kernel
theorem dX12_cuts_100 : decode cX12_cuts 100 = .ok (.iload 5, 2) := by decide +kernel
theorem dX12_cuts_102 : decode cX12_cuts 102 = .ok (.imul, 1) := by decide +kernel
theorem dX12_cuts_103 : decode cX12_cuts 103 = .ok (.iload 6, 2) := by decide +kernel
theorem dX12_cuts_105 : decode cX12_cuts 105 = .ok (.iadd, 1) := by decide +kernel
theorem dX12_cuts_106 : decode cX12_cuts 106 = .ok (.iaload, 1) := by decide +kernel
theorem dX12_cuts_107 : decode cX12_cuts 107 = .ok (.i2l, 1) := by decide +kernel
theorem dX12_cuts_108 : decode cX12_cuts 108 = .ok (.lmul, 1) := by decide +kernel
theorem dX12_cuts_109 : decode cX12_cuts 109 = .ok (.lsub, 1) := by decide +kernel
theorem dX12_cuts_110 : decode cX12_cuts 110 = .ok (.invokevirtual 176, 3) := by decide +kernel
theorem dX12_cuts_113 : decode cX12_cuts 113 = .ok (.iastore, 1) := by decide +kernel
theorem dX12_cuts_114 : decode cX12_cuts 114 = .ok (.iinc 6 1, 3) := by decide +kernel
theorem dX12_cuts_117 : decode cX12_cuts 117 = .ok (.goto (-66), 3) := by decide +kernel
theorem dX12_cuts_120 : decode cX12_cuts 120 = .ok (.iinc 5 1, 3) := by decide +kernel
theorem dX12_cuts_123 : decode cX12_cuts 123 = .ok (.goto (-85), 3) := by decide +kernel
theorem dX12_cuts_126 : decode cX12_cuts 126 = .ok (.return_, 1) := by decide +kernel
theorem dX12_timesAt_0 : decode cX12_timesAt 0 = .ok (.iconst 0, 1) := by decide +kernel
theorem dX12_timesAt_1 : decode cX12_timesAt 1 = .ok (.istore 4, 2) := by decide +kernel
theorem dX12_timesAt_3 : decode cX12_timesAt 3 = .ok (.iload 4, 2) := by decide +kernel
theorem dX12_timesAt_5 : decode cX12_timesAt 5 = .ok (.iconst 4, 1) := by decide +kernel
theorem dX12_timesAt_6 : decode cX12_timesAt 6 = .ok (.if_icmp .ge 17, 3) := by decide +kernel
theorem dX12_timesAt_9 : decode cX12_timesAt 9 = .ok (.aload_n 0, 1) := by decide +kernel
theorem dX12_timesAt_10 : decode cX12_timesAt 10 = .ok (.getfield 109, 3) := by decide +kernel
theorem dX12_timesAt_13 : decode cX12_timesAt 13 = .ok (.iload 4, 2) := by decide +kernel
theorem dX12_timesAt_15 : decode cX12_timesAt 15 = .ok (.iconst 0, 1) := by decide +kernel
theorem dX12_timesAt_16 : decode cX12_timesAt 16 = .ok (.iastore, 1) := by decide +kernel
theorem dX12_timesAt_17 : decode cX12_timesAt 17 = .ok (.iinc 4 1, 3) := by decide +kernel
theorem dX12_timesAt_20 : decode cX12_timesAt 20 = .ok (.goto (-17), 3) := by decide +kernel
theorem dX12_timesAt_23 : decode cX12_timesAt 23 = .ok (.aload_n 0, 1) := by decide +kernel
theorem dX12_timesAt_24 : decode cX12_timesAt 24 = .ok (.iconst 0, 1) := by decide +kernel
theorem dX12_timesAt_25 : decode cX12_timesAt 25 = .ok (.putfield 112, 3) := by decide +kernel
theorem dX12_timesAt_28 : decode cX12_timesAt 28 = .ok (.aload_n 0, 1) := by decide +kernel
theorem dX12_timesAt_29 : decode cX12_timesAt 29 = .ok (.iload_n 1, 1) := by decide +kernel
theorem dX12_timesAt_30 : decode cX12_timesAt 30 = .ok (.iload_n 2, 1) := by decide +kernel
theorem dX12_timesAt_31 : decode cX12_timesAt 31 = .ok (.invokevirtual 366, 3) := by decide +kernel
theorem dX12_timesAt_34 : decode cX12_timesAt 34 = .ok (.aload_n 0, 1) := by decide +kernel
theorem dX12_timesAt_35 : decode cX12_timesAt 35 = .ok (.sipush 143, 3) := by decide +kernel
theorem dX12_timesAt_38 : decode cX12_timesAt 38 = .ok (.aload_n 0, 1) := by decide +kernel
theorem dX12_timesAt_39 : decode cX12_timesAt 39 = .ok (.sipush 143, 3) := by decide +kernel
theorem dX12_timesAt_42 : decode cX12_timesAt 42 = .ok (.invokevirtual 254, 3) := by decide +kernel
theorem dX12_timesAt_45 : decode cX12_timesAt 45 = .ok (.iload_n 3, 1) := by decide +kernel
theorem dX12_timesAt_46 : decode cX12_timesAt 46 = .ok (.invokevirtual 293, 3) := by decide +kernel
theorem dX12_timesAt_49 : decode cX12_timesAt 49 = .ok (.ifCond .ne 6, 3) := by decide +kernel
theorem dX12_timesAt_52 : decode cX12_timesAt 52 = .ok (.bipush (-2), 2) := by decide +kernel
theorem dX12_timesAt_54 : decode cX12_timesAt 54 = .ok (.ireturn, 1) := by decide +kernel
theorem dX12_timesAt_55 : decode cX12_timesAt 55 = .ok (.aload_n 0, 1) := by decide +kernel
theorem dX12_timesAt_56 : decode cX12_timesAt 56 = .ok (.aload_n 0, 1) := by decide +kernel
theorem dX12_timesAt_57 : decode cX12_timesAt 57 = .ok (.getfield 103, 3) := by decide +kernel
theorem dX12_timesAt_60 : decode cX12_timesAt 60 = .ok (.iload_n 1, 1) := by decide +kernel
theorem dX12_timesAt_61 : decode cX12_timesAt 61 = .ok (.iload_n 3, 1) := by decide +kernel
theorem dX12_timesAt_62 : decode cX12_timesAt 62 = .ok (.invokevirtual 369, 3) := by decide +kernel
theorem dX12_timesAt_65 : decode cX12_timesAt 65 = .ok (.aload_n 0, 1) := by decide +kernel
theorem dX12_timesAt_66 : decode cX12_timesAt 66 = .ok (.aload_n 0, 1) := by decide +kernel
theorem dX12_timesAt_67 : decode cX12_timesAt 67 = .ok (.getfield 106, 3) := by decide +kernel
theorem dX12_timesAt_70 : decode cX12_timesAt 70 = .ok (.iload_n 2, 1) := by decide +kernel
theorem dX12_timesAt_71 : decode cX12_timesAt 71 = .ok (.iload_n 3, 1) := by decide +kernel
theorem dX12_timesAt_72 : decode cX12_timesAt 72 = .ok (.invokevirtual 369, 3) := by decide +kernel
theorem dX12_timesAt_75 : decode cX12_timesAt 75 = .ok (.iconst 0, 1) := by decide +kernel
theorem dX12_timesAt_76 : decode cX12_timesAt 76 = .ok (.istore 4, 2) := by decide +kernel
theorem dX12_timesAt_78 : decode cX12_timesAt 78 = .ok (.aload_n 0, 1) := by decide +kernel
theorem dX12_timesAt_79 : decode cX12_timesAt 79 = .ok (.getfield 103, 3) := by decide +kernel
theorem dX12_timesAt_82 : decode cX12_timesAt 82 = .ok (.iconst 0, 1) := by decide +kernel
theorem dX12_timesAt_83 : decode cX12_timesAt 83 = .ok (.iaload, 1) := by decide +kernel
theorem dX12_timesAt_84 : decode cX12_timesAt 84 = .ok (.ifCond .ne 101, 3) := by decide +kernel
theorem dX12_timesAt_87 : decode cX12_timesAt 87 = .ok (.aload_n 0, 1) := by decide +kernel
theorem dX12_timesAt_88 : decode cX12_timesAt 88 = .ok (.getfield 106, 3) := by decide +kernel
theorem dX12_timesAt_91 : decode cX12_timesAt 91 = .ok (.iconst 0, 1) := by decide +kernel
theorem dX12_timesAt_92 : decode cX12_timesAt 92 = .ok (.iaload, 1) := by decide +kernel
theorem dX12_timesAt_93 : decode cX12_timesAt 93 = .ok (.ifCond .ne 92, 3) := by decide +kernel
theorem dX12_timesAt_96 : decode cX12_timesAt 96 = .ok (.aload_n 0, 1) := by decide +kernel
theorem dX12_timesAt_97 : decode cX12_timesAt 97 = .ok (.getfield 103, 3) := by decide +kernel
theorem dX12_timesAt_100 : decode cX12_timesAt 100 = .ok (.invokestatic 373, 3) := by decide +kernel
theorem dX12_timesAt_103 : decode cX12_timesAt 103 = .ok (.istore 5, 2) := by decide +kernel
theorem dX12_timesAt_105 : decode cX12_timesAt 105 = .ok (.aload_n 0, 1) := by decide +kernel
theorem dX12_timesAt_106 : decode cX12_timesAt 106 = .ok (.getfield 106, 3) := by decide +kernel
theorem dX12_timesAt_109 : decode cX12_timesAt 109 = .ok (.invokestatic 373, 3) := by decide +kernel
theorem dX12_timesAt_112 : decode cX12_timesAt 112 = .ok (.istore 6, 2) := by decide +kernel
theorem dX12_timesAt_114 : decode cX12_timesAt 114 = .ok (.iload 5, 2) := by decide +kernel
theorem dX12_timesAt_116 : decode cX12_timesAt 116 = .ok (.iconst (-1), 1) := by decide +kernel
theorem dX12_timesAt_117 : decode cX12_timesAt 117 = .ok (.if_icmp .ne 27, 3) := by decide +kernel
theorem dX12_timesAt_120 : decode cX12_timesAt 120 = .ok (.aload_n 0, 1) := by decide +kernel
theorem dX12_timesAt_121 : decode cX12_timesAt 121 = .ok (.iconst 1, 1) := by decide +kernel
theorem dX12_timesAt_122 : decode cX12_timesAt 122 = .ok (.invokevirtual 377, 3) := by decide +kernel
theorem dX12_timesAt_125 : decode cX12_timesAt 125 = .ok (.iload 4, 2) := by decide +kernel
theorem dX12_timesAt_127 : decode cX12_timesAt 127 = .ok (.aload_n 0, 1) := by decide +kernel
theorem dX12_timesAt_128 : decode cX12_timesAt 128 = .ok (.getfield 106, 3) := by decide +kernel
theorem dX12_timesAt_131 : decode cX12_timesAt 131 = .ok (.invokestatic 380, 3) := by decide +kernel
theorem dX12_timesAt_134 : decode cX12_timesAt 134 = .ok (.iadd, 1) := by decide +kernel
theorem dX12_timesAt_135 : decode cX12_timesAt 135 = .ok (.istore 4, 2) := by decide +kernel
theorem dX12_timesAt_137 : decode cX12_timesAt 137 = .ok (.aload_n 0, 1) := by decide +kernel
theorem dX12_timesAt_138 : decode cX12_timesAt 138 = .ok (.invokevirtual 383, 3) := by decide +kernel
theorem dX12_timesAt_141 : decode cX12_timesAt 141 = .ok (.goto 41, 3) := by decide +kernel
theorem dX12_timesAt_144 : decode cX12_timesAt 144 = .ok (.iload 6, 2) := by decide +kernel
theorem dX12_timesAt_146 : decode cX12_timesAt 146 = .ok (.iconst (-1), 1) := by decide +kernel
theorem dX12_timesAt_147 : decode cX12_timesAt 147 = .ok (.if_icmp .eq 10, 3) := by decide +kernel
theorem dX12_timesAt_150 : decode cX12_timesAt 150 = .ok (.iload 5, 2) := by decide +kernel
theorem dX12_timesAt_152 : decode cX12_timesAt 152 = .ok (.iload 6, 2) := by decide +kernel
theorem dX12_timesAt_154 : decode cX12_timesAt 154 = .ok (.if_icmp .le 15, 3) := by decide +kernel
theorem dX12_timesAt_157 : decode cX12_timesAt 157 = .ok (.aload_n 0, 1) := by decide +kernel
theorem dX12_timesAt_158 : decode cX12_timesAt 158 = .ok (.iconst 2, 1) := by decide +kernel
theorem dX12_timesAt_159 : decode cX12_timesAt 159 = .ok (.invokevirtual 377, 3) := by decide +kernel
theorem dX12_timesAt_162 : decode cX12_timesAt 162 = .ok (.aload_n 0, 1) := by decide +kernel
theorem dX12_timesAt_163 : decode cX12_timesAt 163 = .ok (.invokevirtual 386, 3) := by decide +kernel
theorem dX12_timesAt_166 : decode cX12_timesAt 166 = .ok (.goto 16, 3) := by decide +kernel
theorem dX12_timesAt_169 : decode cX12_timesAt 169 = .ok (.aload_n 0, 1) := by decide +kernel
theorem dX12_timesAt_170 : decode cX12_timesAt 170 = .ok (.iconst 3, 1) := by decide +kernel
theorem dX12_timesAt_171 : decode cX12_timesAt 171 = .ok (.invokevirtual 377, 3) := by decide +kernel
theorem dX12_timesAt_174 : decode cX12_timesAt 174 = .ok (.aload_n 0, 1) := by decide +kernel
theorem dX12_timesAt_175 : decode cX12_timesAt 175 = .ok (.iload 5, 2) := by decide +kernel
theorem dX12_timesAt_177 : decode cX12_timesAt 177 = .ok (.iload 6, 2) := by decide +kernel
theorem dX12_timesAt_179 : decode cX12_timesAt 179 = .ok (.invokevirtual 389, 3) := by decide +kernel
theorem dX12_timesAt_182 : decode cX12_timesAt 182 = .ok (.goto (-104), 3) := by decide +kernel
theorem dX12_timesAt_185 : decode cX12_timesAt 185 = .ok (.aload_n 0, 1) := by decide +kernel
theorem dX12_timesAt_186 : decode cX12_timesAt 186 = .ok (.iconst 0, 1) := by decide +kernel
theorem dX12_timesAt_187 : decode cX12_timesAt 187 = .ok (.invokevirtual 377, 3) := by decide +kernel
theorem dX12_timesAt_190 : decode cX12_timesAt 190 = .ok (.iload 4, 2) := by decide +kernel
theorem dX12_timesAt_192 : decode cX12_timesAt 192 = .ok (.ireturn, 1) := by decide +kernel
theorem dX12_isAsked_0 : decode cX12_isAsked 0 = .ok (.aload_n 0, 1) := by decide +kernel
theorem dX12_isAsked_1 : decode cX12_isAsked 1 = .ok (.iload_n 1, 1) := by decide +kernel
theorem dX12_isAsked_2 : decode cX12_isAsked 2 = .ok (.iload_n 2, 1) := by decide +kernel
theorem dX12_isAsked_3 : decode cX12_isAsked 3 = .ok (.invokevirtual 363, 3) := by decide +kernel
theorem dX12_isAsked_6 : decode cX12_isAsked 6 = .ok (.ifCond .eq 15, 3) := by decide +kernel
theorem dX12_isAsked_9 : decode cX12_isAsked 9 = .ok (.aload_n 0, 1) := by decide +kernel
theorem dX12_isAsked_10 : decode cX12_isAsked 10 = .ok (.iload_n 3, 1) := by decide +kernel
theorem dX12_isAsked_11 : decode cX12_isAsked 11 = .ok (.invokevirtual 296, 3) := by decide +kernel
theorem dX12_isAsked_14 : decode cX12_isAsked 14 = .ok (.ifCond .eq 7, 3) := by decide +kernel
theorem dX12_isAsked_17 : decode cX12_isAsked 17 = .ok (.iconst 1, 1) := by decide +kernel
theorem dX12_isAsked_18 : decode cX12_isAsked 18 = .ok (.goto 4, 3) := by decide +kernel
theorem dX12_isAsked_21 : decode cX12_isAsked 21 = .ok (.iconst 0, 1) := by decide +kernel
theorem dX12_isAsked_22 : decode cX12_isAsked 22 = .ok (.ireturn, 1) := by decide +kernel
theorem dX12_times_0 : decode cX12_times 0 = .ok (.aload_n 0, 1) := by decide +kernel
theorem dX12_times_1 : decode cX12_times 1 = .ok (.iload_n 1, 1) := by decide +kernel
theorem dX12_times_2 : decode cX12_times 2 = .ok (.iload_n 2, 1) := by decide +kernel
theorem dX12_times_3 : decode cX12_times 3 = .ok (.iload_n 3, 1) := by decide +kernel
theorem dX12_times_4 : decode cX12_times 4 = .ok (.invokevirtual 392, 3) := by decide +kernel
theorem dX12_times_7 : decode cX12_times 7 = .ok (.ifCond .eq 13, 3) := by decide +kernel
theorem dX12_times_10 : decode cX12_times 10 = .ok (.aload_n 0, 1) := by decide +kernel
theorem dX12_times_11 : decode cX12_times 11 = .ok (.iload_n 1, 1) := by decide +kernel
theorem dX12_times_12 : decode cX12_times 12 = .ok (.iload_n 2, 1) := by decide +kernel
theorem dX12_times_13 : decode cX12_times 13 = .ok (.iload_n 3, 1) := by decide +kernel
theorem dX12_times_14 : decode cX12_times 14 = .ok (.invokevirtual 395, 3) := by decide +kernel
theorem dX12_times_17 : decode cX12_times 17 = .ok (.goto 4, 3) := by decide +kernel
theorem dX12_times_20 : decode cX12_times 20 = .ok (.iconst (-1), 1) := by decide +kernel
theorem dX12_times_21 : decode cX12_times 21 = .ok (.ireturn, 1) := by decide +kernel
theorem dX12_rules_0 : decode cX12_rules 0 = .ok (.aload_n 0, 1) := by decide +kernel
theorem dX12_rules_1 : decode cX12_rules 1 = .ok (.iload_n 1, 1) := by decide +kernel
theorem dX12_rules_2 : decode cX12_rules 2 = .ok (.iload_n 2, 1) := by decide +kernel
theorem dX12_rules_3 : decode cX12_rules 3 = .ok (.iload_n 3, 1) := by decide +kernel
theorem dX12_rules_4 : decode cX12_rules 4 = .ok (.invokevirtual 392, 3) := by decide +kernel
theorem dX12_rules_7 : decode cX12_rules 7 = .ok (.ifCond .eq 13, 3) := by decide +kernel
theorem dX12_rules_10 : decode cX12_rules 10 = .ok (.iload 4, 2) := by decide +kernel
theorem dX12_rules_12 : decode cX12_rules 12 = .ok (.iconst 0, 1) := by decide +kernel
theorem dX12_rules_13 : decode cX12_rules 13 = .ok (.iconst 3, 1) := by decide +kernel
theorem dX12_rules_14 : decode cX12_rules 14 = .ok (.invokestatic 271, 3) := by decide +kernel
theorem dX12_rules_17 : decode cX12_rules 17 = .ok (.ifCond .ne 5, 3) := by decide +kernel
theorem dX12_rules_20 : decode cX12_rules 20 = .ok (.iconst (-1), 1) := by decide +kernel
theorem dX12_rules_21 : decode cX12_rules 21 = .ok (.ireturn, 1) := by decide +kernel
theorem dX12_rules_22 : decode cX12_rules 22 = .ok (.aload_n 0, 1) := by decide +kernel
theorem dX12_rules_23 : decode cX12_rules 23 = .ok (.iload_n 1, 1) := by decide +kernel
theorem dX12_rules_24 : decode cX12_rules 24 = .ok (.iload_n 2, 1) := by decide +kernel
theorem dX12_rules_25 : decode cX12_rules 25 = .ok (.iload_n 3, 1) := by decide +kernel
theorem dX12_rules_26 : decode cX12_rules 26 = .ok (.invokevirtual 395, 3) := by decide +kernel
theorem dX12_rules_29 : decode cX12_rules 29 = .ok (.bipush (-2), 2) := by decide +kernel
theorem dX12_rules_31 : decode cX12_rules 31 = .ok (.if_icmp .ne 7, 3) := by decide +kernel
theorem dX12_rules_34 : decode cX12_rules 34 = .ok (.iconst (-1), 1) := by decide +kernel
theorem dX12_rules_35 : decode cX12_rules 35 = .ok (.goto 10, 3) := by decide +kernel
theorem dX12_rules_38 : decode cX12_rules 38 = .ok (.aload_n 0, 1) := by decide +kernel
theorem dX12_rules_39 : decode cX12_rules 39 = .ok (.getfield 109, 3) := by decide +kernel
theorem dX12_rules_42 : decode cX12_rules 42 = .ok (.iload 4, 2) := by decide +kernel
theorem dX12_rules_44 : decode cX12_rules 44 = .ok (.iaload, 1) := by decide +kernel
theorem dX12_rules_45 : decode cX12_rules 45 = .ok (.ireturn, 1) := by decide +kernel
theorem dX12_rule_0 : decode cX12_rule 0 = .ok (.aload_n 0, 1) := by decide +kernel
theorem dX12_rule_1 : decode cX12_rule 1 = .ok (.iload_n 1, 1) := by decide +kernel
theorem dX12_rule_2 : decode cX12_rule 2 = .ok (.iload_n 2, 1) := by decide +kernel
theorem dX12_rule_3 : decode cX12_rule 3 = .ok (.iload_n 3, 1) := by decide +kernel
theorem dX12_rule_4 : decode cX12_rule 4 = .ok (.invokevirtual 392, 3) := by decide +kernel
theorem dX12_rule_7 : decode cX12_rule 7 = .ok (.ifCond .eq 15, 3) := by decide +kernel
theorem dX12_rule_10 : decode cX12_rule 10 = .ok (.aload_n 0, 1) := by decide +kernel
theorem dX12_rule_11 : decode cX12_rule 11 = .ok (.iload_n 1, 1) := by decide +kernel
theorem dX12_rule_12 : decode cX12_rule 12 = .ok (.iload_n 2, 1) := by decide +kernel
theorem dX12_rule_13 : decode cX12_rule 13 = .ok (.iload_n 3, 1) := by decide +kernel
theorem dX12_rule_14 : decode cX12_rule 14 = .ok (.invokevirtual 395, 3) := by decide +kernel
theorem dX12_rule_17 : decode cX12_rule 17 = .ok (.bipush (-2), 2) := by decide +kernel
theorem dX12_rule_19 : decode cX12_rule 19 = .ok (.if_icmp .ne 5, 3) := by decide +kernel
theorem dX12_rule_22 : decode cX12_rule 22 = .ok (.iconst (-1), 1) := by decide +kernel
theorem dX12_rule_23 : decode cX12_rule 23 = .ok (.ireturn, 1) := by decide +kernel
theorem dX12_rule_24 : decode cX12_rule 24 = .ok (.iload 4, 2) := by decide +kernel
theorem dX12_rule_26 : decode cX12_rule 26 = .ok (.iconst 0, 1) := by decide +kernel
theorem dX12_rule_27 : decode cX12_rule 27 = .ok (.aload_n 0, 1) := by decide +kernel
theorem dX12_rule_28 : decode cX12_rule 28 = .ok (.getfield 112, 3) := by decide +kernel
theorem dX12_rule_31 : decode cX12_rule 31 = .ok (.iconst 1, 1) := by decide +kernel
theorem dX12_rule_32 : decode cX12_rule 32 = .ok (.isub, 1) := by decide +kernel
theorem dX12_rule_33 : decode cX12_rule 33 = .ok (.invokestatic 271, 3) := by decide +kernel
theorem dX12_rule_36 : decode cX12_rule 36 = .ok (.ifCond .eq 21, 3) := by decide +kernel
theorem dX12_rule_39 : decode cX12_rule 39 = .ok (.iload 4, 2) := by decide +kernel
theorem dX12_rule_41 : decode cX12_rule 41 = .ok (.sipush 4000, 3) := by decide +kernel
theorem dX12_rule_44 : decode cX12_rule 44 = .ok (.if_icmp .ge 13, 3) := by decide +kernel
theorem dX12_rule_47 : decode cX12_rule 47 = .ok (.aload_n 0, 1) := by decide +kernel
theorem dX12_rule_48 : decode cX12_rule 48 = .ok (.getfield 115, 3) := by decide +kernel
theorem dX12_rule_51 : decode cX12_rule 51 = .ok (.iload 4, 2) := by decide +kernel
theorem dX12_rule_53 : decode cX12_rule 53 = .ok (.iaload, 1) := by decide +kernel
theorem dX12_rule_54 : decode cX12_rule 54 = .ok (.goto 4, 3) := by decide +kernel
theorem dX12_rule_57 : decode cX12_rule 57 = .ok (.iconst (-1), 1) := by decide +kernel
theorem dX12_rule_58 : decode cX12_rule 58 = .ok (.ireturn, 1) := by decide +kernel
theorem dX12_longAt_0 : decode cX12_longAt 0 = .ok (.iload_n 0, 1) := by decide +kernel
theorem dX12_longAt_1 : decode cX12_longAt 1 = .ok (.iload_n 1, 1) := by decide +kernel
theorem dX12_longAt_2 : decode cX12_longAt 2 = .ok (.iadd, 1) := by decide +kernel
theorem dX12_longAt_3 : decode cX12_longAt 3 = .ok (.iload_n 0, 1) := by decide +kernel
theorem dX12_longAt_4 : decode cX12_longAt 4 = .ok (.iload_n 1, 1) := by decide +kernel
theorem dX12_longAt_5 : decode cX12_longAt 5 = .ok (.iadd, 1) := by decide +kernel
theorem dX12_longAt_6 : decode cX12_longAt 6 = .ok (.iconst 1, 1) := by decide +kernel
theorem dX12_longAt_7 : decode cX12_longAt 7 = .ok (.iadd, 1) := by decide +kernel
theorem dX12_longAt_8 : decode cX12_longAt 8 = .ok (.imul, 1) := by decide +kernel
theorem dX12_longAt_9 : decode cX12_longAt 9 = .ok (.iconst 2, 1) := by decide +kernel
theorem dX12_longAt_10 : decode cX12_longAt 10 = .ok (.idiv, 1) := by decide +kernel
theorem dX12_longAt_11 : decode cX12_longAt 11 = .ok (.iload_n 1, 1) := by decide +kernel
theorem dX12_longAt_12 : decode cX12_longAt 12 = .ok (.iadd, 1) := by decide +kernel
theorem dX12_longAt_13 : decode cX12_longAt 13 = .ok (.ireturn, 1) := by decide +kernel
theorem dX12_pilesLocal_0 : decode cX12_pilesLocal 0 = .ok (.iconst 0, 1) := by decide +kernel
theorem dX12_pilesLocal_1 : decode cX12_pilesLocal 1 = .ok (.istore_n 2, 1) := by decide +kernel
theorem dX12_pilesLocal_2 : decode cX12_pilesLocal 2 = .ok (.iload_n 2, 1) := by decide +kernel
theorem dX12_pilesLocal_3 : decode cX12_pilesLocal 3 = .ok (.bipush 16, 2) := by decide +kernel
theorem dX12_pilesLocal_5 : decode cX12_pilesLocal 5 = .ok (.if_icmp .gt 123, 3) := by decide +kernel
theorem dX12_pilesLocal_8 : decode cX12_pilesLocal 8 = .ok (.iconst 0, 1) := by decide +kernel
theorem dX12_pilesLocal_9 : decode cX12_pilesLocal 9 = .ok (.istore_n 3, 1) := by decide +kernel
theorem dX12_pilesLocal_10 : decode cX12_pilesLocal 10 = .ok (.iload_n 2, 1) := by decide +kernel
theorem dX12_pilesLocal_11 : decode cX12_pilesLocal 11 = .ok (.iload_n 3, 1) := by decide +kernel
theorem dX12_pilesLocal_12 : decode cX12_pilesLocal 12 = .ok (.iadd, 1) := by decide +kernel
theorem dX12_pilesLocal_13 : decode cX12_pilesLocal 13 = .ok (.bipush 16, 2) := by decide +kernel
theorem dX12_pilesLocal_15 : decode cX12_pilesLocal 15 = .ok (.if_icmp .gt 107, 3) := by decide +kernel
theorem dX12_pilesLocal_18 : decode cX12_pilesLocal 18 = .ok (.aload_n 0, 1) := by decide +kernel
theorem dX12_pilesLocal_19 : decode cX12_pilesLocal 19 = .ok (.invokevirtual 398, 3) := by decide +kernel
theorem dX12_pilesLocal_22 : decode cX12_pilesLocal 22 = .ok (.iconst 0, 1) := by decide +kernel
theorem dX12_pilesLocal_23 : decode cX12_pilesLocal 23 = .ok (.istore 4, 2) := by decide +kernel
theorem dX12_pilesLocal_25 : decode cX12_pilesLocal 25 = .ok (.iload 4, 2) := by decide +kernel
theorem dX12_pilesLocal_27 : decode cX12_pilesLocal 27 = .ok (.iconst 4, 1) := by decide +kernel
theorem dX12_pilesLocal_28 : decode cX12_pilesLocal 28 = .ok (.if_icmp .gt 67, 3) := by decide +kernel
theorem dX12_pilesLocal_31 : decode cX12_pilesLocal 31 = .ok (.iconst 0, 1) := by decide +kernel
theorem dX12_pilesLocal_32 : decode cX12_pilesLocal 32 = .ok (.istore 5, 2) := by decide +kernel
theorem dX12_pilesLocal_34 : decode cX12_pilesLocal 34 = .ok (.iload 4, 2) := by decide +kernel
theorem dX12_pilesLocal_36 : decode cX12_pilesLocal 36 = .ok (.iload 5, 2) := by decide +kernel
theorem dX12_pilesLocal_38 : decode cX12_pilesLocal 38 = .ok (.iadd, 1) := by decide +kernel
theorem dX12_pilesLocal_39 : decode cX12_pilesLocal 39 = .ok (.iconst 4, 1) := by decide +kernel
theorem dX12_pilesLocal_40 : decode cX12_pilesLocal 40 = .ok (.if_icmp .gt 49, 3) := by decide +kernel
theorem dX12_pilesLocal_43 : decode cX12_pilesLocal 43 = .ok (.iload_n 2, 1) := by decide +kernel
theorem dX12_pilesLocal_44 : decode cX12_pilesLocal 44 = .ok (.iload_n 3, 1) := by decide +kernel
theorem dX12_pilesLocal_45 : decode cX12_pilesLocal 45 = .ok (.iadd, 1) := by decide +kernel
theorem dX12_pilesLocal_46 : decode cX12_pilesLocal 46 = .ok (.iload 4, 2) := by decide +kernel
theorem dX12_pilesLocal_48 : decode cX12_pilesLocal 48 = .ok (.iadd, 1) := by decide +kernel
theorem dX12_pilesLocal_49 : decode cX12_pilesLocal 49 = .ok (.iload 5, 2) := by decide +kernel
theorem dX12_pilesLocal_51 : decode cX12_pilesLocal 51 = .ok (.iadd, 1) := by decide +kernel
theorem dX12_pilesLocal_52 : decode cX12_pilesLocal 52 = .ok (.bipush 16, 2) := by decide +kernel
theorem dX12_pilesLocal_54 : decode cX12_pilesLocal 54 = .ok (.if_icmp .gt 29, 3) := by decide +kernel
theorem dX12_pilesLocal_57 : decode cX12_pilesLocal 57 = .ok (.aload_n 0, 1) := by decide +kernel
theorem dX12_pilesLocal_58 : decode cX12_pilesLocal 58 = .ok (.getfield 88, 3) := by decide +kernel
theorem dX12_pilesLocal_61 : decode cX12_pilesLocal 61 = .ok (.iload_n 2, 1) := by decide +kernel
theorem dX12_pilesLocal_62 : decode cX12_pilesLocal 62 = .ok (.iload 4, 2) := by decide +kernel
theorem dX12_pilesLocal_64 : decode cX12_pilesLocal 64 = .ok (.iadd, 1) := by decide +kernel
theorem dX12_pilesLocal_65 : decode cX12_pilesLocal 65 = .ok (.iload_n 3, 1) := by decide +kernel
theorem dX12_pilesLocal_66 : decode cX12_pilesLocal 66 = .ok (.iload 5, 2) := by decide +kernel
theorem dX12_pilesLocal_68 : decode cX12_pilesLocal 68 = .ok (.iadd, 1) := by decide +kernel
theorem dX12_pilesLocal_69 : decode cX12_pilesLocal 69 = .ok (.invokestatic 401, 3) := by decide +kernel
theorem dX12_pilesLocal_72 : decode cX12_pilesLocal 72 = .ok (.aload_n 1, 1) := by decide +kernel
theorem dX12_pilesLocal_73 : decode cX12_pilesLocal 73 = .ok (.bipush 17, 2) := by decide +kernel
theorem dX12_pilesLocal_75 : decode cX12_pilesLocal 75 = .ok (.iload 4, 2) := by decide +kernel
theorem dX12_pilesLocal_77 : decode cX12_pilesLocal 77 = .ok (.imul, 1) := by decide +kernel
theorem dX12_pilesLocal_78 : decode cX12_pilesLocal 78 = .ok (.iload 5, 2) := by decide +kernel
theorem dX12_pilesLocal_80 : decode cX12_pilesLocal 80 = .ok (.iadd, 1) := by decide +kernel
theorem dX12_pilesLocal_81 : decode cX12_pilesLocal 81 = .ok (.iaload, 1) := by decide +kernel
theorem dX12_pilesLocal_82 : decode cX12_pilesLocal 82 = .ok (.iastore, 1) := by decide +kernel
theorem dX12_pilesLocal_83 : decode cX12_pilesLocal 83 = .ok (.iinc 5 1, 3) := by decide +kernel
theorem dX12_pilesLocal_86 : decode cX12_pilesLocal 86 = .ok (.goto (-52), 3) := by decide +kernel
theorem dX12_pilesLocal_89 : decode cX12_pilesLocal 89 = .ok (.iinc 4 1, 3) := by decide +kernel
theorem dX12_pilesLocal_92 : decode cX12_pilesLocal 92 = .ok (.goto (-67), 3) := by decide +kernel
theorem dX12_pilesLocal_95 : decode cX12_pilesLocal 95 = .ok (.aload_n 0, 1) := by decide +kernel
theorem dX12_pilesLocal_96 : decode cX12_pilesLocal 96 = .ok (.dup, 1) := by decide +kernel
theorem dX12_pilesLocal_97 : decode cX12_pilesLocal 97 = .ok (.getfield 91, 3) := by decide +kernel
theorem dX12_pilesLocal_100 : decode cX12_pilesLocal 100 = .ok (.aload_n 0, 1) := by decide +kernel
theorem dX12_pilesLocal_101 : decode cX12_pilesLocal 101 = .ok (.invokevirtual 404, 3) := by decide +kernel
theorem dX12_pilesLocal_104 : decode cX12_pilesLocal 104 = .ok (.ifCond .eq 7, 3) := by decide +kernel
theorem dX12_pilesLocal_107 : decode cX12_pilesLocal 107 = .ok (.iconst 1, 1) := by decide +kernel
theorem dX12_pilesLocal_108 : decode cX12_pilesLocal 108 = .ok (.goto 4, 3) := by decide +kernel
theorem dX12_pilesLocal_111 : decode cX12_pilesLocal 111 = .ok (.iconst 0, 1) := by decide +kernel
theorem dX12_pilesLocal_112 : decode cX12_pilesLocal 112 = .ok (.iadd, 1) := by decide +kernel
theorem dX12_pilesLocal_113 : decode cX12_pilesLocal 113 = .ok (.putfield 91, 3) := by decide +kernel
theorem dX12_pilesLocal_116 : decode cX12_pilesLocal 116 = .ok (.iinc 3 1, 3) := by decide +kernel
theorem dX12_pilesLocal_119 : decode cX12_pilesLocal 119 = .ok (.goto (-109), 3) := by decide +kernel
theorem dX12_pilesLocal_122 : decode cX12_pilesLocal 122 = .ok (.iinc 2 1, 3) := by decide +kernel
theorem dX12_pilesLocal_125 : decode cX12_pilesLocal 125 = .ok (.goto (-123), 3) := by decide +kernel
theorem dX12_pilesLocal_128 : decode cX12_pilesLocal 128 = .ok (.return_, 1) := by decide +kernel
theorem dX12_size_0 : decode cX12_size 0 = .ok (.aload_n 0, 1) := by decide +kernel
theorem dX12_size_1 : decode cX12_size 1 = .ok (.iload_n 1, 1) := by decide +kernel
theorem dX12_size_2 : decode cX12_size 2 = .ok (.iload_n 2, 1) := by decide +kernel
theorem dX12_size_3 : decode cX12_size 3 = .ok (.iload_n 3, 1) := by decide +kernel
theorem dX12_size_4 : decode cX12_size 4 = .ok (.invokevirtual 392, 3) := by decide +kernel
theorem dX12_size_7 : decode cX12_size 7 = .ok (.ifCond .ne 5, 3) := by decide +kernel
theorem dX12_size_10 : decode cX12_size 10 = .ok (.iconst (-1), 1) := by decide +kernel
theorem dX12_size_11 : decode cX12_size 11 = .ok (.ireturn, 1) := by decide +kernel
theorem dX12_size_12 : decode cX12_size 12 = .ok (.aload_n 0, 1) := by decide +kernel
theorem dX12_size_13 : decode cX12_size 13 = .ok (.aload_n 0, 1) := by decide +kernel
theorem dX12_size_14 : decode cX12_size 14 = .ok (.getfield 103, 3) := by decide +kernel
theorem dX12_size_17 : decode cX12_size 17 = .ok (.iload_n 1, 1) := by decide +kernel
theorem dX12_size_18 : decode cX12_size 18 = .ok (.iload_n 3, 1) := by decide +kernel
theorem dX12_size_19 : decode cX12_size 19 = .ok (.invokevirtual 369, 3) := by decide +kernel
theorem dX12_size_22 : decode cX12_size 22 = .ok (.aload_n 0, 1) := by decide +kernel
theorem dX12_size_23 : decode cX12_size 23 = .ok (.aload_n 0, 1) := by decide +kernel
theorem dX12_size_24 : decode cX12_size 24 = .ok (.getfield 106, 3) := by decide +kernel
theorem dX12_size_27 : decode cX12_size 27 = .ok (.iload_n 2, 1) := by decide +kernel
theorem dX12_size_28 : decode cX12_size 28 = .ok (.iload_n 3, 1) := by decide +kernel
theorem dX12_size_29 : decode cX12_size 29 = .ok (.invokevirtual 369, 3) := by decide +kernel
theorem dX12_size_32 : decode cX12_size 32 = .ok (.aload_n 0, 1) := by decide +kernel
theorem dX12_size_33 : decode cX12_size 33 = .ok (.sipush 153, 3) := by decide +kernel
theorem dX12_size_36 : decode cX12_size 36 = .ok (.invokevirtual 407, 3) := by decide +kernel
theorem dX12_size_39 : decode cX12_size 39 = .ok (.aload_n 0, 1) := by decide +kernel
theorem dX12_size_40 : decode cX12_size 40 = .ok (.aload_n 0, 1) := by decide +kernel
theorem dX12_size_41 : decode cX12_size 41 = .ok (.getfield 103, 3) := by decide +kernel
theorem dX12_size_44 : decode cX12_size 44 = .ok (.invokevirtual 410, 3) := by decide +kernel
theorem dX12_size_47 : decode cX12_size 47 = .ok (.aload_n 0, 1) := by decide +kernel
theorem dX12_size_48 : decode cX12_size 48 = .ok (.aload_n 0, 1) := by decide +kernel
theorem dX12_size_49 : decode cX12_size 49 = .ok (.getfield 106, 3) := by decide +kernel
theorem dX12_size_52 : decode cX12_size 52 = .ok (.invokevirtual 410, 3) := by decide +kernel
theorem dX12_size_55 : decode cX12_size 55 = .ok (.sipush 153, 3) := by decide +kernel
theorem dX12_size_58 : decode cX12_size 58 = .ok (.aload_n 0, 1) := by decide +kernel
theorem dX12_size_59 : decode cX12_size 59 = .ok (.getfield 82, 3) := by decide +kernel
theorem dX12_size_62 : decode cX12_size 62 = .ok (.isub, 1) := by decide +kernel
theorem dX12_size_63 : decode cX12_size 63 = .ok (.ireturn, 1) := by decide +kernel
theorem dX12_pilesForm_0 : decode cX12_pilesForm 0 = .ok (.aload_n 0, 1) := by decide +kernel
theorem dX12_pilesForm_1 : decode cX12_pilesForm 1 = .ok (.iload_n 1, 1) := by decide +kernel
theorem dX12_pilesForm_2 : decode cX12_pilesForm 2 = .ok (.invokevirtual 254, 3) := by decide +kernel
theorem dX12_pilesForm_5 : decode cX12_pilesForm 5 = .ok (.istore_n 3, 1) := by decide +kernel
theorem dX12_pilesForm_6 : decode cX12_pilesForm 6 = .ok (.iconst 0, 1) := by decide +kernel
theorem dX12_pilesForm_7 : decode cX12_pilesForm 7 = .ok (.istore 4, 2) := by decide +kernel
theorem dX12_pilesForm_9 : decode cX12_pilesForm 9 = .ok (.iload 4, 2) := by decide +kernel
theorem dX12_pilesForm_11 : decode cX12_pilesForm 11 = .ok (.iload_n 2, 1) := by decide +kernel
theorem dX12_pilesForm_12 : decode cX12_pilesForm 12 = .ok (.iload_n 3, 1) := by decide +kernel
theorem dX12_pilesForm_13 : decode cX12_pilesForm 13 = .ok (.isub, 1) := by decide +kernel
theorem dX12_pilesForm_14 : decode cX12_pilesForm 14 = .ok (.if_icmp .gt 114, 3) := by decide +kernel
theorem dX12_pilesForm_17 : decode cX12_pilesForm 17 = .ok (.iconst 0, 1) := by decide +kernel
theorem dX12_pilesForm_18 : decode cX12_pilesForm 18 = .ok (.istore 5, 2) := by decide +kernel
theorem dX12_pilesForm_20 : decode cX12_pilesForm 20 = .ok (.iload 4, 2) := by decide +kernel
theorem dX12_pilesForm_22 : decode cX12_pilesForm 22 = .ok (.iload 5, 2) := by decide +kernel
theorem dX12_pilesForm_24 : decode cX12_pilesForm 24 = .ok (.iadd, 1) := by decide +kernel
theorem dX12_pilesForm_25 : decode cX12_pilesForm 25 = .ok (.iload_n 2, 1) := by decide +kernel
theorem dX12_pilesForm_26 : decode cX12_pilesForm 26 = .ok (.iload_n 3, 1) := by decide +kernel
theorem dX12_pilesForm_27 : decode cX12_pilesForm 27 = .ok (.isub, 1) := by decide +kernel
theorem dX12_pilesForm_28 : decode cX12_pilesForm 28 = .ok (.if_icmp .gt 94, 3) := by decide +kernel
theorem dX12_pilesForm_31 : decode cX12_pilesForm 31 = .ok (.aload_n 0, 1) := by decide +kernel
theorem dX12_pilesForm_32 : decode cX12_pilesForm 32 = .ok (.invokevirtual 398, 3) := by decide +kernel
theorem dX12_pilesForm_35 : decode cX12_pilesForm 35 = .ok (.iconst 0, 1) := by decide +kernel
theorem dX12_pilesForm_36 : decode cX12_pilesForm 36 = .ok (.istore 6, 2) := by decide +kernel
theorem dX12_pilesForm_38 : decode cX12_pilesForm 38 = .ok (.iload 6, 2) := by decide +kernel
theorem dX12_pilesForm_40 : decode cX12_pilesForm 40 = .ok (.iload_n 3, 1) := by decide +kernel
theorem dX12_pilesForm_41 : decode cX12_pilesForm 41 = .ok (.if_icmp .gt 54, 3) := by decide +kernel
theorem dX12_pilesForm_44 : decode cX12_pilesForm 44 = .ok (.iconst 0, 1) := by decide +kernel
theorem dX12_pilesForm_45 : decode cX12_pilesForm 45 = .ok (.istore 7, 2) := by decide +kernel
theorem dX12_pilesForm_47 : decode cX12_pilesForm 47 = .ok (.iload 6, 2) := by decide +kernel
theorem dX12_pilesForm_49 : decode cX12_pilesForm 49 = .ok (.iload 7, 2) := by decide +kernel
theorem dX12_pilesForm_51 : decode cX12_pilesForm 51 = .ok (.iadd, 1) := by decide +kernel
theorem dX12_pilesForm_52 : decode cX12_pilesForm 52 = .ok (.iload_n 3, 1) := by decide +kernel
theorem dX12_pilesForm_53 : decode cX12_pilesForm 53 = .ok (.if_icmp .gt 36, 3) := by decide +kernel
theorem dX12_pilesForm_56 : decode cX12_pilesForm 56 = .ok (.aload_n 0, 1) := by decide +kernel
theorem dX12_pilesForm_57 : decode cX12_pilesForm 57 = .ok (.getfield 88, 3) := by decide +kernel
theorem dX12_pilesForm_60 : decode cX12_pilesForm 60 = .ok (.iload 4, 2) := by decide +kernel
theorem dX12_pilesForm_62 : decode cX12_pilesForm 62 = .ok (.iload 6, 2) := by decide +kernel
theorem dX12_pilesForm_64 : decode cX12_pilesForm 64 = .ok (.iadd, 1) := by decide +kernel
theorem dX12_pilesForm_65 : decode cX12_pilesForm 65 = .ok (.iload 5, 2) := by decide +kernel
theorem dX12_pilesForm_67 : decode cX12_pilesForm 67 = .ok (.iload 7, 2) := by decide +kernel
theorem dX12_pilesForm_69 : decode cX12_pilesForm 69 = .ok (.iadd, 1) := by decide +kernel
theorem dX12_pilesForm_70 : decode cX12_pilesForm 70 = .ok (.invokestatic 401, 3) := by decide +kernel
theorem dX12_pilesForm_73 : decode cX12_pilesForm 73 = .ok (.aload_n 0, 1) := by decide +kernel
theorem dX12_pilesForm_74 : decode cX12_pilesForm 74 = .ok (.iload_n 1, 1) := by decide +kernel
theorem dX12_pilesForm_75 : decode cX12_pilesForm 75 = .ok (.iload 6, 2) := by decide +kernel
theorem dX12_pilesForm_77 : decode cX12_pilesForm 77 = .ok (.iload 7, 2) := by decide +kernel
theorem dX12_pilesForm_79 : decode cX12_pilesForm 79 = .ok (.invokevirtual 184, 3) := by decide +kernel
theorem dX12_pilesForm_82 : decode cX12_pilesForm 82 = .ok (.iastore, 1) := by decide +kernel
theorem dX12_pilesForm_83 : decode cX12_pilesForm 83 = .ok (.iinc 7 1, 3) := by decide +kernel
theorem dX12_pilesForm_86 : decode cX12_pilesForm 86 = .ok (.goto (-39), 3) := by decide +kernel
theorem dX12_pilesForm_89 : decode cX12_pilesForm 89 = .ok (.iinc 6 1, 3) := by decide +kernel
theorem dX12_pilesForm_92 : decode cX12_pilesForm 92 = .ok (.goto (-54), 3) := by decide +kernel
theorem dX12_pilesForm_95 : decode cX12_pilesForm 95 = .ok (.aload_n 0, 1) := by decide +kernel
theorem dX12_pilesForm_96 : decode cX12_pilesForm 96 = .ok (.dup, 1) := by decide +kernel
theorem dX12_pilesForm_97 : decode cX12_pilesForm 97 = .ok (.getfield 91, 3) := by decide +kernel
theorem dX12_pilesForm_100 : decode cX12_pilesForm 100 = .ok (.aload_n 0, 1) := by decide +kernel
theorem dX12_pilesForm_101 : decode cX12_pilesForm 101 = .ok (.invokevirtual 404, 3) := by decide +kernel
theorem dX12_pilesForm_104 : decode cX12_pilesForm 104 = .ok (.ifCond .eq 7, 3) := by decide +kernel
theorem dX12_pilesForm_107 : decode cX12_pilesForm 107 = .ok (.iconst 1, 1) := by decide +kernel
theorem dX12_pilesForm_108 : decode cX12_pilesForm 108 = .ok (.goto 4, 3) := by decide +kernel
theorem dX12_pilesForm_111 : decode cX12_pilesForm 111 = .ok (.iconst 0, 1) := by decide +kernel
theorem dX12_pilesForm_112 : decode cX12_pilesForm 112 = .ok (.iadd, 1) := by decide +kernel
theorem dX12_pilesForm_113 : decode cX12_pilesForm 113 = .ok (.putfield 91, 3) := by decide +kernel
theorem dX12_pilesForm_116 : decode cX12_pilesForm 116 = .ok (.iinc 5 1, 3) := by decide +kernel
theorem dX12_pilesForm_119 : decode cX12_pilesForm 119 = .ok (.goto (-99), 3) := by decide +kernel
theorem dX12_pilesForm_122 : decode cX12_pilesForm 122 = .ok (.iinc 4 1, 3) := by decide +kernel
theorem dX12_pilesForm_125 : decode cX12_pilesForm 125 = .ok (.goto (-116), 3) := by decide +kernel
theorem dX12_pilesForm_128 : decode cX12_pilesForm 128 = .ok (.return_, 1) := by decide +kernel
theorem dX12_laysForms_0 : decode cX12_laysForms 0 = .ok (.aload_n 0, 1) := by decide +kernel
theorem dX12_laysForms_1 : decode cX12_laysForms 1 = .ok (.iload_n 3, 1) := by decide +kernel
theorem dX12_laysForms_2 : decode cX12_laysForms 2 = .ok (.invokestatic 349, 3) := by decide +kernel
theorem dX12_laysForms_5 : decode cX12_laysForms 5 = .ok (.invokevirtual 407, 3) := by decide +kernel
theorem dX12_laysForms_8 : decode cX12_laysForms 8 = .ok (.aload_n 0, 1) := by decide +kernel
theorem dX12_laysForms_9 : decode cX12_laysForms 9 = .ok (.iload_n 1, 1) := by decide +kernel
theorem dX12_laysForms_10 : decode cX12_laysForms 10 = .ok (.iload_n 3, 1) := by decide +kernel
theorem dX12_laysForms_11 : decode cX12_laysForms 11 = .ok (.invokevirtual 414, 3) := by decide +kernel
theorem dX12_laysForms_14 : decode cX12_laysForms 14 = .ok (.aload_n 0, 1) := by decide +kernel
theorem dX12_laysForms_15 : decode cX12_laysForms 15 = .ok (.iload_n 2, 1) := by decide +kernel
theorem dX12_laysForms_16 : decode cX12_laysForms 16 = .ok (.iload_n 3, 1) := by decide +kernel
theorem dX12_laysForms_17 : decode cX12_laysForms 17 = .ok (.invokevirtual 414, 3) := by decide +kernel
theorem dX12_laysForms_20 : decode cX12_laysForms 20 = .ok (.return_, 1) := by decide +kernel
theorem dX12_parts_0 : decode cX12_parts 0 = .ok (.aload_n 0, 1) := by decide +kernel
theorem dX12_parts_1 : decode cX12_parts 1 = .ok (.iload_n 1, 1) := by decide +kernel
theorem dX12_parts_2 : decode cX12_parts 2 = .ok (.iload_n 2, 1) := by decide +kernel
theorem dX12_parts_3 : decode cX12_parts 3 = .ok (.invokevirtual 363, 3) := by decide +kernel
theorem dX12_parts_6 : decode cX12_parts 6 = .ok (.ifCond .eq 13, 3) := by decide +kernel
theorem dX12_parts_9 : decode cX12_parts 9 = .ok (.iload_n 3, 1) := by decide +kernel
theorem dX12_parts_10 : decode cX12_parts 10 = .ok (.iconst 0, 1) := by decide +kernel
theorem dX12_parts_11 : decode cX12_parts 11 = .ok (.bipush 24, 2) := by decide +kernel
theorem dX12_parts_13 : decode cX12_parts 13 = .ok (.invokestatic 271, 3) := by decide +kernel
theorem dX12_parts_16 : decode cX12_parts 16 = .ok (.ifCond .ne 5, 3) := by decide +kernel
theorem dX12_parts_19 : decode cX12_parts 19 = .ok (.iconst (-1), 1) := by decide +kernel
theorem dX12_parts_20 : decode cX12_parts 20 = .ok (.ireturn, 1) := by decide +kernel
theorem dX12_parts_21 : decode cX12_parts 21 = .ok (.aload_n 0, 1) := by decide +kernel
theorem dX12_parts_22 : decode cX12_parts 22 = .ok (.iload_n 1, 1) := by decide +kernel
theorem dX12_parts_23 : decode cX12_parts 23 = .ok (.iload_n 2, 1) := by decide +kernel
theorem dX12_parts_24 : decode cX12_parts 24 = .ok (.iload_n 3, 1) := by decide +kernel
theorem dX12_parts_25 : decode cX12_parts 25 = .ok (.invokevirtual 417, 3) := by decide +kernel
theorem dX12_parts_28 : decode cX12_parts 28 = .ok (.iload_n 3, 1) := by decide +kernel
theorem dX12_parts_29 : decode cX12_parts 29 = .ok (.invokestatic 349, 3) := by decide +kernel
theorem dX12_parts_32 : decode cX12_parts 32 = .ok (.aload_n 0, 1) := by decide +kernel
theorem dX12_parts_33 : decode cX12_parts 33 = .ok (.getfield 82, 3) := by decide +kernel
theorem dX12_parts_36 : decode cX12_parts 36 = .ok (.isub, 1) := by decide +kernel
theorem dX12_parts_37 : decode cX12_parts 37 = .ok (.ireturn, 1) := by decide +kernel
theorem dX12_near_0 : decode cX12_near 0 = .ok (.aload_n 0, 1) := by decide +kernel
theorem dX12_near_1 : decode cX12_near 1 = .ok (.iload_n 1, 1) := by decide +kernel
theorem dX12_near_2 : decode cX12_near 2 = .ok (.iload_n 2, 1) := by decide +kernel
theorem dX12_near_3 : decode cX12_near 3 = .ok (.bipush 24, 2) := by decide +kernel
theorem dX12_near_5 : decode cX12_near 5 = .ok (.invokevirtual 417, 3) := by decide +kernel
theorem dX12_near_8 : decode cX12_near 8 = .ok (.aload_n 0, 1) := by decide +kernel
theorem dX12_near_9 : decode cX12_near 9 = .ok (.getfield 82, 3) := by decide +kernel
theorem dX12_near_12 : decode cX12_near 12 = .ok (.istore_n 3, 1) := by decide +kernel
theorem dX12_near_13 : decode cX12_near 13 = .ok (.iconst 0, 1) := by decide +kernel
theorem dX12_near_14 : decode cX12_near 14 = .ok (.istore 4, 2) := by decide +kernel
theorem dX12_near_16 : decode cX12_near 16 = .ok (.iload 4, 2) := by decide +kernel
theorem dX12_near_18 : decode cX12_near 18 = .ok (.bipush 8, 2) := by decide +kernel
theorem dX12_near_20 : decode cX12_near 20 = .ok (.if_icmp .gt 66, 3) := by decide +kernel
theorem dX12_near_23 : decode cX12_near 23 = .ok (.iconst 0, 1) := by decide +kernel
theorem dX12_near_24 : decode cX12_near 24 = .ok (.istore 5, 2) := by decide +kernel
theorem dX12_near_26 : decode cX12_near 26 = .ok (.iload 4, 2) := by decide +kernel
theorem dX12_near_28 : decode cX12_near 28 = .ok (.iload 5, 2) := by decide +kernel
theorem dX12_near_30 : decode cX12_near 30 = .ok (.iadd, 1) := by decide +kernel
theorem dX12_near_31 : decode cX12_near 31 = .ok (.bipush 8, 2) := by decide +kernel
theorem dX12_near_33 : decode cX12_near 33 = .ok (.if_icmp .gt 47, 3) := by decide +kernel
theorem dX12_near_36 : decode cX12_near 36 = .ok (.aload_n 0, 1) := by decide +kernel
theorem dX12_near_37 : decode cX12_near 37 = .ok (.invokevirtual 398, 3) := by decide +kernel
theorem dX12_near_40 : decode cX12_near 40 = .ok (.aload_n 0, 1) := by decide +kernel
theorem dX12_near_41 : decode cX12_near 41 = .ok (.getfield 88, 3) := by decide +kernel
theorem dX12_near_44 : decode cX12_near 44 = .ok (.iload 4, 2) := by decide +kernel
theorem dX12_near_46 : decode cX12_near 46 = .ok (.iload 5, 2) := by decide +kernel
theorem dX12_near_48 : decode cX12_near 48 = .ok (.invokestatic 401, 3) := by decide +kernel
theorem dX12_near_51 : decode cX12_near 51 = .ok (.iconst 1, 1) := by decide +kernel
theorem dX12_near_52 : decode cX12_near 52 = .ok (.iastore, 1) := by decide +kernel
theorem dX12_near_53 : decode cX12_near 53 = .ok (.aload_n 0, 1) := by decide +kernel
theorem dX12_near_54 : decode cX12_near 54 = .ok (.dup, 1) := by decide +kernel
theorem dX12_near_55 : decode cX12_near 55 = .ok (.getfield 91, 3) := by decide +kernel
theorem dX12_near_58 : decode cX12_near 58 = .ok (.aload_n 0, 1) := by decide +kernel
theorem dX12_near_59 : decode cX12_near 59 = .ok (.invokevirtual 404, 3) := by decide +kernel
theorem dX12_near_62 : decode cX12_near 62 = .ok (.ifCond .eq 7, 3) := by decide +kernel
theorem dX12_near_65 : decode cX12_near 65 = .ok (.iconst 1, 1) := by decide +kernel
theorem dX12_near_66 : decode cX12_near 66 = .ok (.goto 4, 3) := by decide +kernel
theorem dX12_near_69 : decode cX12_near 69 = .ok (.iconst 0, 1) := by decide +kernel
theorem dX12_near_70 : decode cX12_near 70 = .ok (.iadd, 1) := by decide +kernel
theorem dX12_near_71 : decode cX12_near 71 = .ok (.putfield 91, 3) := by decide +kernel
theorem dX12_near_74 : decode cX12_near 74 = .ok (.iinc 5 1, 3) := by decide +kernel
theorem dX12_near_77 : decode cX12_near 77 = .ok (.goto (-51), 3) := by decide +kernel
theorem dX12_near_80 : decode cX12_near 80 = .ok (.iinc 4 1, 3) := by decide +kernel
theorem dX12_near_83 : decode cX12_near 83 = .ok (.goto (-67), 3) := by decide +kernel
theorem dX12_near_86 : decode cX12_near 86 = .ok (.aload_n 0, 1) := by decide +kernel
theorem dX12_near_87 : decode cX12_near 87 = .ok (.getfield 82, 3) := by decide +kernel
theorem dX12_near_90 : decode cX12_near 90 = .ok (.iload_n 3, 1) := by decide +kernel
theorem dX12_near_91 : decode cX12_near 91 = .ok (.isub, 1) := by decide +kernel
theorem dX12_near_92 : decode cX12_near 92 = .ok (.ireturn, 1) := by decide +kernel
theorem dX12_areOn_0 : decode cX12_areOn 0 = .ok (.aload_n 0, 1) := by decide +kernel
theorem dX12_areOn_1 : decode cX12_areOn 1 = .ok (.iload_n 1, 1) := by decide +kernel
theorem dX12_areOn_2 : decode cX12_areOn 2 = .ok (.iload_n 3, 1) := by decide +kernel
theorem dX12_areOn_3 : decode cX12_areOn 3 = .ok (.invokevirtual 299, 3) := by decide +kernel
theorem dX12_areOn_6 : decode cX12_areOn 6 = .ok (.ifCond .ne 16, 3) := by decide +kernel
theorem dX12_areOn_9 : decode cX12_areOn 9 = .ok (.aload_n 0, 1) := by decide +kernel
theorem dX12_areOn_10 : decode cX12_areOn 10 = .ok (.iload_n 2, 1) := by decide +kernel
theorem dX12_areOn_11 : decode cX12_areOn 11 = .ok (.iload_n 3, 1) := by decide +kernel
theorem dX12_areOn_12 : decode cX12_areOn 12 = .ok (.invokevirtual 299, 3) := by decide +kernel
theorem dX12_areOn_15 : decode cX12_areOn 15 = .ok (.ifCond .ne 7, 3) := by decide +kernel
theorem dX12_areOn_18 : decode cX12_areOn 18 = .ok (.iconst 1, 1) := by decide +kernel
theorem dX12_areOn_19 : decode cX12_areOn 19 = .ok (.goto 4, 3) := by decide +kernel
theorem dX12_areOn_22 : decode cX12_areOn 22 = .ok (.iconst 0, 1) := by decide +kernel
theorem dX12_areOn_23 : decode cX12_areOn 23 = .ok (.ireturn, 1) := by decide +kernel
theorem dX12_timesAmong_0 : decode cX12_timesAmong 0 = .ok (.iconst 0, 1) := by decide +kernel
theorem dX12_timesAmong_1 : decode cX12_timesAmong 1 = .ok (.istore 5, 2) := by decide +kernel
theorem dX12_timesAmong_3 : decode cX12_timesAmong 3 = .ok (.iload_n 3, 1) := by decide +kernel
theorem dX12_timesAmong_4 : decode cX12_timesAmong 4 = .ok (.istore 6, 2) := by decide +kernel
theorem dX12_timesAmong_6 : decode cX12_timesAmong 6 = .ok (.iload 6, 2) := by decide +kernel
theorem dX12_timesAmong_8 : decode cX12_timesAmong 8 = .ok (.iload 4, 2) := by decide +kernel
theorem dX12_timesAmong_10 : decode cX12_timesAmong 10 = .ok (.if_icmp .ge 50, 3) := by decide +kernel
theorem dX12_timesAmong_13 : decode cX12_timesAmong 13 = .ok (.aload_n 0, 1) := by decide +kernel
theorem dX12_timesAmong_14 : decode cX12_timesAmong 14 = .ok (.iload_n 1, 1) := by decide +kernel
theorem dX12_timesAmong_15 : decode cX12_timesAmong 15 = .ok (.iload_n 2, 1) := by decide +kernel
theorem dX12_timesAmong_16 : decode cX12_timesAmong 16 = .ok (.iload 6, 2) := by decide +kernel
theorem dX12_timesAmong_18 : decode cX12_timesAmong 18 = .ok (.invokevirtual 420, 3) := by decide +kernel
theorem dX12_timesAmong_21 : decode cX12_timesAmong 21 = .ok (.ifCond .ne 6, 3) := by decide +kernel
theorem dX12_timesAmong_24 : decode cX12_timesAmong 24 = .ok (.goto 30, 3) := by decide +kernel
theorem dX12_timesAmong_27 : decode cX12_timesAmong 27 = .ok (.aload_n 0, 1) := by decide +kernel
theorem dX12_timesAmong_28 : decode cX12_timesAmong 28 = .ok (.iload_n 1, 1) := by decide +kernel
theorem dX12_timesAmong_29 : decode cX12_timesAmong 29 = .ok (.iload_n 2, 1) := by decide +kernel
theorem dX12_timesAmong_30 : decode cX12_timesAmong 30 = .ok (.iload 6, 2) := by decide +kernel
theorem dX12_timesAmong_32 : decode cX12_timesAmong 32 = .ok (.invokevirtual 395, 3) := by decide +kernel
theorem dX12_timesAmong_35 : decode cX12_timesAmong 35 = .ok (.istore 7, 2) := by decide +kernel
theorem dX12_timesAmong_37 : decode cX12_timesAmong 37 = .ok (.iload 7, 2) := by decide +kernel
theorem dX12_timesAmong_39 : decode cX12_timesAmong 39 = .ok (.bipush (-2), 2) := by decide +kernel
theorem dX12_timesAmong_41 : decode cX12_timesAmong 41 = .ok (.if_icmp .ne 6, 3) := by decide +kernel
theorem dX12_timesAmong_44 : decode cX12_timesAmong 44 = .ok (.bipush (-2), 2) := by decide +kernel
theorem dX12_timesAmong_46 : decode cX12_timesAmong 46 = .ok (.ireturn, 1) := by decide +kernel
theorem dX12_timesAmong_47 : decode cX12_timesAmong 47 = .ok (.iload 5, 2) := by decide +kernel
theorem dX12_timesAmong_49 : decode cX12_timesAmong 49 = .ok (.iload 7, 2) := by decide +kernel
theorem dX12_timesAmong_51 : decode cX12_timesAmong 51 = .ok (.iadd, 1) := by decide +kernel
theorem dX12_timesAmong_52 : decode cX12_timesAmong 52 = .ok (.istore 5, 2) := by decide +kernel
theorem dX12_timesAmong_54 : decode cX12_timesAmong 54 = .ok (.iinc 6 1, 3) := by decide +kernel
theorem dX12_timesAmong_57 : decode cX12_timesAmong 57 = .ok (.goto (-51), 3) := by decide +kernel
theorem dX12_timesAmong_60 : decode cX12_timesAmong 60 = .ok (.iload 5, 2) := by decide +kernel
theorem dX12_timesAmong_62 : decode cX12_timesAmong 62 = .ok (.ireturn, 1) := by decide +kernel
theorem dX12_meet_0 : decode cX12_meet 0 = .ok (.aload_n 0, 1) := by decide +kernel
theorem dX12_meet_1 : decode cX12_meet 1 = .ok (.iload_n 1, 1) := by decide +kernel
theorem dX12_meet_2 : decode cX12_meet 2 = .ok (.iload_n 2, 1) := by decide +kernel
theorem dX12_meet_3 : decode cX12_meet 3 = .ok (.invokevirtual 363, 3) := by decide +kernel
theorem dX12_meet_6 : decode cX12_meet 6 = .ok (.ifCond .eq 18, 3) := by decide +kernel
theorem dX12_meet_9 : decode cX12_meet 9 = .ok (.iload_n 3, 1) := by decide +kernel
theorem dX12_meet_10 : decode cX12_meet 10 = .ok (.iconst (-1), 1) := by decide +kernel
theorem dX12_meet_11 : decode cX12_meet 11 = .ok (.if_icmp .lt 13, 3) := by decide +kernel
theorem dX12_meet_14 : decode cX12_meet 14 = .ok (.iload 4, 2) := by decide +kernel
theorem dX12_meet_16 : decode cX12_meet 16 = .ok (.iconst 0, 1) := by decide +kernel
theorem dX12_meet_17 : decode cX12_meet 17 = .ok (.iconst 1, 1) := by decide +kernel
theorem dX12_meet_18 : decode cX12_meet 18 = .ok (.invokestatic 271, 3) := by decide +kernel
theorem dX12_meet_21 : decode cX12_meet 21 = .ok (.ifCond .ne 5, 3) := by decide +kernel
theorem dX12_meet_24 : decode cX12_meet 24 = .ok (.iconst (-1), 1) := by decide +kernel
theorem dX12_meet_25 : decode cX12_meet 25 = .ok (.ireturn, 1) := by decide +kernel
theorem dX12_meet_26 : decode cX12_meet 26 = .ok (.iload_n 3, 1) := by decide +kernel
theorem dX12_meet_27 : decode cX12_meet 27 = .ok (.iconst (-1), 1) := by decide +kernel
theorem dX12_meet_28 : decode cX12_meet 28 = .ok (.if_icmp .ne 21, 3) := by decide +kernel
theorem dX12_meet_31 : decode cX12_meet 31 = .ok (.iload 4, 2) := by decide +kernel
theorem dX12_meet_33 : decode cX12_meet 33 = .ok (.iconst 1, 1) := by decide +kernel
theorem dX12_meet_34 : decode cX12_meet 34 = .ok (.if_icmp .ne 15, 3) := by decide +kernel
theorem dX12_meet_37 : decode cX12_meet 37 = .ok (.aload_n 0, 1) := by decide +kernel
theorem dX12_meet_38 : decode cX12_meet 38 = .ok (.iload_n 1, 1) := by decide +kernel
theorem dX12_meet_39 : decode cX12_meet 39 = .ok (.iload_n 2, 1) := by decide +kernel
theorem dX12_meet_40 : decode cX12_meet 40 = .ok (.iconst 0, 1) := by decide +kernel
theorem dX12_meet_41 : decode cX12_meet 41 = .ok (.aload_n 0, 1) := by decide +kernel
theorem dX12_meet_42 : decode cX12_meet 42 = .ok (.invokevirtual 274, 3) := by decide +kernel
theorem dX12_meet_45 : decode cX12_meet 45 = .ok (.invokevirtual 423, 3) := by decide +kernel
theorem dX12_meet_48 : decode cX12_meet 48 = .ok (.ireturn, 1) := by decide +kernel
theorem dX12_meet_49 : decode cX12_meet 49 = .ok (.iconst 0, 1) := by decide +kernel
theorem dX12_meet_50 : decode cX12_meet 50 = .ok (.istore 5, 2) := by decide +kernel
theorem dX12_meet_52 : decode cX12_meet 52 = .ok (.iconst 0, 1) := by decide +kernel
theorem dX12_meet_53 : decode cX12_meet 53 = .ok (.istore 6, 2) := by decide +kernel
theorem dX12_meet_55 : decode cX12_meet 55 = .ok (.iload 6, 2) := by decide +kernel
theorem dX12_meet_57 : decode cX12_meet 57 = .ok (.aload_n 0, 1) := by decide +kernel
theorem dX12_meet_58 : decode cX12_meet 58 = .ok (.invokevirtual 274, 3) := by decide +kernel
theorem dX12_meet_61 : decode cX12_meet 61 = .ok (.if_icmp .ge 51, 3) := by decide +kernel
theorem dX12_meet_64 : decode cX12_meet 64 = .ok (.aload_n 0, 1) := by decide +kernel
theorem dX12_meet_65 : decode cX12_meet 65 = .ok (.iload_n 1, 1) := by decide +kernel
theorem dX12_meet_66 : decode cX12_meet 66 = .ok (.iload_n 2, 1) := by decide +kernel
theorem dX12_meet_67 : decode cX12_meet 67 = .ok (.iload 6, 2) := by decide +kernel
theorem dX12_meet_69 : decode cX12_meet 69 = .ok (.invokevirtual 420, 3) := by decide +kernel
theorem dX12_meet_72 : decode cX12_meet 72 = .ok (.ifCond .ne 6, 3) := by decide +kernel
theorem dX12_meet_75 : decode cX12_meet 75 = .ok (.goto 31, 3) := by decide +kernel
theorem dX12_meet_78 : decode cX12_meet 78 = .ok (.iload 5, 2) := by decide +kernel
theorem dX12_meet_80 : decode cX12_meet 80 = .ok (.iload_n 3, 1) := by decide +kernel
theorem dX12_meet_81 : decode cX12_meet 81 = .ok (.if_icmp .ne 22, 3) := by decide +kernel
theorem dX12_meet_84 : decode cX12_meet 84 = .ok (.iload 4, 2) := by decide +kernel
theorem dX12_meet_86 : decode cX12_meet 86 = .ok (.ifCond .ne 8, 3) := by decide +kernel
theorem dX12_meet_89 : decode cX12_meet 89 = .ok (.iload 6, 2) := by decide +kernel
theorem dX12_meet_91 : decode cX12_meet 91 = .ok (.goto 11, 3) := by decide +kernel
theorem dX12_meet_94 : decode cX12_meet 94 = .ok (.aload_n 0, 1) := by decide +kernel
theorem dX12_meet_95 : decode cX12_meet 95 = .ok (.iload_n 1, 1) := by decide +kernel
theorem dX12_meet_96 : decode cX12_meet 96 = .ok (.iload_n 2, 1) := by decide +kernel
theorem dX12_meet_97 : decode cX12_meet 97 = .ok (.iload 6, 2) := by decide +kernel
theorem dX12_meet_99 : decode cX12_meet 99 = .ok (.invokevirtual 395, 3) := by decide +kernel
theorem dX12_meet_102 : decode cX12_meet 102 = .ok (.ireturn, 1) := by decide +kernel
theorem dX12_meet_103 : decode cX12_meet 103 = .ok (.iinc 5 1, 3) := by decide +kernel
theorem dX12_meet_106 : decode cX12_meet 106 = .ok (.iinc 6 1, 3) := by decide +kernel
theorem dX12_meet_109 : decode cX12_meet 109 = .ok (.goto (-54), 3) := by decide +kernel
theorem dX12_meet_112 : decode cX12_meet 112 = .ok (.iload_n 3, 1) := by decide +kernel
theorem dX12_meet_113 : decode cX12_meet 113 = .ok (.iconst (-1), 1) := by decide +kernel
theorem dX12_meet_114 : decode cX12_meet 114 = .ok (.if_icmp .ne 8, 3) := by decide +kernel
theorem dX12_meet_117 : decode cX12_meet 117 = .ok (.iload 5, 2) := by decide +kernel
theorem dX12_meet_119 : decode cX12_meet 119 = .ok (.goto 4, 3) := by decide +kernel
theorem dX12_meet_122 : decode cX12_meet 122 = .ok (.iconst (-1), 1) := by decide +kernel
theorem dX12_meet_123 : decode cX12_meet 123 = .ok (.ireturn, 1) := by decide +kernel
theorem dX12_total_0 : decode cX12_total 0 = .ok (.aload_n 0, 1) := by decide +kernel
theorem dX12_total_1 : decode cX12_total 1 = .ok (.iload_n 1, 1) := by decide +kernel
theorem dX12_total_2 : decode cX12_total 2 = .ok (.iload_n 2, 1) := by decide +kernel
theorem dX12_total_3 : decode cX12_total 3 = .ok (.invokevirtual 363, 3) := by decide +kernel
theorem dX12_total_6 : decode cX12_total 6 = .ok (.ifCond .eq 12, 3) := by decide +kernel
theorem dX12_total_9 : decode cX12_total 9 = .ok (.iload_n 3, 1) := by decide +kernel
theorem dX12_total_10 : decode cX12_total 10 = .ok (.iconst 0, 1) := by decide +kernel
theorem dX12_total_11 : decode cX12_total 11 = .ok (.iconst 4, 1) := by decide +kernel
theorem dX12_total_12 : decode cX12_total 12 = .ok (.invokestatic 271, 3) := by decide +kernel
theorem dX12_total_15 : decode cX12_total 15 = .ok (.ifCond .ne 5, 3) := by decide +kernel
theorem dX12_total_18 : decode cX12_total 18 = .ok (.iconst (-1), 1) := by decide +kernel
theorem dX12_total_19 : decode cX12_total 19 = .ok (.ireturn, 1) := by decide +kernel
theorem dX12_total_20 : decode cX12_total 20 = .ok (.aload_n 0, 1) := by decide +kernel
theorem dX12_total_21 : decode cX12_total 21 = .ok (.iload_n 1, 1) := by decide +kernel
theorem dX12_total_22 : decode cX12_total 22 = .ok (.iload_n 2, 1) := by decide +kernel
theorem dX12_total_23 : decode cX12_total 23 = .ok (.invokevirtual 366, 3) := by decide +kernel
theorem dX12_total_26 : decode cX12_total 26 = .ok (.aload_n 0, 1) := by decide +kernel
theorem dX12_total_27 : decode cX12_total 27 = .ok (.sipush 143, 3) := by decide +kernel
theorem dX12_total_30 : decode cX12_total 30 = .ok (.invokevirtual 254, 3) := by decide +kernel
theorem dX12_total_33 : decode cX12_total 33 = .ok (.ifCond .le 5, 3) := by decide +kernel
theorem dX12_total_36 : decode cX12_total 36 = .ok (.iconst (-1), 1) := by decide +kernel
theorem dX12_total_37 : decode cX12_total 37 = .ok (.ireturn, 1) := by decide +kernel
theorem dX12_total_38 : decode cX12_total 38 = .ok (.aload_n 0, 1) := by decide +kernel
theorem dX12_total_39 : decode cX12_total 39 = .ok (.iload_n 1, 1) := by decide +kernel
theorem dX12_total_40 : decode cX12_total 40 = .ok (.invokevirtual 254, 3) := by decide +kernel
theorem dX12_total_43 : decode cX12_total 43 = .ok (.aload_n 0, 1) := by decide +kernel
theorem dX12_total_44 : decode cX12_total 44 = .ok (.iload_n 2, 1) := by decide +kernel
theorem dX12_total_45 : decode cX12_total 45 = .ok (.invokevirtual 254, 3) := by decide +kernel
theorem dX12_total_48 : decode cX12_total 48 = .ok (.imul, 1) := by decide +kernel
theorem dX12_total_49 : decode cX12_total 49 = .ok (.istore 4, 2) := by decide +kernel
theorem dX12_total_51 : decode cX12_total 51 = .ok (.iload_n 3, 1) := by decide +kernel
theorem dX12_total_52 : decode cX12_total 52 = .ok (.tableswitch 69 0 3 #[32, 35, 42, 52], 32) := by decide +kernel
theorem dX12_total_84 : decode cX12_total 84 = .ok (.iload 4, 2) := by decide +kernel
theorem dX12_total_86 : decode cX12_total 86 = .ok (.ireturn, 1) := by decide +kernel
theorem dX12_total_87 : decode cX12_total 87 = .ok (.aload_n 0, 1) := by decide +kernel
theorem dX12_total_88 : decode cX12_total 88 = .ok (.iload_n 1, 1) := by decide +kernel
theorem dX12_total_89 : decode cX12_total 89 = .ok (.iload_n 2, 1) := by decide +kernel
theorem dX12_total_90 : decode cX12_total 90 = .ok (.invokevirtual 427, 3) := by decide +kernel
theorem dX12_total_93 : decode cX12_total 93 = .ok (.ireturn, 1) := by decide +kernel
theorem dX12_total_94 : decode cX12_total 94 = .ok (.iload 4, 2) := by decide +kernel
theorem dX12_total_96 : decode cX12_total 96 = .ok (.aload_n 0, 1) := by decide +kernel
theorem dX12_total_97 : decode cX12_total 97 = .ok (.iload_n 1, 1) := by decide +kernel
theorem dX12_total_98 : decode cX12_total 98 = .ok (.iload_n 2, 1) := by decide +kernel
theorem dX12_total_99 : decode cX12_total 99 = .ok (.invokevirtual 427, 3) := by decide +kernel
theorem dX12_total_102 : decode cX12_total 102 = .ok (.isub, 1) := by decide +kernel
theorem dX12_total_103 : decode cX12_total 103 = .ok (.ireturn, 1) := by decide +kernel
theorem dX12_total_104 : decode cX12_total 104 = .ok (.aload_n 0, 1) := by decide +kernel
theorem dX12_total_105 : decode cX12_total 105 = .ok (.iload_n 1, 1) := by decide +kernel
theorem dX12_total_106 : decode cX12_total 106 = .ok (.iload_n 2, 1) := by decide +kernel
theorem dX12_total_107 : decode cX12_total 107 = .ok (.iconst 0, 1) := by decide +kernel
theorem dX12_total_108 : decode cX12_total 108 = .ok (.aload_n 0, 1) := by decide +kernel
theorem dX12_total_109 : decode cX12_total 109 = .ok (.getfield 41, 3) := by decide +kernel
theorem dX12_total_112 : decode cX12_total 112 = .ok (.aload_n 0, 1) := by decide +kernel
theorem dX12_total_113 : decode cX12_total 113 = .ok (.getfield 41, 3) := by decide +kernel
theorem dX12_total_116 : decode cX12_total 116 = .ok (.imul, 1) := by decide +kernel
theorem dX12_total_117 : decode cX12_total 117 = .ok (.invokevirtual 423, 3) := by decide +kernel
theorem dX12_total_120 : decode cX12_total 120 = .ok (.ireturn, 1) := by decide +kernel
theorem dX12_total_121 : decode cX12_total 121 = .ok (.aload_n 0, 1) := by decide +kernel
theorem dX12_total_122 : decode cX12_total 122 = .ok (.iload_n 1, 1) := by decide +kernel
theorem dX12_total_123 : decode cX12_total 123 = .ok (.iload_n 2, 1) := by decide +kernel
theorem dX12_total_124 : decode cX12_total 124 = .ok (.aload_n 0, 1) := by decide +kernel
theorem dX12_total_125 : decode cX12_total 125 = .ok (.getfield 41, 3) := by decide +kernel
theorem dX12_total_128 : decode cX12_total 128 = .ok (.aload_n 0, 1) := by decide +kernel
theorem dX12_total_129 : decode cX12_total 129 = .ok (.getfield 41, 3) := by decide +kernel
theorem dX12_total_132 : decode cX12_total 132 = .ok (.imul, 1) := by decide +kernel
theorem dX12_total_133 : decode cX12_total 133 = .ok (.aload_n 0, 1) := by decide +kernel
theorem dX12_total_134 : decode cX12_total 134 = .ok (.invokevirtual 274, 3) := by decide +kernel
theorem dX12_total_137 : decode cX12_total 137 = .ok (.invokevirtual 423, 3) := by decide +kernel
theorem dX12_total_140 : decode cX12_total 140 = .ok (.ireturn, 1) := by decide +kernel
theorem dX12_knot_0 : decode cX12_knot 0 = .ok (.aload_n 0, 1) := by decide +kernel
theorem dX12_knot_1 : decode cX12_knot 1 = .ok (.iload_n 1, 1) := by decide +kernel
theorem dX12_knot_2 : decode cX12_knot 2 = .ok (.invokevirtual 296, 3) := by decide +kernel
theorem dX12_knot_5 : decode cX12_knot 5 = .ok (.ifCond .eq 12, 3) := by decide +kernel
theorem dX12_knot_8 : decode cX12_knot 8 = .ok (.iload_n 2, 1) := by decide +kernel
theorem dX12_knot_9 : decode cX12_knot 9 = .ok (.iconst 0, 1) := by decide +kernel
theorem dX12_knot_10 : decode cX12_knot 10 = .ok (.iconst 1, 1) := by decide +kernel
theorem dX12_knot_11 : decode cX12_knot 11 = .ok (.invokestatic 271, 3) := by decide +kernel
theorem dX12_knot_14 : decode cX12_knot 14 = .ok (.ifCond .ne 5, 3) := by decide +kernel
theorem dX12_knot_17 : decode cX12_knot 17 = .ok (.iconst (-1), 1) := by decide +kernel
theorem dX12_knot_18 : decode cX12_knot 18 = .ok (.ireturn, 1) := by decide +kernel
theorem dX12_knot_19 : decode cX12_knot 19 = .ok (.iconst 0, 1) := by decide +kernel
theorem dX12_knot_20 : decode cX12_knot 20 = .ok (.istore_n 3, 1) := by decide +kernel
theorem dX12_knot_21 : decode cX12_knot 21 = .ok (.iconst 0, 1) := by decide +kernel
theorem dX12_knot_22 : decode cX12_knot 22 = .ok (.istore 4, 2) := by decide +kernel
theorem dX12_knot_24 : decode cX12_knot 24 = .ok (.iconst 0, 1) := by decide +kernel
theorem dX12_knot_25 : decode cX12_knot 25 = .ok (.istore 5, 2) := by decide +kernel
theorem dX12_knot_27 : decode cX12_knot 27 = .ok (.iload 5, 2) := by decide +kernel
theorem dX12_knot_29 : decode cX12_knot 29 = .ok (.aload_n 0, 1) := by decide +kernel
theorem dX12_knot_30 : decode cX12_knot 30 = .ok (.getfield 51, 3) := by decide +kernel
theorem dX12_knot_33 : decode cX12_knot 33 = .ok (.if_icmp .ge 96, 3) := by decide +kernel
theorem dX12_knot_36 : decode cX12_knot 36 = .ok (.aload_n 0, 1) := by decide +kernel
theorem dX12_knot_37 : decode cX12_knot 37 = .ok (.iload 5, 2) := by decide +kernel
theorem dX12_knot_39 : decode cX12_knot 39 = .ok (.iload_n 1, 1) := by decide +kernel
theorem dX12_knot_40 : decode cX12_knot 40 = .ok (.invokevirtual 299, 3) := by decide +kernel
theorem dX12_knot_43 : decode cX12_knot 43 = .ok (.ifCond .eq 6, 3) := by decide +kernel
theorem dX12_knot_46 : decode cX12_knot 46 = .ok (.goto 77, 3) := by decide +kernel
theorem dX12_knot_49 : decode cX12_knot 49 = .ok (.iinc 3 1, 3) := by decide +kernel
theorem dX12_knot_52 : decode cX12_knot 52 = .ok (.iload 5, 2) := by decide +kernel
theorem dX12_knot_54 : decode cX12_knot 54 = .ok (.iconst 1, 1) := by decide +kernel
theorem dX12_knot_55 : decode cX12_knot 55 = .ok (.iadd, 1) := by decide +kernel
theorem dX12_knot_56 : decode cX12_knot 56 = .ok (.istore 6, 2) := by decide +kernel
theorem dX12_knot_58 : decode cX12_knot 58 = .ok (.iload 6, 2) := by decide +kernel
theorem dX12_knot_60 : decode cX12_knot 60 = .ok (.aload_n 0, 1) := by decide +kernel
theorem dX12_knot_61 : decode cX12_knot 61 = .ok (.getfield 51, 3) := by decide +kernel
theorem dX12_knot_64 : decode cX12_knot 64 = .ok (.if_icmp .ge 59, 3) := by decide +kernel
theorem dX12_knot_67 : decode cX12_knot 67 = .ok (.iload 4, 2) := by decide +kernel
theorem dX12_knot_69 : decode cX12_knot 69 = .ok (.bipush (-2), 2) := by decide +kernel
theorem dX12_knot_71 : decode cX12_knot 71 = .ok (.if_icmp .eq 52, 3) := by decide +kernel
theorem dX12_knot_74 : decode cX12_knot 74 = .ok (.aload_n 0, 1) := by decide +kernel
theorem dX12_knot_75 : decode cX12_knot 75 = .ok (.iload 6, 2) := by decide +kernel
theorem dX12_knot_77 : decode cX12_knot 77 = .ok (.iload_n 1, 1) := by decide +kernel
theorem dX12_knot_78 : decode cX12_knot 78 = .ok (.invokevirtual 299, 3) := by decide +kernel
theorem dX12_knot_81 : decode cX12_knot 81 = .ok (.ifCond .eq 6, 3) := by decide +kernel
theorem dX12_knot_84 : decode cX12_knot 84 = .ok (.goto 33, 3) := by decide +kernel
theorem dX12_knot_87 : decode cX12_knot 87 = .ok (.aload_n 0, 1) := by decide +kernel
theorem dX12_knot_88 : decode cX12_knot 88 = .ok (.iload 5, 2) := by decide +kernel
theorem dX12_knot_90 : decode cX12_knot 90 = .ok (.iload 6, 2) := by decide +kernel
theorem dX12_knot_92 : decode cX12_knot 92 = .ok (.iload_n 1, 1) := by decide +kernel
theorem dX12_knot_93 : decode cX12_knot 93 = .ok (.invokevirtual 395, 3) := by decide +kernel
theorem dX12_knot_96 : decode cX12_knot 96 = .ok (.istore 7, 2) := by decide +kernel
theorem dX12_knot_98 : decode cX12_knot 98 = .ok (.iload 7, 2) := by decide +kernel
theorem dX12_knot_100 : decode cX12_knot 100 = .ok (.bipush (-2), 2) := by decide +kernel
theorem dX12_knot_102 : decode cX12_knot 102 = .ok (.if_icmp .ne 8, 3) := by decide +kernel
theorem dX12_knot_105 : decode cX12_knot 105 = .ok (.bipush (-2), 2) := by decide +kernel
theorem dX12_knot_107 : decode cX12_knot 107 = .ok (.goto 8, 3) := by decide +kernel
theorem dX12_knot_110 : decode cX12_knot 110 = .ok (.iload 4, 2) := by decide +kernel
theorem dX12_knot_112 : decode cX12_knot 112 = .ok (.iload 7, 2) := by decide +kernel
theorem dX12_knot_114 : decode cX12_knot 114 = .ok (.iadd, 1) := by decide +kernel
theorem dX12_knot_115 : decode cX12_knot 115 = .ok (.istore 4, 2) := by decide +kernel
theorem dX12_knot_117 : decode cX12_knot 117 = .ok (.iinc 6 1, 3) := by decide +kernel
theorem dX12_knot_120 : decode cX12_knot 120 = .ok (.goto (-62), 3) := by decide +kernel
theorem dX12_knot_123 : decode cX12_knot 123 = .ok (.iinc 5 1, 3) := by decide +kernel
theorem dX12_knot_126 : decode cX12_knot 126 = .ok (.goto (-99), 3) := by decide +kernel
theorem dX12_knot_129 : decode cX12_knot 129 = .ok (.iload_n 2, 1) := by decide +kernel
theorem dX12_knot_130 : decode cX12_knot 130 = .ok (.ifCond .ne 7, 3) := by decide +kernel
theorem dX12_knot_133 : decode cX12_knot 133 = .ok (.iload_n 3, 1) := by decide +kernel
theorem dX12_knot_134 : decode cX12_knot 134 = .ok (.goto 5, 3) := by decide +kernel
theorem dX12_knot_137 : decode cX12_knot 137 = .ok (.iload 4, 2) := by decide +kernel
theorem dX12_knot_139 : decode cX12_knot 139 = .ok (.ireturn, 1) := by decide +kernel
theorem dX12_most_0 : decode cX12_most 0 = .ok (.aload_n 0, 1) := by decide +kernel
theorem dX12_most_1 : decode cX12_most 1 = .ok (.iload_n 1, 1) := by decide +kernel
theorem dX12_most_2 : decode cX12_most 2 = .ok (.iload_n 2, 1) := by decide +kernel
theorem dX12_most_3 : decode cX12_most 3 = .ok (.invokevirtual 363, 3) := by decide +kernel
theorem dX12_most_6 : decode cX12_most 6 = .ok (.ifCond .eq 12, 3) := by decide +kernel
theorem dX12_most_9 : decode cX12_most 9 = .ok (.iload_n 3, 1) := by decide +kernel
theorem dX12_most_10 : decode cX12_most 10 = .ok (.iconst 0, 1) := by decide +kernel
theorem dX12_most_11 : decode cX12_most 11 = .ok (.iconst 1, 1) := by decide +kernel
theorem dX12_most_12 : decode cX12_most 12 = .ok (.invokestatic 271, 3) := by decide +kernel
theorem dX12_most_15 : decode cX12_most 15 = .ok (.ifCond .ne 5, 3) := by decide +kernel
theorem dX12_most_18 : decode cX12_most 18 = .ok (.iconst (-1), 1) := by decide +kernel
theorem dX12_most_19 : decode cX12_most 19 = .ok (.ireturn, 1) := by decide +kernel
theorem dX12_most_20 : decode cX12_most 20 = .ok (.iconst 0, 1) := by decide +kernel
theorem dX12_most_21 : decode cX12_most 21 = .ok (.istore 4, 2) := by decide +kernel
theorem dX12_most_23 : decode cX12_most 23 = .ok (.iconst (-1), 1) := by decide +kernel
theorem dX12_most_24 : decode cX12_most 24 = .ok (.istore 5, 2) := by decide +kernel
theorem dX12_most_26 : decode cX12_most 26 = .ok (.iconst 0, 1) := by decide +kernel
theorem dX12_most_27 : decode cX12_most 27 = .ok (.istore 6, 2) := by decide +kernel
theorem dX12_most_29 : decode cX12_most 29 = .ok (.iload 6, 2) := by decide +kernel
theorem dX12_most_31 : decode cX12_most 31 = .ok (.aload_n 0, 1) := by decide +kernel
theorem dX12_most_32 : decode cX12_most 32 = .ok (.invokevirtual 274, 3) := by decide +kernel
theorem dX12_most_35 : decode cX12_most 35 = .ok (.if_icmp .ge 70, 3) := by decide +kernel
theorem dX12_most_38 : decode cX12_most 38 = .ok (.aload_n 0, 1) := by decide +kernel
theorem dX12_most_39 : decode cX12_most 39 = .ok (.iload_n 1, 1) := by decide +kernel
theorem dX12_most_40 : decode cX12_most 40 = .ok (.iload_n 2, 1) := by decide +kernel
theorem dX12_most_41 : decode cX12_most 41 = .ok (.iload 6, 2) := by decide +kernel
theorem dX12_most_43 : decode cX12_most 43 = .ok (.invokevirtual 420, 3) := by decide +kernel
theorem dX12_most_46 : decode cX12_most 46 = .ok (.ifCond .ne 6, 3) := by decide +kernel
theorem dX12_most_49 : decode cX12_most 49 = .ok (.goto 50, 3) := by decide +kernel
theorem dX12_most_52 : decode cX12_most 52 = .ok (.aload_n 0, 1) := by decide +kernel
theorem dX12_most_53 : decode cX12_most 53 = .ok (.iload_n 1, 1) := by decide +kernel
theorem dX12_most_54 : decode cX12_most 54 = .ok (.iload_n 2, 1) := by decide +kernel
theorem dX12_most_55 : decode cX12_most 55 = .ok (.iload 6, 2) := by decide +kernel
theorem dX12_most_57 : decode cX12_most 57 = .ok (.invokevirtual 395, 3) := by decide +kernel
theorem dX12_most_60 : decode cX12_most 60 = .ok (.istore 7, 2) := by decide +kernel
theorem dX12_most_62 : decode cX12_most 62 = .ok (.iload 7, 2) := by decide +kernel
theorem dX12_most_64 : decode cX12_most 64 = .ok (.bipush (-2), 2) := by decide +kernel
theorem dX12_most_66 : decode cX12_most 66 = .ok (.if_icmp .ne 15, 3) := by decide +kernel
theorem dX12_most_69 : decode cX12_most 69 = .ok (.iload_n 3, 1) := by decide +kernel
theorem dX12_most_70 : decode cX12_most 70 = .ok (.ifCond .ne 8, 3) := by decide +kernel
theorem dX12_most_73 : decode cX12_most 73 = .ok (.bipush (-2), 2) := by decide +kernel
theorem dX12_most_75 : decode cX12_most 75 = .ok (.goto 5, 3) := by decide +kernel
theorem dX12_most_78 : decode cX12_most 78 = .ok (.iload 6, 2) := by decide +kernel
theorem dX12_most_80 : decode cX12_most 80 = .ok (.ireturn, 1) := by decide +kernel
theorem dX12_most_81 : decode cX12_most 81 = .ok (.iload 7, 2) := by decide +kernel
theorem dX12_most_83 : decode cX12_most 83 = .ok (.iload 4, 2) := by decide +kernel
theorem dX12_most_85 : decode cX12_most 85 = .ok (.if_icmp .gt 6, 3) := by decide +kernel
theorem dX12_most_88 : decode cX12_most 88 = .ok (.goto 11, 3) := by decide +kernel
theorem dX12_most_91 : decode cX12_most 91 = .ok (.iload 7, 2) := by decide +kernel
theorem dX12_most_93 : decode cX12_most 93 = .ok (.istore 4, 2) := by decide +kernel
theorem dX12_most_95 : decode cX12_most 95 = .ok (.iload 6, 2) := by decide +kernel
theorem dX12_most_97 : decode cX12_most 97 = .ok (.istore 5, 2) := by decide +kernel
theorem dX12_most_99 : decode cX12_most 99 = .ok (.iinc 6 1, 3) := by decide +kernel
theorem dX12_most_102 : decode cX12_most 102 = .ok (.goto (-73), 3) := by decide +kernel
theorem dX12_most_105 : decode cX12_most 105 = .ok (.iload_n 3, 1) := by decide +kernel
theorem dX12_most_106 : decode cX12_most 106 = .ok (.ifCond .ne 8, 3) := by decide +kernel
theorem dX12_most_109 : decode cX12_most 109 = .ok (.iload 4, 2) := by decide +kernel
theorem dX12_most_111 : decode cX12_most 111 = .ok (.goto 5, 3) := by decide +kernel
theorem dX12_most_114 : decode cX12_most 114 = .ok (.iload 5, 2) := by decide +kernel
theorem dX12_most_116 : decode cX12_most 116 = .ok (.ireturn, 1) := by decide +kernel
theorem dX12_keeps_0 : decode cX12_keeps 0 = .ok (.aload_n 0, 1) := by decide +kernel
theorem dX12_keeps_1 : decode cX12_keeps 1 = .ok (.getfield 118, 3) := by decide +kernel
theorem dX12_keeps_4 : decode cX12_keeps 4 = .ok (.bipush 20, 2) := by decide +kernel
theorem dX12_keeps_6 : decode cX12_keeps 6 = .ok (.if_icmp .ne 49, 3) := by decide +kernel
theorem dX12_keeps_9 : decode cX12_keeps 9 = .ok (.aload_n 0, 1) := by decide +kernel
theorem dX12_keeps_10 : decode cX12_keeps 10 = .ok (.dup, 1) := by decide +kernel
theorem dX12_keeps_11 : decode cX12_keeps 11 = .ok (.getfield 118, 3) := by decide +kernel
theorem dX12_keeps_14 : decode cX12_keeps 14 = .ok (.iconst 1, 1) := by decide +kernel
theorem dX12_keeps_15 : decode cX12_keeps 15 = .ok (.isub, 1) := by decide +kernel
theorem dX12_keeps_16 : decode cX12_keeps 16 = .ok (.putfield 118, 3) := by decide +kernel
theorem dX12_keeps_19 : decode cX12_keeps 19 = .ok (.iconst 0, 1) := by decide +kernel
theorem dX12_keeps_20 : decode cX12_keeps 20 = .ok (.istore_n 1, 1) := by decide +kernel
theorem dX12_keeps_21 : decode cX12_keeps 21 = .ok (.iload_n 1, 1) := by decide +kernel
theorem dX12_keeps_22 : decode cX12_keeps 22 = .ok (.sipush 157, 3) := by decide +kernel
theorem dX12_keeps_25 : decode cX12_keeps 25 = .ok (.aload_n 0, 1) := by decide +kernel
theorem dX12_keeps_26 : decode cX12_keeps 26 = .ok (.getfield 118, 3) := by decide +kernel
theorem dX12_keeps_29 : decode cX12_keeps 29 = .ok (.imul, 1) := by decide +kernel
theorem dX12_keeps_30 : decode cX12_keeps 30 = .ok (.if_icmp .ge 25, 3) := by decide +kernel
theorem dX12_keeps_33 : decode cX12_keeps 33 = .ok (.aload_n 0, 1) := by decide +kernel
theorem dX12_keeps_34 : decode cX12_keeps 34 = .ok (.getfield 121, 3) := by decide +kernel
theorem dX12_keeps_37 : decode cX12_keeps 37 = .ok (.iload_n 1, 1) := by decide +kernel
theorem dX12_keeps_38 : decode cX12_keeps 38 = .ok (.aload_n 0, 1) := by decide +kernel
theorem dX12_keeps_39 : decode cX12_keeps 39 = .ok (.getfield 121, 3) := by decide +kernel
theorem dX12_keeps_42 : decode cX12_keeps 42 = .ok (.iload_n 1, 1) := by decide +kernel
theorem dX12_keeps_43 : decode cX12_keeps 43 = .ok (.sipush 157, 3) := by decide +kernel
theorem dX12_keeps_46 : decode cX12_keeps 46 = .ok (.iadd, 1) := by decide +kernel
theorem dX12_keeps_47 : decode cX12_keeps 47 = .ok (.iaload, 1) := by decide +kernel
theorem dX12_keeps_48 : decode cX12_keeps 48 = .ok (.iastore, 1) := by decide +kernel
theorem dX12_keeps_49 : decode cX12_keeps 49 = .ok (.iinc 1 1, 3) := by decide +kernel
theorem dX12_keeps_52 : decode cX12_keeps 52 = .ok (.goto (-31), 3) := by decide +kernel
theorem dX12_keeps_55 : decode cX12_keeps 55 = .ok (.sipush 157, 3) := by decide +kernel
theorem dX12_keeps_58 : decode cX12_keeps 58 = .ok (.aload_n 0, 1) := by decide +kernel
theorem dX12_keeps_59 : decode cX12_keeps 59 = .ok (.getfield 118, 3) := by decide +kernel
theorem dX12_keeps_62 : decode cX12_keeps 62 = .ok (.imul, 1) := by decide +kernel
theorem dX12_keeps_63 : decode cX12_keeps 63 = .ok (.istore_n 1, 1) := by decide +kernel
theorem dX12_keeps_64 : decode cX12_keeps 64 = .ok (.aload_n 0, 1) := by decide +kernel
theorem dX12_keeps_65 : decode cX12_keeps 65 = .ok (.getfield 121, 3) := by decide +kernel
theorem dX12_keeps_68 : decode cX12_keeps 68 = .ok (.iload_n 1, 1) := by decide +kernel
theorem dX12_keeps_69 : decode cX12_keeps 69 = .ok (.aload_n 0, 1) := by decide +kernel
theorem dX12_keeps_70 : decode cX12_keeps 70 = .ok (.getfield 51, 3) := by decide +kernel
theorem dX12_keeps_73 : decode cX12_keeps 73 = .ok (.iastore, 1) := by decide +kernel
theorem dX12_keeps_74 : decode cX12_keeps 74 = .ok (.iconst 0, 1) := by decide +kernel
theorem dX12_keeps_75 : decode cX12_keeps 75 = .ok (.istore_n 2, 1) := by decide +kernel
theorem dX12_keeps_76 : decode cX12_keeps 76 = .ok (.iload_n 2, 1) := by decide +kernel
theorem dX12_keeps_77 : decode cX12_keeps 77 = .ok (.bipush 6, 2) := by decide +kernel
theorem dX12_keeps_79 : decode cX12_keeps 79 = .ok (.if_icmp .ge 25, 3) := by decide +kernel
theorem dX12_keeps_82 : decode cX12_keeps 82 = .ok (.aload_n 0, 1) := by decide +kernel
theorem dX12_keeps_83 : decode cX12_keeps 83 = .ok (.getfield 121, 3) := by decide +kernel
theorem dX12_keeps_86 : decode cX12_keeps 86 = .ok (.iload_n 1, 1) := by decide +kernel
theorem dX12_keeps_87 : decode cX12_keeps 87 = .ok (.iconst 1, 1) := by decide +kernel
theorem dX12_keeps_88 : decode cX12_keeps 88 = .ok (.iadd, 1) := by decide +kernel
theorem dX12_keeps_89 : decode cX12_keeps 89 = .ok (.iload_n 2, 1) := by decide +kernel
theorem dX12_keeps_90 : decode cX12_keeps 90 = .ok (.iadd, 1) := by decide +kernel
theorem dX12_keeps_91 : decode cX12_keeps 91 = .ok (.aload_n 0, 1) := by decide +kernel
theorem dX12_keeps_92 : decode cX12_keeps 92 = .ok (.getfield 54, 3) := by decide +kernel
theorem dX12_keeps_95 : decode cX12_keeps 95 = .ok (.iload_n 2, 1) := by decide +kernel
theorem dX12_keeps_96 : decode cX12_keeps 96 = .ok (.iaload, 1) := by decide +kernel
theorem dX12_keeps_97 : decode cX12_keeps 97 = .ok (.iastore, 1) := by decide +kernel
theorem dX12_keeps_98 : decode cX12_keeps 98 = .ok (.iinc 2 1, 3) := by decide +kernel
theorem dX12_keeps_101 : decode cX12_keeps 101 = .ok (.goto (-25), 3) := by decide +kernel
theorem dX12_keeps_104 : decode cX12_keeps 104 = .ok (.iconst 0, 1) := by decide +kernel
theorem dX12_keeps_105 : decode cX12_keeps 105 = .ok (.istore_n 2, 1) := by decide +kernel
theorem dX12_keeps_106 : decode cX12_keeps 106 = .ok (.iload_n 2, 1) := by decide +kernel
theorem dX12_keeps_107 : decode cX12_keeps 107 = .ok (.sipush 150, 3) := by decide +kernel
theorem dX12_keeps_110 : decode cX12_keeps 110 = .ok (.if_icmp .ge 26, 3) := by decide +kernel
theorem dX12_keeps_113 : decode cX12_keeps 113 = .ok (.aload_n 0, 1) := by decide +kernel
theorem dX12_keeps_114 : decode cX12_keeps 114 = .ok (.getfield 121, 3) := by decide +kernel
theorem dX12_keeps_117 : decode cX12_keeps 117 = .ok (.iload_n 1, 1) := by decide +kernel
theorem dX12_keeps_118 : decode cX12_keeps 118 = .ok (.bipush 7, 2) := by decide +kernel
theorem dX12_keeps_120 : decode cX12_keeps 120 = .ok (.iadd, 1) := by decide +kernel
theorem dX12_keeps_121 : decode cX12_keeps 121 = .ok (.iload_n 2, 1) := by decide +kernel
theorem dX12_keeps_122 : decode cX12_keeps 122 = .ok (.iadd, 1) := by decide +kernel
theorem dX12_keeps_123 : decode cX12_keeps 123 = .ok (.aload_n 0, 1) := by decide +kernel
theorem dX12_keeps_124 : decode cX12_keeps 124 = .ok (.getfield 44, 3) := by decide +kernel
theorem dX12_keeps_127 : decode cX12_keeps 127 = .ok (.iload_n 2, 1) := by decide +kernel
theorem dX12_keeps_128 : decode cX12_keeps 128 = .ok (.iaload, 1) := by decide +kernel
theorem dX12_keeps_129 : decode cX12_keeps 129 = .ok (.iastore, 1) := by decide +kernel
theorem dX12_keeps_130 : decode cX12_keeps 130 = .ok (.iinc 2 1, 3) := by decide +kernel
theorem dX12_keeps_133 : decode cX12_keeps 133 = .ok (.goto (-27), 3) := by decide +kernel
theorem dX12_keeps_136 : decode cX12_keeps 136 = .ok (.aload_n 0, 1) := by decide +kernel
theorem dX12_keeps_137 : decode cX12_keeps 137 = .ok (.dup, 1) := by decide +kernel
theorem dX12_keeps_138 : decode cX12_keeps 138 = .ok (.getfield 118, 3) := by decide +kernel
theorem dX12_keeps_141 : decode cX12_keeps 141 = .ok (.iconst 1, 1) := by decide +kernel
theorem dX12_keeps_142 : decode cX12_keeps 142 = .ok (.iadd, 1) := by decide +kernel
theorem dX12_keeps_143 : decode cX12_keeps 143 = .ok (.putfield 118, 3) := by decide +kernel
theorem dX12_keeps_146 : decode cX12_keeps 146 = .ok (.return_, 1) := by decide +kernel
theorem dX12_undo_0 : decode cX12_undo 0 = .ok (.aload_n 0, 1) := by decide +kernel
theorem dX12_undo_1 : decode cX12_undo 1 = .ok (.getfield 118, 3) := by decide +kernel
theorem dX12_undo_4 : decode cX12_undo 4 = .ok (.ifCond .ne 9, 3) := by decide +kernel
theorem dX12_undo_7 : decode cX12_undo 7 = .ok (.aload_n 0, 1) := by decide +kernel
theorem dX12_undo_8 : decode cX12_undo 8 = .ok (.iconst 4, 1) := by decide +kernel
theorem dX12_undo_9 : decode cX12_undo 9 = .ok (.invokevirtual 132, 3) := by decide +kernel
theorem dX12_undo_12 : decode cX12_undo 12 = .ok (.ireturn, 1) := by decide +kernel
theorem dX12_undo_13 : decode cX12_undo 13 = .ok (.aload_n 0, 1) := by decide +kernel
theorem dX12_undo_14 : decode cX12_undo 14 = .ok (.dup, 1) := by decide +kernel
theorem dX12_undo_15 : decode cX12_undo 15 = .ok (.getfield 118, 3) := by decide +kernel
theorem dX12_undo_18 : decode cX12_undo 18 = .ok (.iconst 1, 1) := by decide +kernel
theorem dX12_undo_19 : decode cX12_undo 19 = .ok (.isub, 1) := by decide +kernel
theorem dX12_undo_20 : decode cX12_undo 20 = .ok (.putfield 118, 3) := by decide +kernel
theorem dX12_undo_23 : decode cX12_undo 23 = .ok (.sipush 157, 3) := by decide +kernel
theorem dX12_undo_26 : decode cX12_undo 26 = .ok (.aload_n 0, 1) := by decide +kernel
theorem dX12_undo_27 : decode cX12_undo 27 = .ok (.getfield 118, 3) := by decide +kernel
theorem dX12_undo_30 : decode cX12_undo 30 = .ok (.imul, 1) := by decide +kernel
theorem dX12_undo_31 : decode cX12_undo 31 = .ok (.istore_n 1, 1) := by decide +kernel
theorem dX12_undo_32 : decode cX12_undo 32 = .ok (.aload_n 0, 1) := by decide +kernel
theorem dX12_undo_33 : decode cX12_undo 33 = .ok (.aload_n 0, 1) := by decide +kernel
theorem dX12_undo_34 : decode cX12_undo 34 = .ok (.getfield 121, 3) := by decide +kernel
theorem dX12_undo_37 : decode cX12_undo 37 = .ok (.iload_n 1, 1) := by decide +kernel
theorem dX12_undo_38 : decode cX12_undo 38 = .ok (.iaload, 1) := by decide +kernel
theorem dX12_undo_39 : decode cX12_undo 39 = .ok (.putfield 51, 3) := by decide +kernel
theorem dX12_undo_42 : decode cX12_undo 42 = .ok (.iconst 0, 1) := by decide +kernel
theorem dX12_undo_43 : decode cX12_undo 43 = .ok (.istore_n 2, 1) := by decide +kernel
theorem dX12_undo_44 : decode cX12_undo 44 = .ok (.iload_n 2, 1) := by decide +kernel
theorem dX12_undo_45 : decode cX12_undo 45 = .ok (.bipush 6, 2) := by decide +kernel
theorem dX12_undo_47 : decode cX12_undo 47 = .ok (.if_icmp .ge 25, 3) := by decide +kernel
theorem dX12_undo_50 : decode cX12_undo 50 = .ok (.aload_n 0, 1) := by decide +kernel
theorem dX12_undo_51 : decode cX12_undo 51 = .ok (.getfield 54, 3) := by decide +kernel
theorem dX12_undo_54 : decode cX12_undo 54 = .ok (.iload_n 2, 1) := by decide +kernel
theorem dX12_undo_55 : decode cX12_undo 55 = .ok (.aload_n 0, 1) := by decide +kernel
theorem dX12_undo_56 : decode cX12_undo 56 = .ok (.getfield 121, 3) := by decide +kernel
theorem dX12_undo_59 : decode cX12_undo 59 = .ok (.iload_n 1, 1) := by decide +kernel
theorem dX12_undo_60 : decode cX12_undo 60 = .ok (.iconst 1, 1) := by decide +kernel
theorem dX12_undo_61 : decode cX12_undo 61 = .ok (.iadd, 1) := by decide +kernel
theorem dX12_undo_62 : decode cX12_undo 62 = .ok (.iload_n 2, 1) := by decide +kernel
theorem dX12_undo_63 : decode cX12_undo 63 = .ok (.iadd, 1) := by decide +kernel
theorem dX12_undo_64 : decode cX12_undo 64 = .ok (.iaload, 1) := by decide +kernel
theorem dX12_undo_65 : decode cX12_undo 65 = .ok (.iastore, 1) := by decide +kernel
theorem dX12_undo_66 : decode cX12_undo 66 = .ok (.iinc 2 1, 3) := by decide +kernel
theorem dX12_undo_69 : decode cX12_undo 69 = .ok (.goto (-25), 3) := by decide +kernel
theorem dX12_undo_72 : decode cX12_undo 72 = .ok (.iconst 0, 1) := by decide +kernel
theorem dX12_undo_73 : decode cX12_undo 73 = .ok (.istore_n 2, 1) := by decide +kernel
theorem dX12_undo_74 : decode cX12_undo 74 = .ok (.iload_n 2, 1) := by decide +kernel
theorem dX12_undo_75 : decode cX12_undo 75 = .ok (.sipush 150, 3) := by decide +kernel
theorem dX12_undo_78 : decode cX12_undo 78 = .ok (.if_icmp .ge 26, 3) := by decide +kernel
theorem dX12_undo_81 : decode cX12_undo 81 = .ok (.aload_n 0, 1) := by decide +kernel
theorem dX12_undo_82 : decode cX12_undo 82 = .ok (.getfield 44, 3) := by decide +kernel
theorem dX12_undo_85 : decode cX12_undo 85 = .ok (.iload_n 2, 1) := by decide +kernel
theorem dX12_undo_86 : decode cX12_undo 86 = .ok (.aload_n 0, 1) := by decide +kernel
theorem dX12_undo_87 : decode cX12_undo 87 = .ok (.getfield 121, 3) := by decide +kernel
theorem dX12_undo_90 : decode cX12_undo 90 = .ok (.iload_n 1, 1) := by decide +kernel
theorem dX12_undo_91 : decode cX12_undo 91 = .ok (.bipush 7, 2) := by decide +kernel
theorem dX12_undo_93 : decode cX12_undo 93 = .ok (.iadd, 1) := by decide +kernel
theorem dX12_undo_94 : decode cX12_undo 94 = .ok (.iload_n 2, 1) := by decide +kernel
theorem dX12_undo_95 : decode cX12_undo 95 = .ok (.iadd, 1) := by decide +kernel
theorem dX12_undo_96 : decode cX12_undo 96 = .ok (.iaload, 1) := by decide +kernel
theorem dX12_undo_97 : decode cX12_undo 97 = .ok (.iastore, 1) := by decide +kernel
theorem dX12_undo_98 : decode cX12_undo 98 = .ok (.iinc 2 1, 3) := by decide +kernel
theorem dX12_undo_101 : decode cX12_undo 101 = .ok (.goto (-27), 3) := by decide +kernel
theorem dX12_undo_104 : decode cX12_undo 104 = .ok (.iconst 1, 1) := by decide +kernel
theorem dX12_undo_105 : decode cX12_undo 105 = .ok (.ireturn, 1) := by decide +kernel
theorem dX12_canMove_0 : decode cX12_canMove 0 = .ok (.aload_n 0, 1) := by decide +kernel
theorem dX12_canMove_1 : decode cX12_canMove 1 = .ok (.iload_n 1, 1) := by decide +kernel
theorem dX12_canMove_2 : decode cX12_canMove 2 = .ok (.i2l, 1) := by decide +kernel
theorem dX12_canMove_3 : decode cX12_canMove 3 = .ok (.iload 4, 2) := by decide +kernel
theorem dX12_canMove_5 : decode cX12_canMove 5 = .ok (.i2l, 1) := by decide +kernel
theorem dX12_canMove_6 : decode cX12_canMove 6 = .ok (.lmul, 1) := by decide +kernel
theorem dX12_canMove_7 : decode cX12_canMove 7 = .ok (.iload_n 2, 1) := by decide +kernel
theorem dX12_canMove_8 : decode cX12_canMove 8 = .ok (.i2l, 1) := by decide +kernel
theorem dX12_canMove_9 : decode cX12_canMove 9 = .ok (.iload_n 3, 1) := by decide +kernel
theorem dX12_canMove_10 : decode cX12_canMove 10 = .ok (.i2l, 1) := by decide +kernel
theorem dX12_canMove_11 : decode cX12_canMove 11 = .ok (.lmul, 1) := by decide +kernel
theorem dX12_canMove_12 : decode cX12_canMove 12 = .ok (.lsub, 1) := by decide +kernel
theorem dX12_canMove_13 : decode cX12_canMove 13 = .ok (.invokevirtual 176, 3) := by decide +kernel
theorem dX12_canMove_16 : decode cX12_canMove 16 = .ok (.ifCond .eq 7, 3) := by decide +kernel
theorem dX12_canMove_19 : decode cX12_canMove 19 = .ok (.iconst 1, 1) := by decide +kernel
theorem dX12_canMove_20 : decode cX12_canMove 20 = .ok (.goto 4, 3) := by decide +kernel
theorem dX12_canMove_23 : decode cX12_canMove 23 = .ok (.iconst 0, 1) := by decide +kernel
theorem dX12_canMove_24 : decode cX12_canMove 24 = .ok (.ireturn, 1) := by decide +kernel
theorem dX12_moves_0 : decode cX12_moves 0 = .ok (.sipush 140, 3) := by decide +kernel
theorem dX12_moves_3 : decode cX12_moves 3 = .ok (.istore 8, 2) := by decide +kernel
theorem dX12_moves_5 : decode cX12_moves 5 = .ok (.aload_n 0, 1) := by decide +kernel
theorem dX12_moves_6 : decode cX12_moves 6 = .ok (.iload 8, 2) := by decide +kernel
theorem dX12_moves_8 : decode cX12_moves 8 = .ok (.invokevirtual 192, 3) := by decide +kernel
theorem dX12_moves_11 : decode cX12_moves 11 = .ok (.aload_n 0, 1) := by decide +kernel
theorem dX12_moves_12 : decode cX12_moves 12 = .ok (.iload 8, 2) := by decide +kernel
theorem dX12_moves_14 : decode cX12_moves 14 = .ok (.iconst 1, 1) := by decide +kernel
theorem dX12_moves_15 : decode cX12_moves 15 = .ok (.iconst 0, 1) := by decide +kernel
theorem dX12_moves_16 : decode cX12_moves 16 = .ok (.iload_n 2, 1) := by decide +kernel
theorem dX12_moves_17 : decode cX12_moves 17 = .ok (.i2l, 1) := by decide +kernel
theorem dX12_moves_18 : decode cX12_moves 18 = .ok (.invokevirtual 188, 3) := by decide +kernel
theorem dX12_moves_21 : decode cX12_moves 21 = .ok (.aload_n 0, 1) := by decide +kernel
theorem dX12_moves_22 : decode cX12_moves 22 = .ok (.iload 8, 2) := by decide +kernel
theorem dX12_moves_24 : decode cX12_moves 24 = .ok (.iconst 0, 1) := by decide +kernel
theorem dX12_moves_25 : decode cX12_moves 25 = .ok (.iconst 1, 1) := by decide +kernel
theorem dX12_moves_26 : decode cX12_moves 26 = .ok (.iload_n 3, 1) := by decide +kernel
theorem dX12_moves_27 : decode cX12_moves 27 = .ok (.i2l, 1) := by decide +kernel
theorem dX12_moves_28 : decode cX12_moves 28 = .ok (.invokevirtual 188, 3) := by decide +kernel
theorem dX12_moves_31 : decode cX12_moves 31 = .ok (.aload_n 0, 1) := by decide +kernel
theorem dX12_moves_32 : decode cX12_moves 32 = .ok (.iload 8, 2) := by decide +kernel
theorem dX12_moves_34 : decode cX12_moves 34 = .ok (.iconst 0, 1) := by decide +kernel
theorem dX12_moves_35 : decode cX12_moves 35 = .ok (.iconst 0, 1) := by decide +kernel
theorem dX12_moves_36 : decode cX12_moves 36 = .ok (.iload 4, 2) := by decide +kernel
theorem dX12_moves_38 : decode cX12_moves 38 = .ok (.i2l, 1) := by decide +kernel
theorem dX12_moves_39 : decode cX12_moves 39 = .ok (.invokevirtual 188, 3) := by decide +kernel
theorem dX12_moves_42 : decode cX12_moves 42 = .ok (.aload_n 0, 1) := by decide +kernel
theorem dX12_moves_43 : decode cX12_moves 43 = .ok (.sipush 142, 3) := by decide +kernel
theorem dX12_moves_46 : decode cX12_moves 46 = .ok (.invokevirtual 192, 3) := by decide +kernel
theorem dX12_moves_49 : decode cX12_moves 49 = .ok (.aload_n 0, 1) := by decide +kernel
theorem dX12_moves_50 : decode cX12_moves 50 = .ok (.sipush 142, 3) := by decide +kernel
theorem dX12_moves_53 : decode cX12_moves 53 = .ok (.iconst 1, 1) := by decide +kernel
theorem dX12_moves_54 : decode cX12_moves 54 = .ok (.iconst 0, 1) := by decide +kernel
theorem dX12_moves_55 : decode cX12_moves 55 = .ok (.iload 5, 2) := by decide +kernel
theorem dX12_moves_57 : decode cX12_moves 57 = .ok (.i2l, 1) := by decide +kernel
theorem dX12_moves_58 : decode cX12_moves 58 = .ok (.invokevirtual 188, 3) := by decide +kernel
theorem dX12_moves_61 : decode cX12_moves 61 = .ok (.aload_n 0, 1) := by decide +kernel
theorem dX12_moves_62 : decode cX12_moves 62 = .ok (.sipush 142, 3) := by decide +kernel
theorem dX12_moves_65 : decode cX12_moves 65 = .ok (.iconst 0, 1) := by decide +kernel
theorem dX12_moves_66 : decode cX12_moves 66 = .ok (.iconst 1, 1) := by decide +kernel
theorem dX12_moves_67 : decode cX12_moves 67 = .ok (.iload 6, 2) := by decide +kernel
theorem dX12_moves_69 : decode cX12_moves 69 = .ok (.i2l, 1) := by decide +kernel
theorem dX12_moves_70 : decode cX12_moves 70 = .ok (.invokevirtual 188, 3) := by decide +kernel
theorem dX12_moves_73 : decode cX12_moves 73 = .ok (.aload_n 0, 1) := by decide +kernel
theorem dX12_moves_74 : decode cX12_moves 74 = .ok (.sipush 142, 3) := by decide +kernel
theorem dX12_moves_77 : decode cX12_moves 77 = .ok (.iconst 0, 1) := by decide +kernel
theorem dX12_moves_78 : decode cX12_moves 78 = .ok (.iconst 0, 1) := by decide +kernel
theorem dX12_moves_79 : decode cX12_moves 79 = .ok (.iload 7, 2) := by decide +kernel
theorem dX12_moves_81 : decode cX12_moves 81 = .ok (.i2l, 1) := by decide +kernel
theorem dX12_moves_82 : decode cX12_moves 82 = .ok (.invokevirtual 188, 3) := by decide +kernel
theorem dX12_moves_85 : decode cX12_moves 85 = .ok (.aload_n 0, 1) := by decide +kernel
theorem dX12_moves_86 : decode cX12_moves 86 = .ok (.sipush 144, 3) := by decide +kernel
theorem dX12_moves_89 : decode cX12_moves 89 = .ok (.invokevirtual 192, 3) := by decide +kernel
theorem dX12_moves_92 : decode cX12_moves 92 = .ok (.iconst 0, 1) := by decide +kernel
theorem dX12_moves_93 : decode cX12_moves 93 = .ok (.istore 9, 2) := by decide +kernel
theorem dX12_moves_95 : decode cX12_moves 95 = .ok (.iload 9, 2) := by decide +kernel
theorem dX12_moves_97 : decode cX12_moves 97 = .ok (.iconst 4, 1) := by decide +kernel
theorem dX12_moves_98 : decode cX12_moves 98 = .ok (.if_icmp .gt 174, 3) := by decide +kernel
theorem dX12_moves_101 : decode cX12_moves 101 = .ok (.iconst 0, 1) := by decide +kernel
theorem dX12_moves_102 : decode cX12_moves 102 = .ok (.istore 10, 2) := by decide +kernel
theorem dX12_moves_104 : decode cX12_moves 104 = .ok (.iload 9, 2) := by decide +kernel
theorem dX12_moves_106 : decode cX12_moves 106 = .ok (.iload 10, 2) := by decide +kernel
theorem dX12_moves_108 : decode cX12_moves 108 = .ok (.iadd, 1) := by decide +kernel
theorem dX12_moves_109 : decode cX12_moves 109 = .ok (.iconst 4, 1) := by decide +kernel
theorem dX12_moves_110 : decode cX12_moves 110 = .ok (.if_icmp .gt 156, 3) := by decide +kernel
theorem dX12_moves_113 : decode cX12_moves 113 = .ok (.aload_n 0, 1) := by decide +kernel
theorem dX12_moves_114 : decode cX12_moves 114 = .ok (.iload_n 1, 1) := by decide +kernel
theorem dX12_moves_115 : decode cX12_moves 115 = .ok (.iload 9, 2) := by decide +kernel
theorem dX12_moves_117 : decode cX12_moves 117 = .ok (.iload 10, 2) := by decide +kernel
theorem dX12_moves_119 : decode cX12_moves 119 = .ok (.invokevirtual 184, 3) := by decide +kernel
theorem dX12_moves_122 : decode cX12_moves 122 = .ok (.ifCond .ne 6, 3) := by decide +kernel
theorem dX12_moves_125 : decode cX12_moves 125 = .ok (.goto 135, 3) := by decide +kernel
theorem dX12_moves_128 : decode cX12_moves 128 = .ok (.aload_n 0, 1) := by decide +kernel
theorem dX12_moves_129 : decode cX12_moves 129 = .ok (.sipush 141, 3) := by decide +kernel
theorem dX12_moves_132 : decode cX12_moves 132 = .ok (.invokevirtual 192, 3) := by decide +kernel
theorem dX12_moves_135 : decode cX12_moves 135 = .ok (.aload_n 0, 1) := by decide +kernel
theorem dX12_moves_136 : decode cX12_moves 136 = .ok (.sipush 141, 3) := by decide +kernel
theorem dX12_moves_139 : decode cX12_moves 139 = .ok (.iconst 0, 1) := by decide +kernel
theorem dX12_moves_140 : decode cX12_moves 140 = .ok (.iconst 0, 1) := by decide +kernel
theorem dX12_moves_141 : decode cX12_moves 141 = .ok (.aload_n 0, 1) := by decide +kernel
theorem dX12_moves_142 : decode cX12_moves 142 = .ok (.iload_n 1, 1) := by decide +kernel
theorem dX12_moves_143 : decode cX12_moves 143 = .ok (.iload 9, 2) := by decide +kernel
theorem dX12_moves_145 : decode cX12_moves 145 = .ok (.iload 10, 2) := by decide +kernel
theorem dX12_moves_147 : decode cX12_moves 147 = .ok (.invokevirtual 184, 3) := by decide +kernel
theorem dX12_moves_150 : decode cX12_moves 150 = .ok (.i2l, 1) := by decide +kernel
theorem dX12_moves_151 : decode cX12_moves 151 = .ok (.invokevirtual 188, 3) := by decide +kernel
theorem dX12_moves_154 : decode cX12_moves 154 = .ok (.iconst 1, 1) := by decide +kernel
theorem dX12_moves_155 : decode cX12_moves 155 = .ok (.istore 11, 2) := by decide +kernel
theorem dX12_moves_157 : decode cX12_moves 157 = .ok (.iconst 0, 1) := by decide +kernel
theorem dX12_moves_158 : decode cX12_moves 158 = .ok (.istore 12, 2) := by decide +kernel
theorem dX12_moves_160 : decode cX12_moves 160 = .ok (.iload 12, 2) := by decide +kernel
theorem dX12_moves_162 : decode cX12_moves 162 = .ok (.iload 9, 2) := by decide +kernel
theorem dX12_moves_164 : decode cX12_moves 164 = .ok (.if_icmp .ge 36, 3) := by decide +kernel
theorem dX12_moves_167 : decode cX12_moves 167 = .ok (.aload_n 0, 1) := by decide +kernel
theorem dX12_moves_168 : decode cX12_moves 168 = .ok (.sipush 141, 3) := by decide +kernel
theorem dX12_moves_171 : decode cX12_moves 171 = .ok (.sipush 141, 3) := by decide +kernel
theorem dX12_moves_174 : decode cX12_moves 174 = .ok (.iload 8, 2) := by decide +kernel
theorem dX12_moves_176 : decode cX12_moves 176 = .ok (.invokevirtual 220, 3) := by decide +kernel
theorem dX12_moves_179 : decode cX12_moves 179 = .ok (.ifCond .eq 12, 3) := by decide +kernel
theorem dX12_moves_182 : decode cX12_moves 182 = .ok (.iload 11, 2) := by decide +kernel
theorem dX12_moves_184 : decode cX12_moves 184 = .ok (.ifCond .eq 7, 3) := by decide +kernel
theorem dX12_moves_187 : decode cX12_moves 187 = .ok (.iconst 1, 1) := by decide +kernel
theorem dX12_moves_188 : decode cX12_moves 188 = .ok (.goto 4, 3) := by decide +kernel
theorem dX12_moves_191 : decode cX12_moves 191 = .ok (.iconst 0, 1) := by decide +kernel
theorem dX12_moves_192 : decode cX12_moves 192 = .ok (.istore 11, 2) := by decide +kernel
theorem dX12_moves_194 : decode cX12_moves 194 = .ok (.iinc 12 1, 3) := by decide +kernel
theorem dX12_moves_197 : decode cX12_moves 197 = .ok (.goto (-37), 3) := by decide +kernel
theorem dX12_moves_200 : decode cX12_moves 200 = .ok (.iconst 0, 1) := by decide +kernel
theorem dX12_moves_201 : decode cX12_moves 201 = .ok (.istore 12, 2) := by decide +kernel
theorem dX12_moves_203 : decode cX12_moves 203 = .ok (.iload 12, 2) := by decide +kernel
theorem dX12_moves_205 : decode cX12_moves 205 = .ok (.iload 10, 2) := by decide +kernel
theorem dX12_moves_207 : decode cX12_moves 207 = .ok (.if_icmp .ge 37, 3) := by decide +kernel
theorem dX12_moves_210 : decode cX12_moves 210 = .ok (.aload_n 0, 1) := by decide +kernel
theorem dX12_moves_211 : decode cX12_moves 211 = .ok (.sipush 141, 3) := by decide +kernel
theorem dX12_moves_214 : decode cX12_moves 214 = .ok (.sipush 141, 3) := by decide +kernel
theorem dX12_moves_217 : decode cX12_moves 217 = .ok (.sipush 142, 3) := by decide +kernel
theorem dX12_moves_220 : decode cX12_moves 220 = .ok (.invokevirtual 220, 3) := by decide +kernel
theorem dX12_moves_223 : decode cX12_moves 223 = .ok (.ifCond .eq 12, 3) := by decide +kernel
theorem dX12_moves_226 : decode cX12_moves 226 = .ok (.iload 11, 2) := by decide +kernel
theorem dX12_moves_228 : decode cX12_moves 228 = .ok (.ifCond .eq 7, 3) := by decide +kernel
theorem dX12_moves_231 : decode cX12_moves 231 = .ok (.iconst 1, 1) := by decide +kernel
theorem dX12_moves_232 : decode cX12_moves 232 = .ok (.goto 4, 3) := by decide +kernel
theorem dX12_moves_235 : decode cX12_moves 235 = .ok (.iconst 0, 1) := by decide +kernel
theorem dX12_moves_236 : decode cX12_moves 236 = .ok (.istore 11, 2) := by decide +kernel
theorem dX12_moves_238 : decode cX12_moves 238 = .ok (.iinc 12 1, 3) := by decide +kernel
theorem dX12_moves_241 : decode cX12_moves 241 = .ok (.goto (-38), 3) := by decide +kernel
theorem dX12_moves_244 : decode cX12_moves 244 = .ok (.iload 11, 2) := by decide +kernel
theorem dX12_moves_246 : decode cX12_moves 246 = .ok (.ifCond .eq 14, 3) := by decide +kernel
theorem dX12_moves_249 : decode cX12_moves 249 = .ok (.aload_n 0, 1) := by decide +kernel
theorem dX12_moves_250 : decode cX12_moves 250 = .ok (.sipush 144, 3) := by decide +kernel
theorem dX12_moves_253 : decode cX12_moves 253 = .ok (.sipush 141, 3) := by decide +kernel
theorem dX12_moves_256 : decode cX12_moves 256 = .ok (.lconst 1, 1) := by decide +kernel
theorem dX12_moves_257 : decode cX12_moves 257 = .ok (.invokevirtual 207, 3) := by decide +kernel
theorem dX12_moves_260 : decode cX12_moves 260 = .ok (.iinc 10 1, 3) := by decide +kernel
theorem dX12_moves_263 : decode cX12_moves 263 = .ok (.goto (-159), 3) := by decide +kernel
theorem dX12_moves_266 : decode cX12_moves 266 = .ok (.iinc 9 1, 3) := by decide +kernel
theorem dX12_moves_269 : decode cX12_moves 269 = .ok (.goto (-174), 3) := by decide +kernel
theorem dX12_moves_272 : decode cX12_moves 272 = .ok (.aload_n 0, 1) := by decide +kernel
theorem dX12_moves_273 : decode cX12_moves 273 = .ok (.iload_n 1, 1) := by decide +kernel
theorem dX12_moves_274 : decode cX12_moves 274 = .ok (.sipush 144, 3) := by decide +kernel
theorem dX12_moves_277 : decode cX12_moves 277 = .ok (.invokevirtual 236, 3) := by decide +kernel
theorem dX12_moves_280 : decode cX12_moves 280 = .ok (.return_, 1) := by decide +kernel
theorem dX12_move_0 : decode cX12_move 0 = .ok (.aload_n 0, 1) := by decide +kernel
theorem dX12_move_1 : decode cX12_move 1 = .ok (.iload_n 1, 1) := by decide +kernel
theorem dX12_move_2 : decode cX12_move 2 = .ok (.iload_n 2, 1) := by decide +kernel
theorem dX12_move_3 : decode cX12_move 3 = .ok (.iload 4, 2) := by decide +kernel
theorem dX12_move_5 : decode cX12_move 5 = .ok (.iload 5, 2) := by decide +kernel
theorem dX12_move_7 : decode cX12_move 7 = .ok (.invokevirtual 430, 3) := by decide +kernel
theorem dX12_move_10 : decode cX12_move 10 = .ok (.ifCond .ne 9, 3) := by decide +kernel
theorem dX12_move_13 : decode cX12_move 13 = .ok (.aload_n 0, 1) := by decide +kernel
theorem dX12_move_14 : decode cX12_move 14 = .ok (.iconst 2, 1) := by decide +kernel
theorem dX12_move_15 : decode cX12_move 15 = .ok (.invokevirtual 132, 3) := by decide +kernel
theorem dX12_move_18 : decode cX12_move 18 = .ok (.ireturn, 1) := by decide +kernel
theorem dX12_move_19 : decode cX12_move 19 = .ok (.aload_n 0, 1) := by decide +kernel
theorem dX12_move_20 : decode cX12_move 20 = .ok (.invokevirtual 434, 3) := by decide +kernel
theorem dX12_move_23 : decode cX12_move 23 = .ok (.iconst 0, 1) := by decide +kernel
theorem dX12_move_24 : decode cX12_move 24 = .ok (.istore 7, 2) := by decide +kernel
theorem dX12_move_26 : decode cX12_move 26 = .ok (.iload 7, 2) := by decide +kernel
theorem dX12_move_28 : decode cX12_move 28 = .ok (.aload_n 0, 1) := by decide +kernel
theorem dX12_move_29 : decode cX12_move 29 = .ok (.getfield 51, 3) := by decide +kernel
theorem dX12_move_32 : decode cX12_move 32 = .ok (.if_icmp .ge 24, 3) := by decide +kernel
theorem dX12_move_35 : decode cX12_move 35 = .ok (.aload_n 0, 1) := by decide +kernel
theorem dX12_move_36 : decode cX12_move 36 = .ok (.iload 7, 2) := by decide +kernel
theorem dX12_move_38 : decode cX12_move 38 = .ok (.iload_n 1, 1) := by decide +kernel
theorem dX12_move_39 : decode cX12_move 39 = .ok (.iload_n 2, 1) := by decide +kernel
theorem dX12_move_40 : decode cX12_move 40 = .ok (.iload_n 3, 1) := by decide +kernel
theorem dX12_move_41 : decode cX12_move 41 = .ok (.iload 4, 2) := by decide +kernel
theorem dX12_move_43 : decode cX12_move 43 = .ok (.iload 5, 2) := by decide +kernel
theorem dX12_move_45 : decode cX12_move 45 = .ok (.iload 6, 2) := by decide +kernel
theorem dX12_move_47 : decode cX12_move 47 = .ok (.invokevirtual 437, 3) := by decide +kernel
theorem dX12_move_50 : decode cX12_move 50 = .ok (.iinc 7 1, 3) := by decide +kernel
theorem dX12_move_53 : decode cX12_move 53 = .ok (.goto (-27), 3) := by decide +kernel
theorem dX12_move_56 : decode cX12_move 56 = .ok (.iconst 1, 1) := by decide +kernel
theorem dX12_move_57 : decode cX12_move 57 = .ok (.ireturn, 1) := by decide +kernel
theorem dX12_moved_0 : decode cX12_moved 0 = .ok (.aload_n 0, 1) := by decide +kernel
theorem dX12_moved_1 : decode cX12_moved 1 = .ok (.iload_n 1, 1) := by decide +kernel
theorem dX12_moved_2 : decode cX12_moved 2 = .ok (.invokevirtual 296, 3) := by decide +kernel
theorem dX12_moved_5 : decode cX12_moved 5 = .ok (.ifCond .eq 16, 3) := by decide +kernel
theorem dX12_moved_8 : decode cX12_moved 8 = .ok (.aload_n 0, 1) := by decide +kernel
theorem dX12_moved_9 : decode cX12_moved 9 = .ok (.iload_n 2, 1) := by decide +kernel
theorem dX12_moved_10 : decode cX12_moved 10 = .ok (.iload_n 3, 1) := by decide +kernel
theorem dX12_moved_11 : decode cX12_moved 11 = .ok (.iload 5, 2) := by decide +kernel
theorem dX12_moved_13 : decode cX12_moved 13 = .ok (.iload 6, 2) := by decide +kernel
theorem dX12_moved_15 : decode cX12_moved 15 = .ok (.invokevirtual 430, 3) := by decide +kernel
theorem dX12_moved_18 : decode cX12_moved 18 = .ok (.ifCond .ne 5, 3) := by decide +kernel
theorem dX12_moved_21 : decode cX12_moved 21 = .ok (.iconst (-1), 1) := by decide +kernel
theorem dX12_moved_22 : decode cX12_moved 22 = .ok (.ireturn, 1) := by decide +kernel
theorem dX12_moved_23 : decode cX12_moved 23 = .ok (.aload_n 0, 1) := by decide +kernel
theorem dX12_moved_24 : decode cX12_moved 24 = .ok (.aload_n 0, 1) := by decide +kernel
theorem dX12_moved_25 : decode cX12_moved 25 = .ok (.iload_n 2, 1) := by decide +kernel
theorem dX12_moved_26 : decode cX12_moved 26 = .ok (.i2l, 1) := by decide +kernel
theorem dX12_moved_27 : decode cX12_moved 27 = .ok (.iload 6, 2) := by decide +kernel
theorem dX12_moved_29 : decode cX12_moved 29 = .ok (.i2l, 1) := by decide +kernel
theorem dX12_moved_30 : decode cX12_moved 30 = .ok (.lmul, 1) := by decide +kernel
theorem dX12_moved_31 : decode cX12_moved 31 = .ok (.iload_n 3, 1) := by decide +kernel
theorem dX12_moved_32 : decode cX12_moved 32 = .ok (.i2l, 1) := by decide +kernel
theorem dX12_moved_33 : decode cX12_moved 33 = .ok (.iload 5, 2) := by decide +kernel
theorem dX12_moved_35 : decode cX12_moved 35 = .ok (.i2l, 1) := by decide +kernel
theorem dX12_moved_36 : decode cX12_moved 36 = .ok (.lmul, 1) := by decide +kernel
theorem dX12_moved_37 : decode cX12_moved 37 = .ok (.lsub, 1) := by decide +kernel
theorem dX12_moved_38 : decode cX12_moved 38 = .ok (.invokevirtual 176, 3) := by decide +kernel
theorem dX12_moved_41 : decode cX12_moved 41 = .ok (.invokevirtual 328, 3) := by decide +kernel
theorem dX12_moved_44 : decode cX12_moved 44 = .ok (.istore 8, 2) := by decide +kernel
theorem dX12_moved_46 : decode cX12_moved 46 = .ok (.aload_n 0, 1) := by decide +kernel
theorem dX12_moved_47 : decode cX12_moved 47 = .ok (.iload_n 1, 1) := by decide +kernel
theorem dX12_moved_48 : decode cX12_moved 48 = .ok (.invokevirtual 280, 3) := by decide +kernel
theorem dX12_moved_51 : decode cX12_moved 51 = .ok (.i2l, 1) := by decide +kernel
theorem dX12_moved_52 : decode cX12_moved 52 = .ok (.aload_n 0, 1) := by decide +kernel
theorem dX12_moved_53 : decode cX12_moved 53 = .ok (.iload_n 1, 1) := by decide +kernel
theorem dX12_moved_54 : decode cX12_moved 54 = .ok (.invokevirtual 277, 3) := by decide +kernel
theorem dX12_moved_57 : decode cX12_moved 57 = .ok (.ifCond .eq 9, 3) := by decide +kernel
theorem dX12_moved_60 : decode cX12_moved 60 = .ok (.iload 4, 2) := by decide +kernel
theorem dX12_moved_62 : decode cX12_moved 62 = .ok (.i2l, 1) := by decide +kernel
theorem dX12_moved_63 : decode cX12_moved 63 = .ok (.goto 4, 3) := by decide +kernel
theorem dX12_moved_66 : decode cX12_moved 66 = .ok (.lconst 0, 1) := by decide +kernel
theorem dX12_moved_67 : decode cX12_moved 67 = .ok (.lsub, 1) := by decide +kernel
theorem dX12_moved_68 : decode cX12_moved 68 = .ok (.lstore 9, 2) := by decide +kernel
theorem dX12_moved_70 : decode cX12_moved 70 = .ok (.aload_n 0, 1) := by decide +kernel
theorem dX12_moved_71 : decode cX12_moved 71 = .ok (.iload_n 1, 1) := by decide +kernel
theorem dX12_moved_72 : decode cX12_moved 72 = .ok (.invokevirtual 283, 3) := by decide +kernel
theorem dX12_moved_75 : decode cX12_moved 75 = .ok (.i2l, 1) := by decide +kernel
theorem dX12_moved_76 : decode cX12_moved 76 = .ok (.aload_n 0, 1) := by decide +kernel
theorem dX12_moved_77 : decode cX12_moved 77 = .ok (.iload_n 1, 1) := by decide +kernel
theorem dX12_moved_78 : decode cX12_moved 78 = .ok (.invokevirtual 277, 3) := by decide +kernel
theorem dX12_moved_81 : decode cX12_moved 81 = .ok (.ifCond .eq 9, 3) := by decide +kernel
theorem dX12_moved_84 : decode cX12_moved 84 = .ok (.iload 7, 2) := by decide +kernel
theorem dX12_moved_86 : decode cX12_moved 86 = .ok (.i2l, 1) := by decide +kernel
theorem dX12_moved_87 : decode cX12_moved 87 = .ok (.goto 4, 3) := by decide +kernel
theorem dX12_moved_90 : decode cX12_moved 90 = .ok (.lconst 0, 1) := by decide +kernel
theorem dX12_moved_91 : decode cX12_moved 91 = .ok (.lsub, 1) := by decide +kernel
theorem dX12_moved_92 : decode cX12_moved 92 = .ok (.lstore 11, 2) := by decide +kernel
theorem dX12_moved_94 : decode cX12_moved 94 = .ok (.aload_n 0, 1) := by decide +kernel
theorem dX12_moved_95 : decode cX12_moved 95 = .ok (.aload_n 0, 1) := by decide +kernel
theorem dX12_moved_96 : decode cX12_moved 96 = .ok (.aload_n 0, 1) := by decide +kernel
theorem dX12_moved_97 : decode cX12_moved 97 = .ok (.lload 9, 2) := by decide +kernel
theorem dX12_moved_99 : decode cX12_moved 99 = .ok (.invokevirtual 176, 3) := by decide +kernel
theorem dX12_moved_102 : decode cX12_moved 102 = .ok (.i2l, 1) := by decide +kernel
theorem dX12_moved_103 : decode cX12_moved 103 = .ok (.aload_n 0, 1) := by decide +kernel
theorem dX12_moved_104 : decode cX12_moved 104 = .ok (.iload 6, 2) := by decide +kernel
theorem dX12_moved_106 : decode cX12_moved 106 = .ok (.i2l, 1) := by decide +kernel
theorem dX12_moved_107 : decode cX12_moved 107 = .ok (.invokevirtual 176, 3) := by decide +kernel
theorem dX12_moved_110 : decode cX12_moved 110 = .ok (.i2l, 1) := by decide +kernel
theorem dX12_moved_111 : decode cX12_moved 111 = .ok (.lmul, 1) := by decide +kernel
theorem dX12_moved_112 : decode cX12_moved 112 = .ok (.aload_n 0, 1) := by decide +kernel
theorem dX12_moved_113 : decode cX12_moved 113 = .ok (.lload 11, 2) := by decide +kernel
theorem dX12_moved_115 : decode cX12_moved 115 = .ok (.invokevirtual 176, 3) := by decide +kernel
theorem dX12_moved_118 : decode cX12_moved 118 = .ok (.i2l, 1) := by decide +kernel
theorem dX12_moved_119 : decode cX12_moved 119 = .ok (.aload_n 0, 1) := by decide +kernel
theorem dX12_moved_120 : decode cX12_moved 120 = .ok (.iload_n 3, 1) := by decide +kernel
theorem dX12_moved_121 : decode cX12_moved 121 = .ok (.i2l, 1) := by decide +kernel
theorem dX12_moved_122 : decode cX12_moved 122 = .ok (.invokevirtual 176, 3) := by decide +kernel
theorem dX12_moved_125 : decode cX12_moved 125 = .ok (.i2l, 1) := by decide +kernel
theorem dX12_moved_126 : decode cX12_moved 126 = .ok (.lmul, 1) := by decide +kernel
theorem dX12_moved_127 : decode cX12_moved 127 = .ok (.lsub, 1) := by decide +kernel
theorem dX12_moved_128 : decode cX12_moved 128 = .ok (.invokevirtual 176, 3) := by decide +kernel
theorem dX12_moved_131 : decode cX12_moved 131 = .ok (.i2l, 1) := by decide +kernel
theorem dX12_moved_132 : decode cX12_moved 132 = .ok (.iload 8, 2) := by decide +kernel
theorem dX12_moved_134 : decode cX12_moved 134 = .ok (.i2l, 1) := by decide +kernel
theorem dX12_moved_135 : decode cX12_moved 135 = .ok (.lmul, 1) := by decide +kernel
theorem dX12_moved_136 : decode cX12_moved 136 = .ok (.invokevirtual 176, 3) := by decide +kernel
theorem dX12_moved_139 : decode cX12_moved 139 = .ok (.istore 13, 2) := by decide +kernel
theorem dX12_moved_141 : decode cX12_moved 141 = .ok (.aload_n 0, 1) := by decide +kernel
theorem dX12_moved_142 : decode cX12_moved 142 = .ok (.aload_n 0, 1) := by decide +kernel
theorem dX12_moved_143 : decode cX12_moved 143 = .ok (.aload_n 0, 1) := by decide +kernel
theorem dX12_moved_144 : decode cX12_moved 144 = .ok (.lload 11, 2) := by decide +kernel
theorem dX12_moved_146 : decode cX12_moved 146 = .ok (.invokevirtual 176, 3) := by decide +kernel
theorem dX12_moved_149 : decode cX12_moved 149 = .ok (.i2l, 1) := by decide +kernel
theorem dX12_moved_150 : decode cX12_moved 150 = .ok (.aload_n 0, 1) := by decide +kernel
theorem dX12_moved_151 : decode cX12_moved 151 = .ok (.iload_n 2, 1) := by decide +kernel
theorem dX12_moved_152 : decode cX12_moved 152 = .ok (.i2l, 1) := by decide +kernel
theorem dX12_moved_153 : decode cX12_moved 153 = .ok (.invokevirtual 176, 3) := by decide +kernel
theorem dX12_moved_156 : decode cX12_moved 156 = .ok (.i2l, 1) := by decide +kernel
theorem dX12_moved_157 : decode cX12_moved 157 = .ok (.lmul, 1) := by decide +kernel
theorem dX12_moved_158 : decode cX12_moved 158 = .ok (.aload_n 0, 1) := by decide +kernel
theorem dX12_moved_159 : decode cX12_moved 159 = .ok (.lload 9, 2) := by decide +kernel
theorem dX12_moved_161 : decode cX12_moved 161 = .ok (.invokevirtual 176, 3) := by decide +kernel
theorem dX12_moved_164 : decode cX12_moved 164 = .ok (.i2l, 1) := by decide +kernel
theorem dX12_moved_165 : decode cX12_moved 165 = .ok (.aload_n 0, 1) := by decide +kernel
theorem dX12_moved_166 : decode cX12_moved 166 = .ok (.iload 5, 2) := by decide +kernel
theorem dX12_moved_168 : decode cX12_moved 168 = .ok (.i2l, 1) := by decide +kernel
theorem dX12_moved_169 : decode cX12_moved 169 = .ok (.invokevirtual 176, 3) := by decide +kernel
theorem dX12_moved_172 : decode cX12_moved 172 = .ok (.i2l, 1) := by decide +kernel
theorem dX12_moved_173 : decode cX12_moved 173 = .ok (.lmul, 1) := by decide +kernel
theorem dX12_moved_174 : decode cX12_moved 174 = .ok (.lsub, 1) := by decide +kernel
theorem dX12_moved_175 : decode cX12_moved 175 = .ok (.invokevirtual 176, 3) := by decide +kernel
theorem dX12_moved_178 : decode cX12_moved 178 = .ok (.i2l, 1) := by decide +kernel
theorem dX12_moved_179 : decode cX12_moved 179 = .ok (.iload 8, 2) := by decide +kernel
theorem dX12_moved_181 : decode cX12_moved 181 = .ok (.i2l, 1) := by decide +kernel
theorem dX12_moved_182 : decode cX12_moved 182 = .ok (.lmul, 1) := by decide +kernel
theorem dX12_moved_183 : decode cX12_moved 183 = .ok (.invokevirtual 176, 3) := by decide +kernel
theorem dX12_moved_186 : decode cX12_moved 186 = .ok (.istore 14, 2) := by decide +kernel
theorem dX12_moved_188 : decode cX12_moved 188 = .ok (.aload_n 0, 1) := by decide +kernel
theorem dX12_moved_189 : decode cX12_moved 189 = .ok (.iload_n 1, 1) := by decide +kernel
theorem dX12_moved_190 : decode cX12_moved 190 = .ok (.invokevirtual 277, 3) := by decide +kernel
theorem dX12_moved_193 : decode cX12_moved 193 = .ok (.ifCond .eq 14, 3) := by decide +kernel
theorem dX12_moved_196 : decode cX12_moved 196 = .ok (.aload_n 0, 1) := by decide +kernel
theorem dX12_moved_197 : decode cX12_moved 197 = .ok (.getfield 41, 3) := by decide +kernel
