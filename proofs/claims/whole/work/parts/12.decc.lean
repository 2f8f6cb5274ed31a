theorem dX0_init_0 : decode cX0_init 0 = .ok (.aload_n 0, 1) := by decide +kernel
theorem dX0_init_1 : decode cX0_init 1 = .ok (.invokespecial 3, 3) := by decide +kernel
theorem dX0_init_4 : decode cX0_init 4 = .ok (.aload_n 0, 1) := by decide +kernel
theorem dX0_init_5 : decode cX0_init 5 = .ok (.iconst 3, 1) := by decide +kernel
theorem dX0_init_6 : decode cX0_init 6 = .ok (.newarray .long, 2) := by decide +kernel
theorem dX0_init_8 : decode cX0_init 8 = .ok (.putfield 11, 3) := by decide +kernel
theorem dX0_init_11 : decode cX0_init 11 = .ok (.aload_n 0, 1) := by decide +kernel
theorem dX0_init_12 : decode cX0_init 12 = .ok (.bipush 9, 2) := by decide +kernel
theorem dX0_init_14 : decode cX0_init 14 = .ok (.newarray .long, 2) := by decide +kernel
theorem dX0_init_16 : decode cX0_init 16 = .ok (.putfield 15, 3) := by decide +kernel
theorem dX0_init_19 : decode cX0_init 19 = .ok (.aload_n 0, 1) := by decide +kernel
theorem dX0_init_20 : decode cX0_init 20 = .ok (.aload_n 1, 1) := by decide +kernel
theorem dX0_init_21 : decode cX0_init 21 = .ok (.putfield 18, 3) := by decide +kernel
theorem dX0_init_24 : decode cX0_init 24 = .ok (.aload_n 0, 1) := by decide +kernel
theorem dX0_init_25 : decode cX0_init 25 = .ok (.aload_n 2, 1) := by decide +kernel
theorem dX0_init_26 : decode cX0_init 26 = .ok (.putfield 22, 3) := by decide +kernel
theorem dX0_init_29 : decode cX0_init 29 = .ok (.aload_n 0, 1) := by decide +kernel
theorem dX0_init_30 : decode cX0_init 30 = .ok (.aload_n 3, 1) := by decide +kernel
theorem dX0_init_31 : decode cX0_init 31 = .ok (.putfield 26, 3) := by decide +kernel
theorem dX0_init_34 : decode cX0_init 34 = .ok (.return_, 1) := by decide +kernel
theorem dX0_total_0 : decode cX0_total 0 = .ok (.iload_n 3, 1) := by decide +kernel
theorem dX0_total_1 : decode cX0_total 1 = .ok (.iconst 1, 1) := by decide +kernel
theorem dX0_total_2 : decode cX0_total 2 = .ok (.sipush 255, 3) := by decide +kernel
theorem dX0_total_5 : decode cX0_total 5 = .ok (.invokestatic 30, 3) := by decide +kernel
theorem dX0_total_8 : decode cX0_total 8 = .ok (.ifCond .eq 19, 3) := by decide +kernel
theorem dX0_total_11 : decode cX0_total 11 = .ok (.iload 4, 2) := by decide +kernel
theorem dX0_total_13 : decode cX0_total 13 = .ok (.iconst 1, 1) := by decide +kernel
theorem dX0_total_14 : decode cX0_total 14 = .ok (.sipush 4095, 3) := by decide +kernel
theorem dX0_total_17 : decode cX0_total 17 = .ok (.invokestatic 30, 3) := by decide +kernel
theorem dX0_total_20 : decode cX0_total 20 = .ok (.ifCond .eq 7, 3) := by decide +kernel
theorem dX0_total_23 : decode cX0_total 23 = .ok (.iconst 1, 1) := by decide +kernel
theorem dX0_total_24 : decode cX0_total 24 = .ok (.goto 4, 3) := by decide +kernel
theorem dX0_total_27 : decode cX0_total 27 = .ok (.iconst 0, 1) := by decide +kernel
theorem dX0_total_28 : decode cX0_total 28 = .ok (.istore 5, 2) := by decide +kernel
theorem dX0_total_30 : decode cX0_total 30 = .ok (.iload_n 1, 1) := by decide +kernel
theorem dX0_total_31 : decode cX0_total 31 = .ok (.invokestatic 34, 3) := by decide +kernel
theorem dX0_total_34 : decode cX0_total 34 = .ok (.ifCond .eq 19, 3) := by decide +kernel
theorem dX0_total_37 : decode cX0_total 37 = .ok (.aload_n 0, 1) := by decide +kernel
theorem dX0_total_38 : decode cX0_total 38 = .ok (.getfield 18, 3) := by decide +kernel
theorem dX0_total_41 : decode cX0_total 41 = .ok (.iload_n 2, 1) := by decide +kernel
theorem dX0_total_42 : decode cX0_total 42 = .ok (.invokevirtual 38, 3) := by decide +kernel
theorem dX0_total_45 : decode cX0_total 45 = .ok (.ifCond .eq 8, 3) := by decide +kernel
theorem dX0_total_48 : decode cX0_total 48 = .ok (.iload 5, 2) := by decide +kernel
theorem dX0_total_50 : decode cX0_total 50 = .ok (.ifCond .ne 5, 3) := by decide +kernel
theorem dX0_total_53 : decode cX0_total 53 = .ok (.iconst (-1), 1) := by decide +kernel
theorem dX0_total_54 : decode cX0_total 54 = .ok (.ireturn, 1) := by decide +kernel
theorem dX0_total_55 : decode cX0_total 55 = .ok (.iconst 0, 1) := by decide +kernel
theorem dX0_total_56 : decode cX0_total 56 = .ok (.istore 6, 2) := by decide +kernel
theorem dX0_total_58 : decode cX0_total 58 = .ok (.iconst 0, 1) := by decide +kernel
theorem dX0_total_59 : decode cX0_total 59 = .ok (.istore 7, 2) := by decide +kernel
theorem dX0_total_61 : decode cX0_total 61 = .ok (.iconst 0, 1) := by decide +kernel
theorem dX0_total_62 : decode cX0_total 62 = .ok (.istore 8, 2) := by decide +kernel
theorem dX0_total_64 : decode cX0_total 64 = .ok (.iload 8, 2) := by decide +kernel
theorem dX0_total_66 : decode cX0_total 66 = .ok (.aload_n 0, 1) := by decide +kernel
theorem dX0_total_67 : decode cX0_total 67 = .ok (.getfield 18, 3) := by decide +kernel
theorem dX0_total_70 : decode cX0_total 70 = .ok (.invokevirtual 43, 3) := by decide +kernel
theorem dX0_total_73 : decode cX0_total 73 = .ok (.if_icmp .ge 79, 3) := by decide +kernel
theorem dX0_total_76 : decode cX0_total 76 = .ok (.iload_n 3, 1) := by decide +kernel
theorem dX0_total_77 : decode cX0_total 77 = .ok (.iload 8, 2) := by decide +kernel
theorem dX0_total_79 : decode cX0_total 79 = .ok (.bipush 12, 2) := by decide +kernel
theorem dX0_total_81 : decode cX0_total 81 = .ok (.idiv, 1) := by decide +kernel
theorem dX0_total_82 : decode cX0_total 82 = .ok (.invokestatic 47, 3) := by decide +kernel
theorem dX0_total_85 : decode cX0_total 85 = .ok (.ifCond .eq 20, 3) := by decide +kernel
theorem dX0_total_88 : decode cX0_total 88 = .ok (.iload 4, 2) := by decide +kernel
theorem dX0_total_90 : decode cX0_total 90 = .ok (.iload 8, 2) := by decide +kernel
theorem dX0_total_92 : decode cX0_total 92 = .ok (.bipush 12, 2) := by decide +kernel
theorem dX0_total_94 : decode cX0_total 94 = .ok (.irem, 1) := by decide +kernel
theorem dX0_total_95 : decode cX0_total 95 = .ok (.invokestatic 47, 3) := by decide +kernel
theorem dX0_total_98 : decode cX0_total 98 = .ok (.ifCond .eq 7, 3) := by decide +kernel
theorem dX0_total_101 : decode cX0_total 101 = .ok (.iconst 1, 1) := by decide +kernel
theorem dX0_total_102 : decode cX0_total 102 = .ok (.goto 4, 3) := by decide +kernel
theorem dX0_total_105 : decode cX0_total 105 = .ok (.iconst 0, 1) := by decide +kernel
theorem dX0_total_106 : decode cX0_total 106 = .ok (.istore 9, 2) := by decide +kernel
theorem dX0_total_108 : decode cX0_total 108 = .ok (.iload 9, 2) := by decide +kernel
theorem dX0_total_110 : decode cX0_total 110 = .ok (.ifCond .eq 36, 3) := by decide +kernel
theorem dX0_total_113 : decode cX0_total 113 = .ok (.aload_n 0, 1) := by decide +kernel
theorem dX0_total_114 : decode cX0_total 114 = .ok (.getfield 22, 3) := by decide +kernel
theorem dX0_total_117 : decode cX0_total 117 = .ok (.iload_n 1, 1) := by decide +kernel
theorem dX0_total_118 : decode cX0_total 118 = .ok (.iload 8, 2) := by decide +kernel
theorem dX0_total_120 : decode cX0_total 120 = .ok (.iload_n 2, 1) := by decide +kernel
theorem dX0_total_121 : decode cX0_total 121 = .ok (.invokevirtual 51, 3) := by decide +kernel
theorem dX0_total_124 : decode cX0_total 124 = .ok (.ifCond .eq 22, 3) := by decide +kernel
theorem dX0_total_127 : decode cX0_total 127 = .ok (.iload 6, 2) := by decide +kernel
theorem dX0_total_129 : decode cX0_total 129 = .ok (.aload_n 0, 1) := by decide +kernel
theorem dX0_total_130 : decode cX0_total 130 = .ok (.getfield 22, 3) := by decide +kernel
theorem dX0_total_133 : decode cX0_total 133 = .ok (.iload_n 1, 1) := by decide +kernel
theorem dX0_total_134 : decode cX0_total 134 = .ok (.iload 8, 2) := by decide +kernel
theorem dX0_total_136 : decode cX0_total 136 = .ok (.iload_n 2, 1) := by decide +kernel
theorem dX0_total_137 : decode cX0_total 137 = .ok (.invokevirtual 56, 3) := by decide +kernel
theorem dX0_total_140 : decode cX0_total 140 = .ok (.iadd, 1) := by decide +kernel
theorem dX0_total_141 : decode cX0_total 141 = .ok (.istore 6, 2) := by decide +kernel
theorem dX0_total_143 : decode cX0_total 143 = .ok (.iinc 7 1, 3) := by decide +kernel
theorem dX0_total_146 : decode cX0_total 146 = .ok (.iinc 8 1, 3) := by decide +kernel
theorem dX0_total_149 : decode cX0_total 149 = .ok (.goto (-85), 3) := by decide +kernel
theorem dX0_total_152 : decode cX0_total 152 = .ok (.aload_n 0, 1) := by decide +kernel
theorem dX0_total_153 : decode cX0_total 153 = .ok (.getfield 26, 3) := by decide +kernel
theorem dX0_total_156 : decode cX0_total 156 = .ok (.invokevirtual 60, 3) := by decide +kernel
theorem dX0_total_159 : decode cX0_total 159 = .ok (.iload 7, 2) := by decide +kernel
theorem dX0_total_161 : decode cX0_total 161 = .ok (.i2l, 1) := by decide +kernel
theorem dX0_total_162 : decode cX0_total 162 = .ok (.invokevirtual 66, 3) := by decide +kernel
theorem dX0_total_165 : decode cX0_total 165 = .ok (.pop, 1) := by decide +kernel
theorem dX0_total_166 : decode cX0_total 166 = .ok (.iload 6, 2) := by decide +kernel
theorem dX0_total_168 : decode cX0_total 168 = .ok (.ireturn, 1) := by decide +kernel
theorem dX0_eatenInCell_0 : decode cX0_eatenInCell 0 = .ok (.aload_n 0, 1) := by decide +kernel
theorem dX0_eatenInCell_1 : decode cX0_eatenInCell 1 = .ok (.getfield 18, 3) := by decide +kernel
theorem dX0_eatenInCell_4 : decode cX0_eatenInCell 4 = .ok (.iload_n 1, 1) := by decide +kernel
theorem dX0_eatenInCell_5 : decode cX0_eatenInCell 5 = .ok (.invokevirtual 38, 3) := by decide +kernel
theorem dX0_eatenInCell_8 : decode cX0_eatenInCell 8 = .ok (.ifCond .eq 24, 3) := by decide +kernel
theorem dX0_eatenInCell_11 : decode cX0_eatenInCell 11 = .ok (.aload_n 0, 1) := by decide +kernel
theorem dX0_eatenInCell_12 : decode cX0_eatenInCell 12 = .ok (.getfield 18, 3) := by decide +kernel
theorem dX0_eatenInCell_15 : decode cX0_eatenInCell 15 = .ok (.iload_n 2, 1) := by decide +kernel
theorem dX0_eatenInCell_16 : decode cX0_eatenInCell 16 = .ok (.invokevirtual 70, 3) := by decide +kernel
theorem dX0_eatenInCell_19 : decode cX0_eatenInCell 19 = .ok (.ifCond .eq 13, 3) := by decide +kernel
theorem dX0_eatenInCell_22 : decode cX0_eatenInCell 22 = .ok (.iload_n 3, 1) := by decide +kernel
theorem dX0_eatenInCell_23 : decode cX0_eatenInCell 23 = .ok (.iconst 0, 1) := by decide +kernel
theorem dX0_eatenInCell_24 : decode cX0_eatenInCell 24 = .ok (.bipush 100, 2) := by decide +kernel
theorem dX0_eatenInCell_26 : decode cX0_eatenInCell 26 = .ok (.invokestatic 30, 3) := by decide +kernel
theorem dX0_eatenInCell_29 : decode cX0_eatenInCell 29 = .ok (.ifCond .ne 5, 3) := by decide +kernel
theorem dX0_eatenInCell_32 : decode cX0_eatenInCell 32 = .ok (.iconst (-1), 1) := by decide +kernel
theorem dX0_eatenInCell_33 : decode cX0_eatenInCell 33 = .ok (.ireturn, 1) := by decide +kernel
theorem dX0_eatenInCell_34 : decode cX0_eatenInCell 34 = .ok (.aload_n 0, 1) := by decide +kernel
theorem dX0_eatenInCell_35 : decode cX0_eatenInCell 35 = .ok (.getfield 22, 3) := by decide +kernel
theorem dX0_eatenInCell_38 : decode cX0_eatenInCell 38 = .ok (.iconst 0, 1) := by decide +kernel
theorem dX0_eatenInCell_39 : decode cX0_eatenInCell 39 = .ok (.iload_n 2, 1) := by decide +kernel
theorem dX0_eatenInCell_40 : decode cX0_eatenInCell 40 = .ok (.iload_n 1, 1) := by decide +kernel
theorem dX0_eatenInCell_41 : decode cX0_eatenInCell 41 = .ok (.invokevirtual 51, 3) := by decide +kernel
theorem dX0_eatenInCell_44 : decode cX0_eatenInCell 44 = .ok (.ifCond .ne 6, 3) := by decide +kernel
theorem dX0_eatenInCell_47 : decode cX0_eatenInCell 47 = .ok (.bipush (-2), 2) := by decide +kernel
theorem dX0_eatenInCell_49 : decode cX0_eatenInCell 49 = .ok (.ireturn, 1) := by decide +kernel
theorem dX0_eatenInCell_50 : decode cX0_eatenInCell 50 = .ok (.aload_n 0, 1) := by decide +kernel
theorem dX0_eatenInCell_51 : decode cX0_eatenInCell 51 = .ok (.getfield 22, 3) := by decide +kernel
theorem dX0_eatenInCell_54 : decode cX0_eatenInCell 54 = .ok (.iconst 0, 1) := by decide +kernel
theorem dX0_eatenInCell_55 : decode cX0_eatenInCell 55 = .ok (.iload_n 2, 1) := by decide +kernel
theorem dX0_eatenInCell_56 : decode cX0_eatenInCell 56 = .ok (.iload_n 1, 1) := by decide +kernel
theorem dX0_eatenInCell_57 : decode cX0_eatenInCell 57 = .ok (.invokevirtual 56, 3) := by decide +kernel
theorem dX0_eatenInCell_60 : decode cX0_eatenInCell 60 = .ok (.i2l, 1) := by decide +kernel
theorem dX0_eatenInCell_61 : decode cX0_eatenInCell 61 = .ok (.lstore 4, 2) := by decide +kernel
theorem dX0_eatenInCell_63 : decode cX0_eatenInCell 63 = .ok (.aload_n 0, 1) := by decide +kernel
theorem dX0_eatenInCell_64 : decode cX0_eatenInCell 64 = .ok (.getfield 18, 3) := by decide +kernel
theorem dX0_eatenInCell_67 : decode cX0_eatenInCell 67 = .ok (.iload_n 1, 1) := by decide +kernel
theorem dX0_eatenInCell_68 : decode cX0_eatenInCell 68 = .ok (.invokevirtual 73, 3) := by decide +kernel
theorem dX0_eatenInCell_71 : decode cX0_eatenInCell 71 = .ok (.istore 6, 2) := by decide +kernel
theorem dX0_eatenInCell_73 : decode cX0_eatenInCell 73 = .ok (.aload_n 0, 1) := by decide +kernel
theorem dX0_eatenInCell_74 : decode cX0_eatenInCell 74 = .ok (.getfield 18, 3) := by decide +kernel
theorem dX0_eatenInCell_77 : decode cX0_eatenInCell 77 = .ok (.iload_n 1, 1) := by decide +kernel
theorem dX0_eatenInCell_78 : decode cX0_eatenInCell 78 = .ok (.invokevirtual 77, 3) := by decide +kernel
theorem dX0_eatenInCell_81 : decode cX0_eatenInCell 81 = .ok (.istore 7, 2) := by decide +kernel
theorem dX0_eatenInCell_83 : decode cX0_eatenInCell 83 = .ok (.aload_n 0, 1) := by decide +kernel
theorem dX0_eatenInCell_84 : decode cX0_eatenInCell 84 = .ok (.getfield 26, 3) := by decide +kernel
theorem dX0_eatenInCell_87 : decode cX0_eatenInCell 87 = .ok (.invokevirtual 60, 3) := by decide +kernel
theorem dX0_eatenInCell_90 : decode cX0_eatenInCell 90 = .ok (.lload 4, 2) := by decide +kernel
theorem dX0_eatenInCell_92 : decode cX0_eatenInCell 92 = .ok (.bipush 100, 2) := by decide +kernel
theorem dX0_eatenInCell_94 : decode cX0_eatenInCell 94 = .ok (.iload_n 3, 1) := by decide +kernel
theorem dX0_eatenInCell_95 : decode cX0_eatenInCell 95 = .ok (.isub, 1) := by decide +kernel
theorem dX0_eatenInCell_96 : decode cX0_eatenInCell 96 = .ok (.i2l, 1) := by decide +kernel
theorem dX0_eatenInCell_97 : decode cX0_eatenInCell 97 = .ok (.lmul, 1) := by decide +kernel
theorem dX0_eatenInCell_98 : decode cX0_eatenInCell 98 = .ok (.iload 6, 2) := by decide +kernel
theorem dX0_eatenInCell_100 : decode cX0_eatenInCell 100 = .ok (.i2l, 1) := by decide +kernel
theorem dX0_eatenInCell_101 : decode cX0_eatenInCell 101 = .ok (.invokevirtual 80, 3) := by decide +kernel
theorem dX0_eatenInCell_104 : decode cX0_eatenInCell 104 = .ok (.pop, 1) := by decide +kernel
theorem dX0_eatenInCell_105 : decode cX0_eatenInCell 105 = .ok (.iload 7, 2) := by decide +kernel
theorem dX0_eatenInCell_107 : decode cX0_eatenInCell 107 = .ok (.ifCond .ne 6, 3) := by decide +kernel
theorem dX0_eatenInCell_110 : decode cX0_eatenInCell 110 = .ok (.bipush (-3), 2) := by decide +kernel
theorem dX0_eatenInCell_112 : decode cX0_eatenInCell 112 = .ok (.ireturn, 1) := by decide +kernel
theorem dX0_eatenInCell_113 : decode cX0_eatenInCell 113 = .ok (.aload_n 0, 1) := by decide +kernel
theorem dX0_eatenInCell_114 : decode cX0_eatenInCell 114 = .ok (.getfield 26, 3) := by decide +kernel
theorem dX0_eatenInCell_117 : decode cX0_eatenInCell 117 = .ok (.lload 4, 2) := by decide +kernel
theorem dX0_eatenInCell_119 : decode cX0_eatenInCell 119 = .ok (.ldc2_w 84, 3) := by decide +kernel
theorem dX0_eatenInCell_122 : decode cX0_eatenInCell 122 = .ok (.lmul, 1) := by decide +kernel
theorem dX0_eatenInCell_123 : decode cX0_eatenInCell 123 = .ok (.ldc2_w 84, 3) := by decide +kernel
theorem dX0_eatenInCell_126 : decode cX0_eatenInCell 126 = .ok (.lmul, 1) := by decide +kernel
theorem dX0_eatenInCell_127 : decode cX0_eatenInCell 127 = .ok (.iload 6, 2) := by decide +kernel
theorem dX0_eatenInCell_129 : decode cX0_eatenInCell 129 = .ok (.i2l, 1) := by decide +kernel
theorem dX0_eatenInCell_130 : decode cX0_eatenInCell 130 = .ok (.iload 7, 2) := by decide +kernel
theorem dX0_eatenInCell_132 : decode cX0_eatenInCell 132 = .ok (.i2l, 1) := by decide +kernel
theorem dX0_eatenInCell_133 : decode cX0_eatenInCell 133 = .ok (.lmul, 1) := by decide +kernel
theorem dX0_eatenInCell_134 : decode cX0_eatenInCell 134 = .ok (.invokevirtual 80, 3) := by decide +kernel
theorem dX0_eatenInCell_137 : decode cX0_eatenInCell 137 = .ok (.pop, 1) := by decide +kernel
theorem dX0_eatenInCell_138 : decode cX0_eatenInCell 138 = .ok (.iconst 0, 1) := by decide +kernel
theorem dX0_eatenInCell_139 : decode cX0_eatenInCell 139 = .ok (.ireturn, 1) := by decide +kernel
theorem dX0_surely_0 : decode cX0_surely 0 = .ok (.aload_n 0, 1) := by decide +kernel
theorem dX0_surely_1 : decode cX0_surely 1 = .ok (.getfield 18, 3) := by decide +kernel
theorem dX0_surely_4 : decode cX0_surely 4 = .ok (.iload_n 1, 1) := by decide +kernel
theorem dX0_surely_5 : decode cX0_surely 5 = .ok (.invokevirtual 38, 3) := by decide +kernel
theorem dX0_surely_8 : decode cX0_surely 8 = .ok (.ifCond .eq 20, 3) := by decide +kernel
theorem dX0_surely_11 : decode cX0_surely 11 = .ok (.iload_n 2, 1) := by decide +kernel
theorem dX0_surely_12 : decode cX0_surely 12 = .ok (.invokestatic 86, 3) := by decide +kernel
theorem dX0_surely_15 : decode cX0_surely 15 = .ok (.ifCond .eq 13, 3) := by decide +kernel
theorem dX0_surely_18 : decode cX0_surely 18 = .ok (.iload_n 3, 1) := by decide +kernel
theorem dX0_surely_19 : decode cX0_surely 19 = .ok (.iconst 0, 1) := by decide +kernel
theorem dX0_surely_20 : decode cX0_surely 20 = .ok (.bipush 100, 2) := by decide +kernel
theorem dX0_surely_22 : decode cX0_surely 22 = .ok (.invokestatic 30, 3) := by decide +kernel
theorem dX0_surely_25 : decode cX0_surely 25 = .ok (.ifCond .ne 5, 3) := by decide +kernel
theorem dX0_surely_28 : decode cX0_surely 28 = .ok (.iconst (-1), 1) := by decide +kernel
theorem dX0_surely_29 : decode cX0_surely 29 = .ok (.ireturn, 1) := by decide +kernel
theorem dX0_surely_30 : decode cX0_surely 30 = .ok (.lconst 0, 1) := by decide +kernel
theorem dX0_surely_31 : decode cX0_surely 31 = .ok (.lstore 4, 2) := by decide +kernel
theorem dX0_surely_33 : decode cX0_surely 33 = .ok (.lconst 0, 1) := by decide +kernel
theorem dX0_surely_34 : decode cX0_surely 34 = .ok (.lstore 6, 2) := by decide +kernel
theorem dX0_surely_36 : decode cX0_surely 36 = .ok (.iconst 0, 1) := by decide +kernel
theorem dX0_surely_37 : decode cX0_surely 37 = .ok (.istore 8, 2) := by decide +kernel
theorem dX0_surely_39 : decode cX0_surely 39 = .ok (.iconst 0, 1) := by decide +kernel
theorem dX0_surely_40 : decode cX0_surely 40 = .ok (.istore 9, 2) := by decide +kernel
theorem dX0_surely_42 : decode cX0_surely 42 = .ok (.iload 9, 2) := by decide +kernel
theorem dX0_surely_44 : decode cX0_surely 44 = .ok (.aload_n 0, 1) := by decide +kernel
theorem dX0_surely_45 : decode cX0_surely 45 = .ok (.getfield 18, 3) := by decide +kernel
theorem dX0_surely_48 : decode cX0_surely 48 = .ok (.invokevirtual 43, 3) := by decide +kernel
theorem dX0_surely_51 : decode cX0_surely 51 = .ok (.if_icmp .ge 78, 3) := by decide +kernel
theorem dX0_surely_54 : decode cX0_surely 54 = .ok (.aload_n 0, 1) := by decide +kernel
theorem dX0_surely_55 : decode cX0_surely 55 = .ok (.getfield 22, 3) := by decide +kernel
theorem dX0_surely_58 : decode cX0_surely 58 = .ok (.iconst 0, 1) := by decide +kernel
theorem dX0_surely_59 : decode cX0_surely 59 = .ok (.iload 9, 2) := by decide +kernel
theorem dX0_surely_61 : decode cX0_surely 61 = .ok (.iload_n 1, 1) := by decide +kernel
theorem dX0_surely_62 : decode cX0_surely 62 = .ok (.invokevirtual 51, 3) := by decide +kernel
theorem dX0_surely_65 : decode cX0_surely 65 = .ok (.ifCond .eq 58, 3) := by decide +kernel
theorem dX0_surely_68 : decode cX0_surely 68 = .ok (.aload_n 0, 1) := by decide +kernel
theorem dX0_surely_69 : decode cX0_surely 69 = .ok (.getfield 22, 3) := by decide +kernel
theorem dX0_surely_72 : decode cX0_surely 72 = .ok (.iconst 2, 1) := by decide +kernel
theorem dX0_surely_73 : decode cX0_surely 73 = .ok (.iload_n 2, 1) := by decide +kernel
theorem dX0_surely_74 : decode cX0_surely 74 = .ok (.iadd, 1) := by decide +kernel
theorem dX0_surely_75 : decode cX0_surely 75 = .ok (.iload 9, 2) := by decide +kernel
theorem dX0_surely_77 : decode cX0_surely 77 = .ok (.iload_n 1, 1) := by decide +kernel
theorem dX0_surely_78 : decode cX0_surely 78 = .ok (.invokevirtual 51, 3) := by decide +kernel
theorem dX0_surely_81 : decode cX0_surely 81 = .ok (.ifCond .eq 42, 3) := by decide +kernel
theorem dX0_surely_84 : decode cX0_surely 84 = .ok (.lload 4, 2) := by decide +kernel
theorem dX0_surely_86 : decode cX0_surely 86 = .ok (.aload_n 0, 1) := by decide +kernel
theorem dX0_surely_87 : decode cX0_surely 87 = .ok (.getfield 22, 3) := by decide +kernel
theorem dX0_surely_90 : decode cX0_surely 90 = .ok (.iconst 0, 1) := by decide +kernel
theorem dX0_surely_91 : decode cX0_surely 91 = .ok (.iload 9, 2) := by decide +kernel
theorem dX0_surely_93 : decode cX0_surely 93 = .ok (.iload_n 1, 1) := by decide +kernel
theorem dX0_surely_94 : decode cX0_surely 94 = .ok (.invokevirtual 56, 3) := by decide +kernel
theorem dX0_surely_97 : decode cX0_surely 97 = .ok (.i2l, 1) := by decide +kernel
theorem dX0_surely_98 : decode cX0_surely 98 = .ok (.ladd, 1) := by decide +kernel
theorem dX0_surely_99 : decode cX0_surely 99 = .ok (.lstore 4, 2) := by decide +kernel
theorem dX0_surely_101 : decode cX0_surely 101 = .ok (.lload 6, 2) := by decide +kernel
theorem dX0_surely_103 : decode cX0_surely 103 = .ok (.aload_n 0, 1) := by decide +kernel
theorem dX0_surely_104 : decode cX0_surely 104 = .ok (.getfield 22, 3) := by decide +kernel
theorem dX0_surely_107 : decode cX0_surely 107 = .ok (.iconst 2, 1) := by decide +kernel
theorem dX0_surely_108 : decode cX0_surely 108 = .ok (.iload_n 2, 1) := by decide +kernel
theorem dX0_surely_109 : decode cX0_surely 109 = .ok (.iadd, 1) := by decide +kernel
theorem dX0_surely_110 : decode cX0_surely 110 = .ok (.iload 9, 2) := by decide +kernel
theorem dX0_surely_112 : decode cX0_surely 112 = .ok (.iload_n 1, 1) := by decide +kernel
theorem dX0_surely_113 : decode cX0_surely 113 = .ok (.invokevirtual 56, 3) := by decide +kernel
theorem dX0_surely_116 : decode cX0_surely 116 = .ok (.i2l, 1) := by decide +kernel
theorem dX0_surely_117 : decode cX0_surely 117 = .ok (.ladd, 1) := by decide +kernel
theorem dX0_surely_118 : decode cX0_surely 118 = .ok (.lstore 6, 2) := by decide +kernel
theorem dX0_surely_120 : decode cX0_surely 120 = .ok (.iconst 1, 1) := by decide +kernel
theorem dX0_surely_121 : decode cX0_surely 121 = .ok (.istore 8, 2) := by decide +kernel
theorem dX0_surely_123 : decode cX0_surely 123 = .ok (.iinc 9 1, 3) := by decide +kernel
theorem dX0_surely_126 : decode cX0_surely 126 = .ok (.goto (-84), 3) := by decide +kernel
theorem dX0_surely_129 : decode cX0_surely 129 = .ok (.iload 8, 2) := by decide +kernel
theorem dX0_surely_131 : decode cX0_surely 131 = .ok (.ifCond .ne 6, 3) := by decide +kernel
theorem dX0_surely_134 : decode cX0_surely 134 = .ok (.bipush (-2), 2) := by decide +kernel
theorem dX0_surely_136 : decode cX0_surely 136 = .ok (.ireturn, 1) := by decide +kernel
theorem dX0_surely_137 : decode cX0_surely 137 = .ok (.aload_n 0, 1) := by decide +kernel
theorem dX0_surely_138 : decode cX0_surely 138 = .ok (.getfield 18, 3) := by decide +kernel
theorem dX0_surely_141 : decode cX0_surely 141 = .ok (.iload_n 1, 1) := by decide +kernel
theorem dX0_surely_142 : decode cX0_surely 142 = .ok (.invokevirtual 73, 3) := by decide +kernel
theorem dX0_surely_145 : decode cX0_surely 145 = .ok (.i2l, 1) := by decide +kernel
theorem dX0_surely_146 : decode cX0_surely 146 = .ok (.lstore 9, 2) := by decide +kernel
theorem dX0_surely_148 : decode cX0_surely 148 = .ok (.aload_n 0, 1) := by decide +kernel
theorem dX0_surely_149 : decode cX0_surely 149 = .ok (.getfield 18, 3) := by decide +kernel
theorem dX0_surely_152 : decode cX0_surely 152 = .ok (.iload_n 1, 1) := by decide +kernel
theorem dX0_surely_153 : decode cX0_surely 153 = .ok (.invokevirtual 77, 3) := by decide +kernel
theorem dX0_surely_156 : decode cX0_surely 156 = .ok (.i2l, 1) := by decide +kernel
theorem dX0_surely_157 : decode cX0_surely 157 = .ok (.lstore 11, 2) := by decide +kernel
theorem dX0_surely_159 : decode cX0_surely 159 = .ok (.aload_n 0, 1) := by decide +kernel
theorem dX0_surely_160 : decode cX0_surely 160 = .ok (.getfield 26, 3) := by decide +kernel
theorem dX0_surely_163 : decode cX0_surely 163 = .ok (.invokevirtual 60, 3) := by decide +kernel
theorem dX0_surely_166 : decode cX0_surely 166 = .ok (.lload 4, 2) := by decide +kernel
theorem dX0_surely_168 : decode cX0_surely 168 = .ok (.bipush 100, 2) := by decide +kernel
theorem dX0_surely_170 : decode cX0_surely 170 = .ok (.iload_n 3, 1) := by decide +kernel
theorem dX0_surely_171 : decode cX0_surely 171 = .ok (.isub, 1) := by decide +kernel
theorem dX0_surely_172 : decode cX0_surely 172 = .ok (.i2l, 1) := by decide +kernel
theorem dX0_surely_173 : decode cX0_surely 173 = .ok (.lmul, 1) := by decide +kernel
theorem dX0_surely_174 : decode cX0_surely 174 = .ok (.lload 9, 2) := by decide +kernel
theorem dX0_surely_176 : decode cX0_surely 176 = .ok (.invokevirtual 80, 3) := by decide +kernel
theorem dX0_surely_179 : decode cX0_surely 179 = .ok (.lload 6, 2) := by decide +kernel
theorem dX0_surely_181 : decode cX0_surely 181 = .ok (.invokevirtual 66, 3) := by decide +kernel
theorem dX0_surely_184 : decode cX0_surely 184 = .ok (.pop, 1) := by decide +kernel
theorem dX0_surely_185 : decode cX0_surely 185 = .ok (.lload 4, 2) := by decide +kernel
theorem dX0_surely_187 : decode cX0_surely 187 = .ok (.bipush 100, 2) := by decide +kernel
theorem dX0_surely_189 : decode cX0_surely 189 = .ok (.iload_n 3, 1) := by decide +kernel
theorem dX0_surely_190 : decode cX0_surely 190 = .ok (.isub, 1) := by decide +kernel
theorem dX0_surely_191 : decode cX0_surely 191 = .ok (.i2l, 1) := by decide +kernel
theorem dX0_surely_192 : decode cX0_surely 192 = .ok (.lmul, 1) := by decide +kernel
theorem dX0_surely_193 : decode cX0_surely 193 = .ok (.lload 6, 2) := by decide +kernel
theorem dX0_surely_195 : decode cX0_surely 195 = .ok (.lload 9, 2) := by decide +kernel
theorem dX0_surely_197 : decode cX0_surely 197 = .ok (.lmul, 1) := by decide +kernel
theorem dX0_surely_198 : decode cX0_surely 198 = .ok (.lcmp, 1) := by decide +kernel
theorem dX0_surely_199 : decode cX0_surely 199 = .ok (.ifCond .le 5, 3) := by decide +kernel
theorem dX0_surely_202 : decode cX0_surely 202 = .ok (.iconst 1, 1) := by decide +kernel
theorem dX0_surely_203 : decode cX0_surely 203 = .ok (.ireturn, 1) := by decide +kernel
theorem dX0_surely_204 : decode cX0_surely 204 = .ok (.lload 11, 2) := by decide +kernel
theorem dX0_surely_206 : decode cX0_surely 206 = .ok (.lconst 0, 1) := by decide +kernel
theorem dX0_surely_207 : decode cX0_surely 207 = .ok (.lcmp, 1) := by decide +kernel
theorem dX0_surely_208 : decode cX0_surely 208 = .ok (.ifCond .le 29, 3) := by decide +kernel
theorem dX0_surely_211 : decode cX0_surely 211 = .ok (.lload 4, 2) := by decide +kernel
theorem dX0_surely_213 : decode cX0_surely 213 = .ok (.ldc2_w 84, 3) := by decide +kernel
theorem dX0_surely_216 : decode cX0_surely 216 = .ok (.lmul, 1) := by decide +kernel
theorem dX0_surely_217 : decode cX0_surely 217 = .ok (.ldc2_w 84, 3) := by decide +kernel
theorem dX0_surely_220 : decode cX0_surely 220 = .ok (.lmul, 1) := by decide +kernel
theorem dX0_surely_221 : decode cX0_surely 221 = .ok (.lload 6, 2) := by decide +kernel
theorem dX0_surely_223 : decode cX0_surely 223 = .ok (.lload 9, 2) := by decide +kernel
theorem dX0_surely_225 : decode cX0_surely 225 = .ok (.lmul, 1) := by decide +kernel
theorem dX0_surely_226 : decode cX0_surely 226 = .ok (.lload 11, 2) := by decide +kernel
theorem dX0_surely_228 : decode cX0_surely 228 = .ok (.lmul, 1) := by decide +kernel
theorem dX0_surely_229 : decode cX0_surely 229 = .ok (.lcmp, 1) := by decide +kernel
theorem dX0_surely_230 : decode cX0_surely 230 = .ok (.ifCond .ge 7, 3) := by decide +kernel
theorem dX0_surely_233 : decode cX0_surely 233 = .ok (.iconst 2, 1) := by decide +kernel
theorem dX0_surely_234 : decode cX0_surely 234 = .ok (.goto 4, 3) := by decide +kernel
theorem dX0_surely_237 : decode cX0_surely 237 = .ok (.iconst 0, 1) := by decide +kernel
theorem dX0_surely_238 : decode cX0_surely 238 = .ok (.ireturn, 1) := by decide +kernel
theorem dX0_measure_0 : decode cX0_measure 0 = .ok (.aload_n 0, 1) := by decide +kernel
theorem dX0_measure_1 : decode cX0_measure 1 = .ok (.iconst 0, 1) := by decide +kernel
theorem dX0_measure_2 : decode cX0_measure 2 = .ok (.putfield 89, 3) := by decide +kernel
theorem dX0_measure_5 : decode cX0_measure 5 = .ok (.aload_n 0, 1) := by decide +kernel
theorem dX0_measure_6 : decode cX0_measure 6 = .ok (.iconst 0, 1) := by decide +kernel
theorem dX0_measure_7 : decode cX0_measure 7 = .ok (.putfield 93, 3) := by decide +kernel
theorem dX0_measure_10 : decode cX0_measure 10 = .ok (.aload_n 0, 1) := by decide +kernel
theorem dX0_measure_11 : decode cX0_measure 11 = .ok (.iconst 0, 1) := by decide +kernel
theorem dX0_measure_12 : decode cX0_measure 12 = .ok (.putfield 96, 3) := by decide +kernel
theorem dX0_measure_15 : decode cX0_measure 15 = .ok (.aload_n 0, 1) := by decide +kernel
theorem dX0_measure_16 : decode cX0_measure 16 = .ok (.iconst 0, 1) := by decide +kernel
theorem dX0_measure_17 : decode cX0_measure 17 = .ok (.putfield 99, 3) := by decide +kernel
theorem dX0_measure_20 : decode cX0_measure 20 = .ok (.aload_n 0, 1) := by decide +kernel
theorem dX0_measure_21 : decode cX0_measure 21 = .ok (.iconst 0, 1) := by decide +kernel
theorem dX0_measure_22 : decode cX0_measure 22 = .ok (.putfield 102, 3) := by decide +kernel
theorem dX0_measure_25 : decode cX0_measure 25 = .ok (.aload_n 0, 1) := by decide +kernel
theorem dX0_measure_26 : decode cX0_measure 26 = .ok (.iconst 0, 1) := by decide +kernel
theorem dX0_measure_27 : decode cX0_measure 27 = .ok (.putfield 105, 3) := by decide +kernel
theorem dX0_measure_30 : decode cX0_measure 30 = .ok (.iconst 0, 1) := by decide +kernel
theorem dX0_measure_31 : decode cX0_measure 31 = .ok (.istore_n 3, 1) := by decide +kernel
theorem dX0_measure_32 : decode cX0_measure 32 = .ok (.iload_n 3, 1) := by decide +kernel
theorem dX0_measure_33 : decode cX0_measure 33 = .ok (.aload_n 0, 1) := by decide +kernel
theorem dX0_measure_34 : decode cX0_measure 34 = .ok (.getfield 18, 3) := by decide +kernel
theorem dX0_measure_37 : decode cX0_measure 37 = .ok (.invokevirtual 43, 3) := by decide +kernel
theorem dX0_measure_40 : decode cX0_measure 40 = .ok (.if_icmp .ge 64, 3) := by decide +kernel
theorem dX0_measure_43 : decode cX0_measure 43 = .ok (.aload_n 0, 1) := by decide +kernel
theorem dX0_measure_44 : decode cX0_measure 44 = .ok (.getfield 22, 3) := by decide +kernel
theorem dX0_measure_47 : decode cX0_measure 47 = .ok (.iconst 1, 1) := by decide +kernel
theorem dX0_measure_48 : decode cX0_measure 48 = .ok (.iload_n 3, 1) := by decide +kernel
theorem dX0_measure_49 : decode cX0_measure 49 = .ok (.iload_n 1, 1) := by decide +kernel
theorem dX0_measure_50 : decode cX0_measure 50 = .ok (.invokevirtual 51, 3) := by decide +kernel
theorem dX0_measure_53 : decode cX0_measure 53 = .ok (.ifCond .eq 45, 3) := by decide +kernel
theorem dX0_measure_56 : decode cX0_measure 56 = .ok (.aload_n 0, 1) := by decide +kernel
theorem dX0_measure_57 : decode cX0_measure 57 = .ok (.getfield 22, 3) := by decide +kernel
theorem dX0_measure_60 : decode cX0_measure 60 = .ok (.iconst 2, 1) := by decide +kernel
theorem dX0_measure_61 : decode cX0_measure 61 = .ok (.iload_n 2, 1) := by decide +kernel
theorem dX0_measure_62 : decode cX0_measure 62 = .ok (.iadd, 1) := by decide +kernel
theorem dX0_measure_63 : decode cX0_measure 63 = .ok (.iload_n 3, 1) := by decide +kernel
theorem dX0_measure_64 : decode cX0_measure 64 = .ok (.iload_n 1, 1) := by decide +kernel
theorem dX0_measure_65 : decode cX0_measure 65 = .ok (.invokevirtual 51, 3) := by decide +kernel
theorem dX0_measure_68 : decode cX0_measure 68 = .ok (.ifCond .eq 30, 3) := by decide +kernel
theorem dX0_measure_71 : decode cX0_measure 71 = .ok (.aload_n 0, 1) := by decide +kernel
theorem dX0_measure_72 : decode cX0_measure 72 = .ok (.aload_n 0, 1) := by decide +kernel
theorem dX0_measure_73 : decode cX0_measure 73 = .ok (.getfield 22, 3) := by decide +kernel
theorem dX0_measure_76 : decode cX0_measure 76 = .ok (.iconst 2, 1) := by decide +kernel
theorem dX0_measure_77 : decode cX0_measure 77 = .ok (.iload_n 2, 1) := by decide +kernel
theorem dX0_measure_78 : decode cX0_measure 78 = .ok (.iadd, 1) := by decide +kernel
theorem dX0_measure_79 : decode cX0_measure 79 = .ok (.iload_n 3, 1) := by decide +kernel
theorem dX0_measure_80 : decode cX0_measure 80 = .ok (.iload_n 1, 1) := by decide +kernel
theorem dX0_measure_81 : decode cX0_measure 81 = .ok (.invokevirtual 56, 3) := by decide +kernel
theorem dX0_measure_84 : decode cX0_measure 84 = .ok (.aload_n 0, 1) := by decide +kernel
theorem dX0_measure_85 : decode cX0_measure 85 = .ok (.getfield 22, 3) := by decide +kernel
theorem dX0_measure_88 : decode cX0_measure 88 = .ok (.iconst 1, 1) := by decide +kernel
theorem dX0_measure_89 : decode cX0_measure 89 = .ok (.iload_n 3, 1) := by decide +kernel
theorem dX0_measure_90 : decode cX0_measure 90 = .ok (.iload_n 1, 1) := by decide +kernel
theorem dX0_measure_91 : decode cX0_measure 91 = .ok (.invokevirtual 56, 3) := by decide +kernel
theorem dX0_measure_94 : decode cX0_measure 94 = .ok (.isub, 1) := by decide +kernel
theorem dX0_measure_95 : decode cX0_measure 95 = .ok (.invokevirtual 108, 3) := by decide +kernel
theorem dX0_measure_98 : decode cX0_measure 98 = .ok (.iinc 3 1, 3) := by decide +kernel
theorem dX0_measure_101 : decode cX0_measure 101 = .ok (.goto (-69), 3) := by decide +kernel
theorem dX0_measure_104 : decode cX0_measure 104 = .ok (.return_, 1) := by decide +kernel
theorem dX0_measureOne_0 : decode cX0_measureOne 0 = .ok (.aload_n 0, 1) := by decide +kernel
theorem dX0_measureOne_1 : decode cX0_measureOne 1 = .ok (.aload_n 0, 1) := by decide +kernel
theorem dX0_measureOne_2 : decode cX0_measureOne 2 = .ok (.getfield 89, 3) := by decide +kernel
theorem dX0_measureOne_5 : decode cX0_measureOne 5 = .ok (.ifCond .eq 11, 3) := by decide +kernel
theorem dX0_measureOne_8 : decode cX0_measureOne 8 = .ok (.iload_n 1, 1) := by decide +kernel
theorem dX0_measureOne_9 : decode cX0_measureOne 9 = .ok (.aload_n 0, 1) := by decide +kernel
theorem dX0_measureOne_10 : decode cX0_measureOne 10 = .ok (.getfield 96, 3) := by decide +kernel
theorem dX0_measureOne_13 : decode cX0_measureOne 13 = .ok (.if_icmp .ge 7, 3) := by decide +kernel
theorem dX0_measureOne_16 : decode cX0_measureOne 16 = .ok (.iload_n 1, 1) := by decide +kernel
theorem dX0_measureOne_17 : decode cX0_measureOne 17 = .ok (.goto 7, 3) := by decide +kernel
theorem dX0_measureOne_20 : decode cX0_measureOne 20 = .ok (.aload_n 0, 1) := by decide +kernel
theorem dX0_measureOne_21 : decode cX0_measureOne 21 = .ok (.getfield 96, 3) := by decide +kernel
theorem dX0_measureOne_24 : decode cX0_measureOne 24 = .ok (.putfield 96, 3) := by decide +kernel
theorem dX0_measureOne_27 : decode cX0_measureOne 27 = .ok (.aload_n 0, 1) := by decide +kernel
theorem dX0_measureOne_28 : decode cX0_measureOne 28 = .ok (.aload_n 0, 1) := by decide +kernel
theorem dX0_measureOne_29 : decode cX0_measureOne 29 = .ok (.getfield 89, 3) := by decide +kernel
theorem dX0_measureOne_32 : decode cX0_measureOne 32 = .ok (.ifCond .eq 11, 3) := by decide +kernel
theorem dX0_measureOne_35 : decode cX0_measureOne 35 = .ok (.iload_n 1, 1) := by decide +kernel
theorem dX0_measureOne_36 : decode cX0_measureOne 36 = .ok (.aload_n 0, 1) := by decide +kernel
theorem dX0_measureOne_37 : decode cX0_measureOne 37 = .ok (.getfield 99, 3) := by decide +kernel
theorem dX0_measureOne_40 : decode cX0_measureOne 40 = .ok (.if_icmp .le 7, 3) := by decide +kernel
theorem dX0_measureOne_43 : decode cX0_measureOne 43 = .ok (.iload_n 1, 1) := by decide +kernel
theorem dX0_measureOne_44 : decode cX0_measureOne 44 = .ok (.goto 7, 3) := by decide +kernel
theorem dX0_measureOne_47 : decode cX0_measureOne 47 = .ok (.aload_n 0, 1) := by decide +kernel
theorem dX0_measureOne_48 : decode cX0_measureOne 48 = .ok (.getfield 99, 3) := by decide +kernel
theorem dX0_measureOne_51 : decode cX0_measureOne 51 = .ok (.putfield 99, 3) := by decide +kernel
theorem dX0_measureOne_54 : decode cX0_measureOne 54 = .ok (.aload_n 0, 1) := by decide +kernel
theorem dX0_measureOne_55 : decode cX0_measureOne 55 = .ok (.dup, 1) := by decide +kernel
theorem dX0_measureOne_56 : decode cX0_measureOne 56 = .ok (.getfield 102, 3) := by decide +kernel
theorem dX0_measureOne_59 : decode cX0_measureOne 59 = .ok (.iload_n 1, 1) := by decide +kernel
theorem dX0_measureOne_60 : decode cX0_measureOne 60 = .ok (.ifCond .le 7, 3) := by decide +kernel
theorem dX0_measureOne_63 : decode cX0_measureOne 63 = .ok (.iconst 1, 1) := by decide +kernel
theorem dX0_measureOne_64 : decode cX0_measureOne 64 = .ok (.goto 4, 3) := by decide +kernel
theorem dX0_measureOne_67 : decode cX0_measureOne 67 = .ok (.iconst 0, 1) := by decide +kernel
theorem dX0_measureOne_68 : decode cX0_measureOne 68 = .ok (.iadd, 1) := by decide +kernel
theorem dX0_measureOne_69 : decode cX0_measureOne 69 = .ok (.putfield 102, 3) := by decide +kernel
theorem dX0_measureOne_72 : decode cX0_measureOne 72 = .ok (.aload_n 0, 1) := by decide +kernel
theorem dX0_measureOne_73 : decode cX0_measureOne 73 = .ok (.dup, 1) := by decide +kernel
theorem dX0_measureOne_74 : decode cX0_measureOne 74 = .ok (.getfield 105, 3) := by decide +kernel
theorem dX0_measureOne_77 : decode cX0_measureOne 77 = .ok (.iload_n 1, 1) := by decide +kernel
theorem dX0_measureOne_78 : decode cX0_measureOne 78 = .ok (.ifCond .ge 7, 3) := by decide +kernel
theorem dX0_measureOne_81 : decode cX0_measureOne 81 = .ok (.iconst 1, 1) := by decide +kernel
theorem dX0_measureOne_82 : decode cX0_measureOne 82 = .ok (.goto 4, 3) := by decide +kernel
theorem dX0_measureOne_85 : decode cX0_measureOne 85 = .ok (.iconst 0, 1) := by decide +kernel
theorem dX0_measureOne_86 : decode cX0_measureOne 86 = .ok (.iadd, 1) := by decide +kernel
theorem dX0_measureOne_87 : decode cX0_measureOne 87 = .ok (.putfield 105, 3) := by decide +kernel
theorem dX0_measureOne_90 : decode cX0_measureOne 90 = .ok (.aload_n 0, 1) := by decide +kernel
theorem dX0_measureOne_91 : decode cX0_measureOne 91 = .ok (.dup, 1) := by decide +kernel
theorem dX0_measureOne_92 : decode cX0_measureOne 92 = .ok (.getfield 93, 3) := by decide +kernel
theorem dX0_measureOne_95 : decode cX0_measureOne 95 = .ok (.iload_n 1, 1) := by decide +kernel
theorem dX0_measureOne_96 : decode cX0_measureOne 96 = .ok (.iadd, 1) := by decide +kernel
theorem dX0_measureOne_97 : decode cX0_measureOne 97 = .ok (.putfield 93, 3) := by decide +kernel
theorem dX0_measureOne_100 : decode cX0_measureOne 100 = .ok (.aload_n 0, 1) := by decide +kernel
theorem dX0_measureOne_101 : decode cX0_measureOne 101 = .ok (.dup, 1) := by decide +kernel
theorem dX0_measureOne_102 : decode cX0_measureOne 102 = .ok (.getfield 89, 3) := by decide +kernel
theorem dX0_measureOne_105 : decode cX0_measureOne 105 = .ok (.iconst 1, 1) := by decide +kernel
theorem dX0_measureOne_106 : decode cX0_measureOne 106 = .ok (.iadd, 1) := by decide +kernel
theorem dX0_measureOne_107 : decode cX0_measureOne 107 = .ok (.putfield 89, 3) := by decide +kernel
theorem dX0_measureOne_110 : decode cX0_measureOne 110 = .ok (.return_, 1) := by decide +kernel
theorem dX0_offBy_0 : decode cX0_offBy 0 = .ok (.aload_n 0, 1) := by decide +kernel
theorem dX0_offBy_1 : decode cX0_offBy 1 = .ok (.getfield 18, 3) := by decide +kernel
theorem dX0_offBy_4 : decode cX0_offBy 4 = .ok (.iload_n 1, 1) := by decide +kernel
theorem dX0_offBy_5 : decode cX0_offBy 5 = .ok (.invokevirtual 38, 3) := by decide +kernel
theorem dX0_offBy_8 : decode cX0_offBy 8 = .ok (.ifCond .eq 10, 3) := by decide +kernel
theorem dX0_offBy_11 : decode cX0_offBy 11 = .ok (.iload_n 2, 1) := by decide +kernel
theorem dX0_offBy_12 : decode cX0_offBy 12 = .ok (.invokestatic 86, 3) := by decide +kernel
theorem dX0_offBy_15 : decode cX0_offBy 15 = .ok (.ifCond .ne 5, 3) := by decide +kernel
theorem dX0_offBy_18 : decode cX0_offBy 18 = .ok (.iconst (-1), 1) := by decide +kernel
theorem dX0_offBy_19 : decode cX0_offBy 19 = .ok (.ireturn, 1) := by decide +kernel
theorem dX0_offBy_20 : decode cX0_offBy 20 = .ok (.aload_n 0, 1) := by decide +kernel
theorem dX0_offBy_21 : decode cX0_offBy 21 = .ok (.iload_n 1, 1) := by decide +kernel
theorem dX0_offBy_22 : decode cX0_offBy 22 = .ok (.iload_n 2, 1) := by decide +kernel
theorem dX0_offBy_23 : decode cX0_offBy 23 = .ok (.invokevirtual 112, 3) := by decide +kernel
theorem dX0_offBy_26 : decode cX0_offBy 26 = .ok (.aload_n 0, 1) := by decide +kernel
theorem dX0_offBy_27 : decode cX0_offBy 27 = .ok (.getfield 89, 3) := by decide +kernel
theorem dX0_offBy_30 : decode cX0_offBy 30 = .ok (.ifCond .le 40, 3) := by decide +kernel
theorem dX0_offBy_33 : decode cX0_offBy 33 = .ok (.aload_n 0, 1) := by decide +kernel
theorem dX0_offBy_34 : decode cX0_offBy 34 = .ok (.getfield 26, 3) := by decide +kernel
theorem dX0_offBy_37 : decode cX0_offBy 37 = .ok (.invokevirtual 60, 3) := by decide +kernel
theorem dX0_offBy_40 : decode cX0_offBy 40 = .ok (.aload_n 0, 1) := by decide +kernel
theorem dX0_offBy_41 : decode cX0_offBy 41 = .ok (.getfield 93, 3) := by decide +kernel
theorem dX0_offBy_44 : decode cX0_offBy 44 = .ok (.i2l, 1) := by decide +kernel
theorem dX0_offBy_45 : decode cX0_offBy 45 = .ok (.aload_n 0, 1) := by decide +kernel
theorem dX0_offBy_46 : decode cX0_offBy 46 = .ok (.getfield 89, 3) := by decide +kernel
theorem dX0_offBy_49 : decode cX0_offBy 49 = .ok (.i2l, 1) := by decide +kernel
theorem dX0_offBy_50 : decode cX0_offBy 50 = .ok (.invokevirtual 80, 3) := by decide +kernel
theorem dX0_offBy_53 : decode cX0_offBy 53 = .ok (.aload_n 0, 1) := by decide +kernel
theorem dX0_offBy_54 : decode cX0_offBy 54 = .ok (.getfield 96, 3) := by decide +kernel
theorem dX0_offBy_57 : decode cX0_offBy 57 = .ok (.i2l, 1) := by decide +kernel
theorem dX0_offBy_58 : decode cX0_offBy 58 = .ok (.invokevirtual 66, 3) := by decide +kernel
theorem dX0_offBy_61 : decode cX0_offBy 61 = .ok (.aload_n 0, 1) := by decide +kernel
theorem dX0_offBy_62 : decode cX0_offBy 62 = .ok (.getfield 99, 3) := by decide +kernel
theorem dX0_offBy_65 : decode cX0_offBy 65 = .ok (.i2l, 1) := by decide +kernel
theorem dX0_offBy_66 : decode cX0_offBy 66 = .ok (.invokevirtual 66, 3) := by decide +kernel
theorem dX0_offBy_69 : decode cX0_offBy 69 = .ok (.pop, 1) := by decide +kernel
theorem dX0_offBy_70 : decode cX0_offBy 70 = .ok (.aload_n 0, 1) := by decide +kernel
theorem dX0_offBy_71 : decode cX0_offBy 71 = .ok (.getfield 89, 3) := by decide +kernel
theorem dX0_offBy_74 : decode cX0_offBy 74 = .ok (.ireturn, 1) := by decide +kernel
theorem dX0_nearestWay_0 : decode cX0_nearestWay 0 = .ok (.aload_n 0, 1) := by decide +kernel
theorem dX0_nearestWay_1 : decode cX0_nearestWay 1 = .ok (.getfield 18, 3) := by decide +kernel
theorem dX0_nearestWay_4 : decode cX0_nearestWay 4 = .ok (.iload_n 1, 1) := by decide +kernel
theorem dX0_nearestWay_5 : decode cX0_nearestWay 5 = .ok (.invokevirtual 38, 3) := by decide +kernel
theorem dX0_nearestWay_8 : decode cX0_nearestWay 8 = .ok (.ifCond .ne 5, 3) := by decide +kernel
theorem dX0_nearestWay_11 : decode cX0_nearestWay 11 = .ok (.iconst (-1), 1) := by decide +kernel
theorem dX0_nearestWay_12 : decode cX0_nearestWay 12 = .ok (.ireturn, 1) := by decide +kernel
theorem dX0_nearestWay_13 : decode cX0_nearestWay 13 = .ok (.bipush (-2), 2) := by decide +kernel
theorem dX0_nearestWay_15 : decode cX0_nearestWay 15 = .ok (.istore_n 2, 1) := by decide +kernel
theorem dX0_nearestWay_16 : decode cX0_nearestWay 16 = .ok (.lconst 0, 1) := by decide +kernel
theorem dX0_nearestWay_17 : decode cX0_nearestWay 17 = .ok (.lstore_n 3, 1) := by decide +kernel
theorem dX0_nearestWay_18 : decode cX0_nearestWay 18 = .ok (.lconst 1, 1) := by decide +kernel
theorem dX0_nearestWay_19 : decode cX0_nearestWay 19 = .ok (.lstore 5, 2) := by decide +kernel
theorem dX0_nearestWay_21 : decode cX0_nearestWay 21 = .ok (.iconst 0, 1) := by decide +kernel
theorem dX0_nearestWay_22 : decode cX0_nearestWay 22 = .ok (.istore 7, 2) := by decide +kernel
theorem dX0_nearestWay_24 : decode cX0_nearestWay 24 = .ok (.iload 7, 2) := by decide +kernel
theorem dX0_nearestWay_26 : decode cX0_nearestWay 26 = .ok (.iconst 4, 1) := by decide +kernel
theorem dX0_nearestWay_27 : decode cX0_nearestWay 27 = .ok (.if_icmp .ge 66, 3) := by decide +kernel
theorem dX0_nearestWay_30 : decode cX0_nearestWay 30 = .ok (.aload_n 0, 1) := by decide +kernel
theorem dX0_nearestWay_31 : decode cX0_nearestWay 31 = .ok (.iload_n 1, 1) := by decide +kernel
theorem dX0_nearestWay_32 : decode cX0_nearestWay 32 = .ok (.iload 7, 2) := by decide +kernel
theorem dX0_nearestWay_34 : decode cX0_nearestWay 34 = .ok (.invokevirtual 112, 3) := by decide +kernel
theorem dX0_nearestWay_37 : decode cX0_nearestWay 37 = .ok (.aload_n 0, 1) := by decide +kernel
theorem dX0_nearestWay_38 : decode cX0_nearestWay 38 = .ok (.getfield 93, 3) := by decide +kernel
theorem dX0_nearestWay_41 : decode cX0_nearestWay 41 = .ok (.invokestatic 116, 3) := by decide +kernel
theorem dX0_nearestWay_44 : decode cX0_nearestWay 44 = .ok (.i2l, 1) := by decide +kernel
theorem dX0_nearestWay_45 : decode cX0_nearestWay 45 = .ok (.lstore 8, 2) := by decide +kernel
theorem dX0_nearestWay_47 : decode cX0_nearestWay 47 = .ok (.aload_n 0, 1) := by decide +kernel
theorem dX0_nearestWay_48 : decode cX0_nearestWay 48 = .ok (.getfield 89, 3) := by decide +kernel
theorem dX0_nearestWay_51 : decode cX0_nearestWay 51 = .ok (.ifCond .le 36, 3) := by decide +kernel
theorem dX0_nearestWay_54 : decode cX0_nearestWay 54 = .ok (.iload_n 2, 1) := by decide +kernel
theorem dX0_nearestWay_55 : decode cX0_nearestWay 55 = .ok (.ifCond .lt 19, 3) := by decide +kernel
theorem dX0_nearestWay_58 : decode cX0_nearestWay 58 = .ok (.lload 8, 2) := by decide +kernel
theorem dX0_nearestWay_60 : decode cX0_nearestWay 60 = .ok (.aload_n 0, 1) := by decide +kernel
theorem dX0_nearestWay_61 : decode cX0_nearestWay 61 = .ok (.getfield 89, 3) := by decide +kernel
theorem dX0_nearestWay_64 : decode cX0_nearestWay 64 = .ok (.i2l, 1) := by decide +kernel
theorem dX0_nearestWay_65 : decode cX0_nearestWay 65 = .ok (.lload_n 3, 1) := by decide +kernel
theorem dX0_nearestWay_66 : decode cX0_nearestWay 66 = .ok (.lload 5, 2) := by decide +kernel
theorem dX0_nearestWay_68 : decode cX0_nearestWay 68 = .ok (.invokestatic 121, 3) := by decide +kernel
theorem dX0_nearestWay_71 : decode cX0_nearestWay 71 = .ok (.ifCond .ge 16, 3) := by decide +kernel
theorem dX0_nearestWay_74 : decode cX0_nearestWay 74 = .ok (.iload 7, 2) := by decide +kernel
theorem dX0_nearestWay_76 : decode cX0_nearestWay 76 = .ok (.istore_n 2, 1) := by decide +kernel
theorem dX0_nearestWay_77 : decode cX0_nearestWay 77 = .ok (.lload 8, 2) := by decide +kernel
theorem dX0_nearestWay_79 : decode cX0_nearestWay 79 = .ok (.lstore_n 3, 1) := by decide +kernel
theorem dX0_nearestWay_80 : decode cX0_nearestWay 80 = .ok (.aload_n 0, 1) := by decide +kernel
theorem dX0_nearestWay_81 : decode cX0_nearestWay 81 = .ok (.getfield 89, 3) := by decide +kernel
theorem dX0_nearestWay_84 : decode cX0_nearestWay 84 = .ok (.i2l, 1) := by decide +kernel
theorem dX0_nearestWay_85 : decode cX0_nearestWay 85 = .ok (.lstore 5, 2) := by decide +kernel
theorem dX0_nearestWay_87 : decode cX0_nearestWay 87 = .ok (.iinc 7 1, 3) := by decide +kernel
theorem dX0_nearestWay_90 : decode cX0_nearestWay 90 = .ok (.goto (-66), 3) := by decide +kernel
theorem dX0_nearestWay_93 : decode cX0_nearestWay 93 = .ok (.iload_n 2, 1) := by decide +kernel
theorem dX0_nearestWay_94 : decode cX0_nearestWay 94 = .ok (.ifCond .lt 33, 3) := by decide +kernel
theorem dX0_nearestWay_97 : decode cX0_nearestWay 97 = .ok (.aload_n 0, 1) := by decide +kernel
theorem dX0_nearestWay_98 : decode cX0_nearestWay 98 = .ok (.iload_n 1, 1) := by decide +kernel
theorem dX0_nearestWay_99 : decode cX0_nearestWay 99 = .ok (.iload_n 2, 1) := by decide +kernel
theorem dX0_nearestWay_100 : decode cX0_nearestWay 100 = .ok (.invokevirtual 112, 3) := by decide +kernel
theorem dX0_nearestWay_103 : decode cX0_nearestWay 103 = .ok (.aload_n 0, 1) := by decide +kernel
theorem dX0_nearestWay_104 : decode cX0_nearestWay 104 = .ok (.getfield 26, 3) := by decide +kernel
theorem dX0_nearestWay_107 : decode cX0_nearestWay 107 = .ok (.invokevirtual 60, 3) := by decide +kernel
theorem dX0_nearestWay_110 : decode cX0_nearestWay 110 = .ok (.aload_n 0, 1) := by decide +kernel
theorem dX0_nearestWay_111 : decode cX0_nearestWay 111 = .ok (.getfield 102, 3) := by decide +kernel
theorem dX0_nearestWay_114 : decode cX0_nearestWay 114 = .ok (.i2l, 1) := by decide +kernel
theorem dX0_nearestWay_115 : decode cX0_nearestWay 115 = .ok (.invokevirtual 66, 3) := by decide +kernel
theorem dX0_nearestWay_118 : decode cX0_nearestWay 118 = .ok (.aload_n 0, 1) := by decide +kernel
theorem dX0_nearestWay_119 : decode cX0_nearestWay 119 = .ok (.getfield 105, 3) := by decide +kernel
theorem dX0_nearestWay_122 : decode cX0_nearestWay 122 = .ok (.i2l, 1) := by decide +kernel
theorem dX0_nearestWay_123 : decode cX0_nearestWay 123 = .ok (.invokevirtual 66, 3) := by decide +kernel
theorem dX0_nearestWay_126 : decode cX0_nearestWay 126 = .ok (.pop, 1) := by decide +kernel
theorem dX0_nearestWay_127 : decode cX0_nearestWay 127 = .ok (.iload_n 2, 1) := by decide +kernel
theorem dX0_nearestWay_128 : decode cX0_nearestWay 128 = .ok (.ireturn, 1) := by decide +kernel
theorem dX0_worstSort_0 : decode cX0_worstSort 0 = .ok (.iload_n 1, 1) := by decide +kernel
theorem dX0_worstSort_1 : decode cX0_worstSort 1 = .ok (.invokestatic 86, 3) := by decide +kernel
theorem dX0_worstSort_4 : decode cX0_worstSort 4 = .ok (.ifCond .eq 12, 3) := by decide +kernel
theorem dX0_worstSort_7 : decode cX0_worstSort 7 = .ok (.iload_n 2, 1) := by decide +kernel
theorem dX0_worstSort_8 : decode cX0_worstSort 8 = .ok (.iconst 0, 1) := by decide +kernel
theorem dX0_worstSort_9 : decode cX0_worstSort 9 = .ok (.iconst 1, 1) := by decide +kernel
theorem dX0_worstSort_10 : decode cX0_worstSort 10 = .ok (.invokestatic 30, 3) := by decide +kernel
theorem dX0_worstSort_13 : decode cX0_worstSort 13 = .ok (.ifCond .ne 5, 3) := by decide +kernel
theorem dX0_worstSort_16 : decode cX0_worstSort 16 = .ok (.iconst (-1), 1) := by decide +kernel
theorem dX0_worstSort_17 : decode cX0_worstSort 17 = .ok (.ireturn, 1) := by decide +kernel
theorem dX0_worstSort_18 : decode cX0_worstSort 18 = .ok (.iload_n 2, 1) := by decide +kernel
theorem dX0_worstSort_19 : decode cX0_worstSort 19 = .ok (.ifCond .ne 7, 3) := by decide +kernel
theorem dX0_worstSort_22 : decode cX0_worstSort 22 = .ok (.iconst 1, 1) := by decide +kernel
theorem dX0_worstSort_23 : decode cX0_worstSort 23 = .ok (.goto 4, 3) := by decide +kernel
theorem dX0_worstSort_26 : decode cX0_worstSort 26 = .ok (.iconst (-1), 1) := by decide +kernel
theorem dX0_worstSort_27 : decode cX0_worstSort 27 = .ok (.istore_n 3, 1) := by decide +kernel
theorem dX0_worstSort_28 : decode cX0_worstSort 28 = .ok (.bipush (-2), 2) := by decide +kernel
theorem dX0_worstSort_30 : decode cX0_worstSort 30 = .ok (.istore 4, 2) := by decide +kernel
theorem dX0_worstSort_32 : decode cX0_worstSort 32 = .ok (.lconst 0, 1) := by decide +kernel
theorem dX0_worstSort_33 : decode cX0_worstSort 33 = .ok (.lstore 5, 2) := by decide +kernel
theorem dX0_worstSort_35 : decode cX0_worstSort 35 = .ok (.lconst 1, 1) := by decide +kernel
theorem dX0_worstSort_36 : decode cX0_worstSort 36 = .ok (.lstore 7, 2) := by decide +kernel
theorem dX0_worstSort_38 : decode cX0_worstSort 38 = .ok (.iconst 0, 1) := by decide +kernel
theorem dX0_worstSort_39 : decode cX0_worstSort 39 = .ok (.istore 9, 2) := by decide +kernel
theorem dX0_worstSort_41 : decode cX0_worstSort 41 = .ok (.iload 9, 2) := by decide +kernel
theorem dX0_worstSort_43 : decode cX0_worstSort 43 = .ok (.aload_n 0, 1) := by decide +kernel
theorem dX0_worstSort_44 : decode cX0_worstSort 44 = .ok (.getfield 18, 3) := by decide +kernel
theorem dX0_worstSort_47 : decode cX0_worstSort 47 = .ok (.invokevirtual 125, 3) := by decide +kernel
theorem dX0_worstSort_50 : decode cX0_worstSort 50 = .ok (.if_icmp .ge 68, 3) := by decide +kernel
theorem dX0_worstSort_53 : decode cX0_worstSort 53 = .ok (.aload_n 0, 1) := by decide +kernel
theorem dX0_worstSort_54 : decode cX0_worstSort 54 = .ok (.iload 9, 2) := by decide +kernel
theorem dX0_worstSort_56 : decode cX0_worstSort 56 = .ok (.iload_n 1, 1) := by decide +kernel
theorem dX0_worstSort_57 : decode cX0_worstSort 57 = .ok (.invokevirtual 112, 3) := by decide +kernel
theorem dX0_worstSort_60 : decode cX0_worstSort 60 = .ok (.aload_n 0, 1) := by decide +kernel
theorem dX0_worstSort_61 : decode cX0_worstSort 61 = .ok (.getfield 89, 3) := by decide +kernel
theorem dX0_worstSort_64 : decode cX0_worstSort 64 = .ok (.ifCond .le 48, 3) := by decide +kernel
theorem dX0_worstSort_67 : decode cX0_worstSort 67 = .ok (.iload 4, 2) := by decide +kernel
theorem dX0_worstSort_69 : decode cX0_worstSort 69 = .ok (.ifCond .lt 25, 3) := by decide +kernel
theorem dX0_worstSort_72 : decode cX0_worstSort 72 = .ok (.aload_n 0, 1) := by decide +kernel
theorem dX0_worstSort_73 : decode cX0_worstSort 73 = .ok (.getfield 93, 3) := by decide +kernel
theorem dX0_worstSort_76 : decode cX0_worstSort 76 = .ok (.i2l, 1) := by decide +kernel
theorem dX0_worstSort_77 : decode cX0_worstSort 77 = .ok (.aload_n 0, 1) := by decide +kernel
theorem dX0_worstSort_78 : decode cX0_worstSort 78 = .ok (.getfield 89, 3) := by decide +kernel
theorem dX0_worstSort_81 : decode cX0_worstSort 81 = .ok (.i2l, 1) := by decide +kernel
theorem dX0_worstSort_82 : decode cX0_worstSort 82 = .ok (.lload 5, 2) := by decide +kernel
theorem dX0_worstSort_84 : decode cX0_worstSort 84 = .ok (.lload 7, 2) := by decide +kernel
theorem dX0_worstSort_86 : decode cX0_worstSort 86 = .ok (.invokestatic 121, 3) := by decide +kernel
theorem dX0_worstSort_89 : decode cX0_worstSort 89 = .ok (.iload_n 3, 1) := by decide +kernel
theorem dX0_worstSort_90 : decode cX0_worstSort 90 = .ok (.imul, 1) := by decide +kernel
theorem dX0_worstSort_91 : decode cX0_worstSort 91 = .ok (.ifCond .le 21, 3) := by decide +kernel
theorem dX0_worstSort_94 : decode cX0_worstSort 94 = .ok (.iload 9, 2) := by decide +kernel
theorem dX0_worstSort_96 : decode cX0_worstSort 96 = .ok (.istore 4, 2) := by decide +kernel
theorem dX0_worstSort_98 : decode cX0_worstSort 98 = .ok (.aload_n 0, 1) := by decide +kernel
theorem dX0_worstSort_99 : decode cX0_worstSort 99 = .ok (.getfield 93, 3) := by decide +kernel
theorem dX0_worstSort_102 : decode cX0_worstSort 102 = .ok (.i2l, 1) := by decide +kernel
theorem dX0_worstSort_103 : decode cX0_worstSort 103 = .ok (.lstore 5, 2) := by decide +kernel
theorem dX0_worstSort_105 : decode cX0_worstSort 105 = .ok (.aload_n 0, 1) := by decide +kernel
theorem dX0_worstSort_106 : decode cX0_worstSort 106 = .ok (.getfield 89, 3) := by decide +kernel
theorem dX0_worstSort_109 : decode cX0_worstSort 109 = .ok (.i2l, 1) := by decide +kernel
theorem dX0_worstSort_110 : decode cX0_worstSort 110 = .ok (.lstore 7, 2) := by decide +kernel
theorem dX0_worstSort_112 : decode cX0_worstSort 112 = .ok (.iinc 9 1, 3) := by decide +kernel
theorem dX0_worstSort_115 : decode cX0_worstSort 115 = .ok (.goto (-74), 3) := by decide +kernel
theorem dX0_worstSort_118 : decode cX0_worstSort 118 = .ok (.iload 4, 2) := by decide +kernel
theorem dX0_worstSort_120 : decode cX0_worstSort 120 = .ok (.ifCond .lt 18, 3) := by decide +kernel
theorem dX0_worstSort_123 : decode cX0_worstSort 123 = .ok (.aload_n 0, 1) := by decide +kernel
theorem dX0_worstSort_124 : decode cX0_worstSort 124 = .ok (.getfield 26, 3) := by decide +kernel
theorem dX0_worstSort_127 : decode cX0_worstSort 127 = .ok (.invokevirtual 60, 3) := by decide +kernel
theorem dX0_worstSort_130 : decode cX0_worstSort 130 = .ok (.lload 5, 2) := by decide +kernel
theorem dX0_worstSort_132 : decode cX0_worstSort 132 = .ok (.lload 7, 2) := by decide +kernel
theorem dX0_worstSort_134 : decode cX0_worstSort 134 = .ok (.invokevirtual 80, 3) := by decide +kernel
theorem dX0_worstSort_137 : decode cX0_worstSort 137 = .ok (.pop, 1) := by decide +kernel
theorem dX0_worstSort_138 : decode cX0_worstSort 138 = .ok (.iload 4, 2) := by decide +kernel
theorem dX0_worstSort_140 : decode cX0_worstSort 140 = .ok (.ireturn, 1) := by decide +kernel
theorem dX0_pairsByRight_0 : decode cX0_pairsByRight 0 = .ok (.iload_n 1, 1) := by decide +kernel
theorem dX0_pairsByRight_1 : decode cX0_pairsByRight 1 = .ok (.invokestatic 86, 3) := by decide +kernel
theorem dX0_pairsByRight_4 : decode cX0_pairsByRight 4 = .ok (.ifCond .ne 5, 3) := by decide +kernel
theorem dX0_pairsByRight_7 : decode cX0_pairsByRight 7 = .ok (.iconst (-1), 1) := by decide +kernel
theorem dX0_pairsByRight_8 : decode cX0_pairsByRight 8 = .ok (.ireturn, 1) := by decide +kernel
theorem dX0_pairsByRight_9 : decode cX0_pairsByRight 9 = .ok (.iconst 0, 1) := by decide +kernel
theorem dX0_pairsByRight_10 : decode cX0_pairsByRight 10 = .ok (.istore_n 2, 1) := by decide +kernel
theorem dX0_pairsByRight_11 : decode cX0_pairsByRight 11 = .ok (.iconst 0, 1) := by decide +kernel
theorem dX0_pairsByRight_12 : decode cX0_pairsByRight 12 = .ok (.istore_n 3, 1) := by decide +kernel
theorem dX0_pairsByRight_13 : decode cX0_pairsByRight 13 = .ok (.iconst 0, 1) := by decide +kernel
theorem dX0_pairsByRight_14 : decode cX0_pairsByRight 14 = .ok (.istore 4, 2) := by decide +kernel
theorem dX0_pairsByRight_16 : decode cX0_pairsByRight 16 = .ok (.iconst 0, 1) := by decide +kernel
theorem dX0_pairsByRight_17 : decode cX0_pairsByRight 17 = .ok (.istore 5, 2) := by decide +kernel
theorem dX0_pairsByRight_19 : decode cX0_pairsByRight 19 = .ok (.iload 5, 2) := by decide +kernel
theorem dX0_pairsByRight_21 : decode cX0_pairsByRight 21 = .ok (.aload_n 0, 1) := by decide +kernel
theorem dX0_pairsByRight_22 : decode cX0_pairsByRight 22 = .ok (.getfield 18, 3) := by decide +kernel
theorem dX0_pairsByRight_25 : decode cX0_pairsByRight 25 = .ok (.invokevirtual 125, 3) := by decide +kernel
theorem dX0_pairsByRight_28 : decode cX0_pairsByRight 28 = .ok (.if_icmp .ge 87, 3) := by decide +kernel
theorem dX0_pairsByRight_31 : decode cX0_pairsByRight 31 = .ok (.iload 5, 2) := by decide +kernel
theorem dX0_pairsByRight_33 : decode cX0_pairsByRight 33 = .ok (.iconst 1, 1) := by decide +kernel
theorem dX0_pairsByRight_34 : decode cX0_pairsByRight 34 = .ok (.iadd, 1) := by decide +kernel
theorem dX0_pairsByRight_35 : decode cX0_pairsByRight 35 = .ok (.istore 6, 2) := by decide +kernel
theorem dX0_pairsByRight_37 : decode cX0_pairsByRight 37 = .ok (.iload 6, 2) := by decide +kernel
theorem dX0_pairsByRight_39 : decode cX0_pairsByRight 39 = .ok (.aload_n 0, 1) := by decide +kernel
theorem dX0_pairsByRight_40 : decode cX0_pairsByRight 40 = .ok (.getfield 18, 3) := by decide +kernel
theorem dX0_pairsByRight_43 : decode cX0_pairsByRight 43 = .ok (.invokevirtual 125, 3) := by decide +kernel
theorem dX0_pairsByRight_46 : decode cX0_pairsByRight 46 = .ok (.if_icmp .ge 63, 3) := by decide +kernel
theorem dX0_pairsByRight_49 : decode cX0_pairsByRight 49 = .ok (.aload_n 0, 1) := by decide +kernel
theorem dX0_pairsByRight_50 : decode cX0_pairsByRight 50 = .ok (.iload 5, 2) := by decide +kernel
theorem dX0_pairsByRight_52 : decode cX0_pairsByRight 52 = .ok (.iload 6, 2) := by decide +kernel
theorem dX0_pairsByRight_54 : decode cX0_pairsByRight 54 = .ok (.iload_n 1, 1) := by decide +kernel
theorem dX0_pairsByRight_55 : decode cX0_pairsByRight 55 = .ok (.invokevirtual 128, 3) := by decide +kernel
theorem dX0_pairsByRight_58 : decode cX0_pairsByRight 58 = .ok (.istore 7, 2) := by decide +kernel
theorem dX0_pairsByRight_60 : decode cX0_pairsByRight 60 = .ok (.iload_n 2, 1) := by decide +kernel
theorem dX0_pairsByRight_61 : decode cX0_pairsByRight 61 = .ok (.iload 7, 2) := by decide +kernel
theorem dX0_pairsByRight_63 : decode cX0_pairsByRight 63 = .ok (.iconst 1, 1) := by decide +kernel
theorem dX0_pairsByRight_64 : decode cX0_pairsByRight 64 = .ok (.if_icmp .ne 7, 3) := by decide +kernel
theorem dX0_pairsByRight_67 : decode cX0_pairsByRight 67 = .ok (.iconst 1, 1) := by decide +kernel
theorem dX0_pairsByRight_68 : decode cX0_pairsByRight 68 = .ok (.goto 4, 3) := by decide +kernel
theorem dX0_pairsByRight_71 : decode cX0_pairsByRight 71 = .ok (.iconst 0, 1) := by decide +kernel
theorem dX0_pairsByRight_72 : decode cX0_pairsByRight 72 = .ok (.iadd, 1) := by decide +kernel
theorem dX0_pairsByRight_73 : decode cX0_pairsByRight 73 = .ok (.istore_n 2, 1) := by decide +kernel
theorem dX0_pairsByRight_74 : decode cX0_pairsByRight 74 = .ok (.iload_n 3, 1) := by decide +kernel
theorem dX0_pairsByRight_75 : decode cX0_pairsByRight 75 = .ok (.iload 7, 2) := by decide +kernel
theorem dX0_pairsByRight_77 : decode cX0_pairsByRight 77 = .ok (.iconst (-1), 1) := by decide +kernel
theorem dX0_pairsByRight_78 : decode cX0_pairsByRight 78 = .ok (.if_icmp .ne 7, 3) := by decide +kernel
theorem dX0_pairsByRight_81 : decode cX0_pairsByRight 81 = .ok (.iconst 1, 1) := by decide +kernel
theorem dX0_pairsByRight_82 : decode cX0_pairsByRight 82 = .ok (.goto 4, 3) := by decide +kernel
theorem dX0_pairsByRight_85 : decode cX0_pairsByRight 85 = .ok (.iconst 0, 1) := by decide +kernel
theorem dX0_pairsByRight_86 : decode cX0_pairsByRight 86 = .ok (.iadd, 1) := by decide +kernel
theorem dX0_pairsByRight_87 : decode cX0_pairsByRight 87 = .ok (.istore_n 3, 1) := by decide +kernel
theorem dX0_pairsByRight_88 : decode cX0_pairsByRight 88 = .ok (.iload 4, 2) := by decide +kernel
theorem dX0_pairsByRight_90 : decode cX0_pairsByRight 90 = .ok (.iload 7, 2) := by decide +kernel
theorem dX0_pairsByRight_92 : decode cX0_pairsByRight 92 = .ok (.ifCond .ne 7, 3) := by decide +kernel
theorem dX0_pairsByRight_95 : decode cX0_pairsByRight 95 = .ok (.iconst 1, 1) := by decide +kernel
theorem dX0_pairsByRight_96 : decode cX0_pairsByRight 96 = .ok (.goto 4, 3) := by decide +kernel
theorem dX0_pairsByRight_99 : decode cX0_pairsByRight 99 = .ok (.iconst 0, 1) := by decide +kernel
theorem dX0_pairsByRight_100 : decode cX0_pairsByRight 100 = .ok (.iadd, 1) := by decide +kernel
theorem dX0_pairsByRight_101 : decode cX0_pairsByRight 101 = .ok (.istore 4, 2) := by decide +kernel
theorem dX0_pairsByRight_103 : decode cX0_pairsByRight 103 = .ok (.iinc 6 1, 3) := by decide +kernel
theorem dX0_pairsByRight_106 : decode cX0_pairsByRight 106 = .ok (.goto (-69), 3) := by decide +kernel
theorem dX0_pairsByRight_109 : decode cX0_pairsByRight 109 = .ok (.iinc 5 1, 3) := by decide +kernel
theorem dX0_pairsByRight_112 : decode cX0_pairsByRight 112 = .ok (.goto (-93), 3) := by decide +kernel
theorem dX0_pairsByRight_115 : decode cX0_pairsByRight 115 = .ok (.aload_n 0, 1) := by decide +kernel
theorem dX0_pairsByRight_116 : decode cX0_pairsByRight 116 = .ok (.getfield 26, 3) := by decide +kernel
theorem dX0_pairsByRight_119 : decode cX0_pairsByRight 119 = .ok (.invokevirtual 60, 3) := by decide +kernel
theorem dX0_pairsByRight_122 : decode cX0_pairsByRight 122 = .ok (.iload_n 3, 1) := by decide +kernel
theorem dX0_pairsByRight_123 : decode cX0_pairsByRight 123 = .ok (.i2l, 1) := by decide +kernel
theorem dX0_pairsByRight_124 : decode cX0_pairsByRight 124 = .ok (.invokevirtual 66, 3) := by decide +kernel
theorem dX0_pairsByRight_127 : decode cX0_pairsByRight 127 = .ok (.iload 4, 2) := by decide +kernel
theorem dX0_pairsByRight_129 : decode cX0_pairsByRight 129 = .ok (.i2l, 1) := by decide +kernel
theorem dX0_pairsByRight_130 : decode cX0_pairsByRight 130 = .ok (.invokevirtual 66, 3) := by decide +kernel
theorem dX0_pairsByRight_133 : decode cX0_pairsByRight 133 = .ok (.pop, 1) := by decide +kernel
theorem dX0_pairsByRight_134 : decode cX0_pairsByRight 134 = .ok (.iload_n 2, 1) := by decide +kernel
theorem dX0_pairsByRight_135 : decode cX0_pairsByRight 135 = .ok (.ireturn, 1) := by decide +kernel
theorem dX0_goesWithRight_0 : decode cX0_goesWithRight 0 = .ok (.aload_n 0, 1) := by decide +kernel
theorem dX0_goesWithRight_1 : decode cX0_goesWithRight 1 = .ok (.iload_n 1, 1) := by decide +kernel
theorem dX0_goesWithRight_2 : decode cX0_goesWithRight 2 = .ok (.iload_n 3, 1) := by decide +kernel
theorem dX0_goesWithRight_3 : decode cX0_goesWithRight 3 = .ok (.invokevirtual 112, 3) := by decide +kernel
theorem dX0_goesWithRight_6 : decode cX0_goesWithRight 6 = .ok (.aload_n 0, 1) := by decide +kernel
theorem dX0_goesWithRight_7 : decode cX0_goesWithRight 7 = .ok (.getfield 93, 3) := by decide +kernel
theorem dX0_goesWithRight_10 : decode cX0_goesWithRight 10 = .ok (.i2l, 1) := by decide +kernel
theorem dX0_goesWithRight_11 : decode cX0_goesWithRight 11 = .ok (.lstore 4, 2) := by decide +kernel
theorem dX0_goesWithRight_13 : decode cX0_goesWithRight 13 = .ok (.aload_n 0, 1) := by decide +kernel
theorem dX0_goesWithRight_14 : decode cX0_goesWithRight 14 = .ok (.getfield 89, 3) := by decide +kernel
theorem dX0_goesWithRight_17 : decode cX0_goesWithRight 17 = .ok (.i2l, 1) := by decide +kernel
theorem dX0_goesWithRight_18 : decode cX0_goesWithRight 18 = .ok (.lstore 6, 2) := by decide +kernel
theorem dX0_goesWithRight_20 : decode cX0_goesWithRight 20 = .ok (.aload_n 0, 1) := by decide +kernel
theorem dX0_goesWithRight_21 : decode cX0_goesWithRight 21 = .ok (.iload_n 2, 1) := by decide +kernel
theorem dX0_goesWithRight_22 : decode cX0_goesWithRight 22 = .ok (.iload_n 3, 1) := by decide +kernel
theorem dX0_goesWithRight_23 : decode cX0_goesWithRight 23 = .ok (.invokevirtual 112, 3) := by decide +kernel
theorem dX0_goesWithRight_26 : decode cX0_goesWithRight 26 = .ok (.lload 6, 2) := by decide +kernel
theorem dX0_goesWithRight_28 : decode cX0_goesWithRight 28 = .ok (.lconst 0, 1) := by decide +kernel
theorem dX0_goesWithRight_29 : decode cX0_goesWithRight 29 = .ok (.lcmp, 1) := by decide +kernel
theorem dX0_goesWithRight_30 : decode cX0_goesWithRight 30 = .ok (.ifCond .eq 10, 3) := by decide +kernel
theorem dX0_goesWithRight_33 : decode cX0_goesWithRight 33 = .ok (.aload_n 0, 1) := by decide +kernel
theorem dX0_goesWithRight_34 : decode cX0_goesWithRight 34 = .ok (.getfield 89, 3) := by decide +kernel
theorem dX0_goesWithRight_37 : decode cX0_goesWithRight 37 = .ok (.ifCond .ne 6, 3) := by decide +kernel
theorem dX0_goesWithRight_40 : decode cX0_goesWithRight 40 = .ok (.bipush (-2), 2) := by decide +kernel
theorem dX0_goesWithRight_42 : decode cX0_goesWithRight 42 = .ok (.ireturn, 1) := by decide +kernel
theorem dX0_goesWithRight_43 : decode cX0_goesWithRight 43 = .ok (.aload_n 0, 1) := by decide +kernel
theorem dX0_goesWithRight_44 : decode cX0_goesWithRight 44 = .ok (.getfield 18, 3) := by decide +kernel
theorem dX0_goesWithRight_47 : decode cX0_goesWithRight 47 = .ok (.iload_n 1, 1) := by decide +kernel
theorem dX0_goesWithRight_48 : decode cX0_goesWithRight 48 = .ok (.invokevirtual 131, 3) := by decide +kernel
theorem dX0_goesWithRight_51 : decode cX0_goesWithRight 51 = .ok (.aload_n 0, 1) := by decide +kernel
theorem dX0_goesWithRight_52 : decode cX0_goesWithRight 52 = .ok (.getfield 18, 3) := by decide +kernel
theorem dX0_goesWithRight_55 : decode cX0_goesWithRight 55 = .ok (.iload_n 2, 1) := by decide +kernel
theorem dX0_goesWithRight_56 : decode cX0_goesWithRight 56 = .ok (.invokevirtual 131, 3) := by decide +kernel
theorem dX0_goesWithRight_59 : decode cX0_goesWithRight 59 = .ok (.invokestatic 134, 3) := by decide +kernel
theorem dX0_goesWithRight_62 : decode cX0_goesWithRight 62 = .ok (.istore 8, 2) := by decide +kernel
theorem dX0_goesWithRight_64 : decode cX0_goesWithRight 64 = .ok (.iload 8, 2) := by decide +kernel
theorem dX0_goesWithRight_66 : decode cX0_goesWithRight 66 = .ok (.lload 4, 2) := by decide +kernel
theorem dX0_goesWithRight_68 : decode cX0_goesWithRight 68 = .ok (.lload 6, 2) := by decide +kernel
theorem dX0_goesWithRight_70 : decode cX0_goesWithRight 70 = .ok (.aload_n 0, 1) := by decide +kernel
theorem dX0_goesWithRight_71 : decode cX0_goesWithRight 71 = .ok (.getfield 93, 3) := by decide +kernel
theorem dX0_goesWithRight_74 : decode cX0_goesWithRight 74 = .ok (.i2l, 1) := by decide +kernel
theorem dX0_goesWithRight_75 : decode cX0_goesWithRight 75 = .ok (.aload_n 0, 1) := by decide +kernel
theorem dX0_goesWithRight_76 : decode cX0_goesWithRight 76 = .ok (.getfield 89, 3) := by decide +kernel
theorem dX0_goesWithRight_79 : decode cX0_goesWithRight 79 = .ok (.i2l, 1) := by decide +kernel
theorem dX0_goesWithRight_80 : decode cX0_goesWithRight 80 = .ok (.invokestatic 121, 3) := by decide +kernel
theorem dX0_goesWithRight_83 : decode cX0_goesWithRight 83 = .ok (.imul, 1) := by decide +kernel
theorem dX0_goesWithRight_84 : decode cX0_goesWithRight 84 = .ok (.istore 9, 2) := by decide +kernel
theorem dX0_goesWithRight_86 : decode cX0_goesWithRight 86 = .ok (.iload 9, 2) := by decide +kernel
theorem dX0_goesWithRight_88 : decode cX0_goesWithRight 88 = .ok (.ifCond .le 7, 3) := by decide +kernel
theorem dX0_goesWithRight_91 : decode cX0_goesWithRight 91 = .ok (.iconst 1, 1) := by decide +kernel
theorem dX0_goesWithRight_92 : decode cX0_goesWithRight 92 = .ok (.goto 13, 3) := by decide +kernel
theorem dX0_goesWithRight_95 : decode cX0_goesWithRight 95 = .ok (.iload 9, 2) := by decide +kernel
theorem dX0_goesWithRight_97 : decode cX0_goesWithRight 97 = .ok (.ifCond .ge 7, 3) := by decide +kernel
theorem dX0_goesWithRight_100 : decode cX0_goesWithRight 100 = .ok (.iconst (-1), 1) := by decide +kernel
theorem dX0_goesWithRight_101 : decode cX0_goesWithRight 101 = .ok (.goto 4, 3) := by decide +kernel
theorem dX0_goesWithRight_104 : decode cX0_goesWithRight 104 = .ok (.iconst 0, 1) := by decide +kernel
theorem dX0_goesWithRight_105 : decode cX0_goesWithRight 105 = .ok (.ireturn, 1) := by decide +kernel
theorem dX0_gather_0 : decode cX0_gather 0 = .ok (.aload_n 0, 1) := by decide +kernel
theorem dX0_gather_1 : decode cX0_gather 1 = .ok (.iconst 0, 1) := by decide +kernel
theorem dX0_gather_2 : decode cX0_gather 2 = .ok (.putfield 140, 3) := by decide +kernel
theorem dX0_gather_5 : decode cX0_gather 5 = .ok (.aload_n 0, 1) := by decide +kernel
theorem dX0_gather_6 : decode cX0_gather 6 = .ok (.getfield 11, 3) := by decide +kernel
theorem dX0_gather_9 : decode cX0_gather 9 = .ok (.lconst 0, 1) := by decide +kernel
theorem dX0_gather_10 : decode cX0_gather 10 = .ok (.invokestatic 143, 3) := by decide +kernel
theorem dX0_gather_13 : decode cX0_gather 13 = .ok (.aload_n 0, 1) := by decide +kernel
theorem dX0_gather_14 : decode cX0_gather 14 = .ok (.getfield 15, 3) := by decide +kernel
theorem dX0_gather_17 : decode cX0_gather 17 = .ok (.lconst 0, 1) := by decide +kernel
theorem dX0_gather_18 : decode cX0_gather 18 = .ok (.invokestatic 143, 3) := by decide +kernel
theorem dX0_gather_21 : decode cX0_gather 21 = .ok (.iconst 0, 1) := by decide +kernel
theorem dX0_gather_22 : decode cX0_gather 22 = .ok (.istore_n 3, 1) := by decide +kernel
theorem dX0_gather_23 : decode cX0_gather 23 = .ok (.iload_n 3, 1) := by decide +kernel
theorem dX0_gather_24 : decode cX0_gather 24 = .ok (.aload_n 0, 1) := by decide +kernel
theorem dX0_gather_25 : decode cX0_gather 25 = .ok (.getfield 18, 3) := by decide +kernel
theorem dX0_gather_28 : decode cX0_gather 28 = .ok (.invokevirtual 43, 3) := by decide +kernel
theorem dX0_gather_31 : decode cX0_gather 31 = .ok (.if_icmp .ge 26, 3) := by decide +kernel
theorem dX0_gather_34 : decode cX0_gather 34 = .ok (.aload_n 0, 1) := by decide +kernel
theorem dX0_gather_35 : decode cX0_gather 35 = .ok (.iload_n 1, 1) := by decide +kernel
theorem dX0_gather_36 : decode cX0_gather 36 = .ok (.iload_n 2, 1) := by decide +kernel
theorem dX0_gather_37 : decode cX0_gather 37 = .ok (.iload_n 3, 1) := by decide +kernel
theorem dX0_gather_38 : decode cX0_gather 38 = .ok (.invokevirtual 149, 3) := by decide +kernel
theorem dX0_gather_41 : decode cX0_gather 41 = .ok (.ifCond .eq 10, 3) := by decide +kernel
theorem dX0_gather_44 : decode cX0_gather 44 = .ok (.aload_n 0, 1) := by decide +kernel
theorem dX0_gather_45 : decode cX0_gather 45 = .ok (.iload_n 1, 1) := by decide +kernel
theorem dX0_gather_46 : decode cX0_gather 46 = .ok (.iload_n 2, 1) := by decide +kernel
theorem dX0_gather_47 : decode cX0_gather 47 = .ok (.iload_n 3, 1) := by decide +kernel
theorem dX0_gather_48 : decode cX0_gather 48 = .ok (.invokevirtual 152, 3) := by decide +kernel
theorem dX0_gather_51 : decode cX0_gather 51 = .ok (.iinc 3 1, 3) := by decide +kernel
theorem dX0_gather_54 : decode cX0_gather 54 = .ok (.goto (-31), 3) := by decide +kernel
theorem dX0_gather_57 : decode cX0_gather 57 = .ok (.return_, 1) := by decide +kernel
theorem dX0_isWhole_0 : decode cX0_isWhole 0 = .ok (.aload_n 0, 1) := by decide +kernel
theorem dX0_isWhole_1 : decode cX0_isWhole 1 = .ok (.getfield 22, 3) := by decide +kernel
theorem dX0_isWhole_4 : decode cX0_isWhole 4 = .ok (.iconst 0, 1) := by decide +kernel
theorem dX0_isWhole_5 : decode cX0_isWhole 5 = .ok (.iload_n 3, 1) := by decide +kernel
theorem dX0_isWhole_6 : decode cX0_isWhole 6 = .ok (.iload_n 1, 1) := by decide +kernel
theorem dX0_isWhole_7 : decode cX0_isWhole 7 = .ok (.invokevirtual 51, 3) := by decide +kernel
theorem dX0_isWhole_10 : decode cX0_isWhole 10 = .ok (.ifCond .eq 35, 3) := by decide +kernel
theorem dX0_isWhole_13 : decode cX0_isWhole 13 = .ok (.aload_n 0, 1) := by decide +kernel
theorem dX0_isWhole_14 : decode cX0_isWhole 14 = .ok (.getfield 22, 3) := by decide +kernel
theorem dX0_isWhole_17 : decode cX0_isWhole 17 = .ok (.iconst 1, 1) := by decide +kernel
theorem dX0_isWhole_18 : decode cX0_isWhole 18 = .ok (.iload_n 3, 1) := by decide +kernel
theorem dX0_isWhole_19 : decode cX0_isWhole 19 = .ok (.iload_n 1, 1) := by decide +kernel
theorem dX0_isWhole_20 : decode cX0_isWhole 20 = .ok (.invokevirtual 51, 3) := by decide +kernel
theorem dX0_isWhole_23 : decode cX0_isWhole 23 = .ok (.ifCond .eq 22, 3) := by decide +kernel
theorem dX0_isWhole_26 : decode cX0_isWhole 26 = .ok (.aload_n 0, 1) := by decide +kernel
theorem dX0_isWhole_27 : decode cX0_isWhole 27 = .ok (.getfield 22, 3) := by decide +kernel
theorem dX0_isWhole_30 : decode cX0_isWhole 30 = .ok (.iconst 2, 1) := by decide +kernel
theorem dX0_isWhole_31 : decode cX0_isWhole 31 = .ok (.iload_n 2, 1) := by decide +kernel
theorem dX0_isWhole_32 : decode cX0_isWhole 32 = .ok (.iadd, 1) := by decide +kernel
theorem dX0_isWhole_33 : decode cX0_isWhole 33 = .ok (.iload_n 3, 1) := by decide +kernel
theorem dX0_isWhole_34 : decode cX0_isWhole 34 = .ok (.iload_n 1, 1) := by decide +kernel
theorem dX0_isWhole_35 : decode cX0_isWhole 35 = .ok (.invokevirtual 51, 3) := by decide +kernel
theorem dX0_isWhole_38 : decode cX0_isWhole 38 = .ok (.ifCond .eq 7, 3) := by decide +kernel
theorem dX0_isWhole_41 : decode cX0_isWhole 41 = .ok (.iconst 1, 1) := by decide +kernel
theorem dX0_isWhole_42 : decode cX0_isWhole 42 = .ok (.goto 4, 3) := by decide +kernel
theorem dX0_isWhole_45 : decode cX0_isWhole 45 = .ok (.iconst 0, 1) := by decide +kernel
theorem dX0_isWhole_46 : decode cX0_isWhole 46 = .ok (.ireturn, 1) := by decide +kernel
theorem dX0_gatherOne_0 : decode cX0_gatherOne 0 = .ok (.aload_n 0, 1) := by decide +kernel
theorem dX0_gatherOne_1 : decode cX0_gatherOne 1 = .ok (.dup, 1) := by decide +kernel
theorem dX0_gatherOne_2 : decode cX0_gatherOne 2 = .ok (.getfield 140, 3) := by decide +kernel
theorem dX0_gatherOne_5 : decode cX0_gatherOne 5 = .ok (.iconst 1, 1) := by decide +kernel
theorem dX0_gatherOne_6 : decode cX0_gatherOne 6 = .ok (.iadd, 1) := by decide +kernel
theorem dX0_gatherOne_7 : decode cX0_gatherOne 7 = .ok (.putfield 140, 3) := by decide +kernel
theorem dX0_gatherOne_10 : decode cX0_gatherOne 10 = .ok (.iconst 0, 1) := by decide +kernel
theorem dX0_gatherOne_11 : decode cX0_gatherOne 11 = .ok (.istore 4, 2) := by decide +kernel
theorem dX0_gatherOne_13 : decode cX0_gatherOne 13 = .ok (.iload 4, 2) := by decide +kernel
theorem dX0_gatherOne_15 : decode cX0_gatherOne 15 = .ok (.iconst 3, 1) := by decide +kernel
theorem dX0_gatherOne_16 : decode cX0_gatherOne 16 = .ok (.if_icmp .ge 88, 3) := by decide +kernel
theorem dX0_gatherOne_19 : decode cX0_gatherOne 19 = .ok (.aload_n 0, 1) := by decide +kernel
theorem dX0_gatherOne_20 : decode cX0_gatherOne 20 = .ok (.getfield 22, 3) := by decide +kernel
theorem dX0_gatherOne_23 : decode cX0_gatherOne 23 = .ok (.iload 4, 2) := by decide +kernel
theorem dX0_gatherOne_25 : decode cX0_gatherOne 25 = .ok (.iload_n 2, 1) := by decide +kernel
theorem dX0_gatherOne_26 : decode cX0_gatherOne 26 = .ok (.invokestatic 156, 3) := by decide +kernel
theorem dX0_gatherOne_29 : decode cX0_gatherOne 29 = .ok (.iload_n 3, 1) := by decide +kernel
theorem dX0_gatherOne_30 : decode cX0_gatherOne 30 = .ok (.iload_n 1, 1) := by decide +kernel
theorem dX0_gatherOne_31 : decode cX0_gatherOne 31 = .ok (.invokevirtual 56, 3) := by decide +kernel
theorem dX0_gatherOne_34 : decode cX0_gatherOne 34 = .ok (.i2l, 1) := by decide +kernel
theorem dX0_gatherOne_35 : decode cX0_gatherOne 35 = .ok (.lstore 5, 2) := by decide +kernel
theorem dX0_gatherOne_37 : decode cX0_gatherOne 37 = .ok (.aload_n 0, 1) := by decide +kernel
theorem dX0_gatherOne_38 : decode cX0_gatherOne 38 = .ok (.getfield 11, 3) := by decide +kernel
theorem dX0_gatherOne_41 : decode cX0_gatherOne 41 = .ok (.iload 4, 2) := by decide +kernel
theorem dX0_gatherOne_43 : decode cX0_gatherOne 43 = .ok (.dup2, 1) := by decide +kernel
theorem dX0_gatherOne_44 : decode cX0_gatherOne 44 = .ok (.laload, 1) := by decide +kernel
theorem dX0_gatherOne_45 : decode cX0_gatherOne 45 = .ok (.lload 5, 2) := by decide +kernel
theorem dX0_gatherOne_47 : decode cX0_gatherOne 47 = .ok (.ladd, 1) := by decide +kernel
theorem dX0_gatherOne_48 : decode cX0_gatherOne 48 = .ok (.lastore, 1) := by decide +kernel
theorem dX0_gatherOne_49 : decode cX0_gatherOne 49 = .ok (.iconst 0, 1) := by decide +kernel
theorem dX0_gatherOne_50 : decode cX0_gatherOne 50 = .ok (.istore 7, 2) := by decide +kernel
theorem dX0_gatherOne_52 : decode cX0_gatherOne 52 = .ok (.iload 7, 2) := by decide +kernel
theorem dX0_gatherOne_54 : decode cX0_gatherOne 54 = .ok (.iconst 3, 1) := by decide +kernel
theorem dX0_gatherOne_55 : decode cX0_gatherOne 55 = .ok (.if_icmp .ge 43, 3) := by decide +kernel
theorem dX0_gatherOne_58 : decode cX0_gatherOne 58 = .ok (.aload_n 0, 1) := by decide +kernel
theorem dX0_gatherOne_59 : decode cX0_gatherOne 59 = .ok (.getfield 15, 3) := by decide +kernel
theorem dX0_gatherOne_62 : decode cX0_gatherOne 62 = .ok (.iload 4, 2) := by decide +kernel
theorem dX0_gatherOne_64 : decode cX0_gatherOne 64 = .ok (.iconst 3, 1) := by decide +kernel
theorem dX0_gatherOne_65 : decode cX0_gatherOne 65 = .ok (.imul, 1) := by decide +kernel
theorem dX0_gatherOne_66 : decode cX0_gatherOne 66 = .ok (.iload 7, 2) := by decide +kernel
theorem dX0_gatherOne_68 : decode cX0_gatherOne 68 = .ok (.iadd, 1) := by decide +kernel
theorem dX0_gatherOne_69 : decode cX0_gatherOne 69 = .ok (.dup2, 1) := by decide +kernel
theorem dX0_gatherOne_70 : decode cX0_gatherOne 70 = .ok (.laload, 1) := by decide +kernel
theorem dX0_gatherOne_71 : decode cX0_gatherOne 71 = .ok (.lload 5, 2) := by decide +kernel
theorem dX0_gatherOne_73 : decode cX0_gatherOne 73 = .ok (.aload_n 0, 1) := by decide +kernel
theorem dX0_gatherOne_74 : decode cX0_gatherOne 74 = .ok (.getfield 22, 3) := by decide +kernel
theorem dX0_gatherOne_77 : decode cX0_gatherOne 77 = .ok (.iload 7, 2) := by decide +kernel
theorem dX0_gatherOne_79 : decode cX0_gatherOne 79 = .ok (.iload_n 2, 1) := by decide +kernel
theorem dX0_gatherOne_80 : decode cX0_gatherOne 80 = .ok (.invokestatic 156, 3) := by decide +kernel
theorem dX0_gatherOne_83 : decode cX0_gatherOne 83 = .ok (.iload_n 3, 1) := by decide +kernel
theorem dX0_gatherOne_84 : decode cX0_gatherOne 84 = .ok (.iload_n 1, 1) := by decide +kernel
theorem dX0_gatherOne_85 : decode cX0_gatherOne 85 = .ok (.invokevirtual 56, 3) := by decide +kernel
theorem dX0_gatherOne_88 : decode cX0_gatherOne 88 = .ok (.i2l, 1) := by decide +kernel
theorem dX0_gatherOne_89 : decode cX0_gatherOne 89 = .ok (.lmul, 1) := by decide +kernel
theorem dX0_gatherOne_90 : decode cX0_gatherOne 90 = .ok (.ladd, 1) := by decide +kernel
theorem dX0_gatherOne_91 : decode cX0_gatherOne 91 = .ok (.lastore, 1) := by decide +kernel
theorem dX0_gatherOne_92 : decode cX0_gatherOne 92 = .ok (.iinc 7 1, 3) := by decide +kernel
theorem dX0_gatherOne_95 : decode cX0_gatherOne 95 = .ok (.goto (-43), 3) := by decide +kernel
theorem dX0_gatherOne_98 : decode cX0_gatherOne 98 = .ok (.iinc 4 1, 3) := by decide +kernel
theorem dX0_gatherOne_101 : decode cX0_gatherOne 101 = .ok (.goto (-88), 3) := by decide +kernel
theorem dX0_gatherOne_104 : decode cX0_gatherOne 104 = .ok (.return_, 1) := by decide +kernel
theorem dX0_kindOf_0 : decode cX0_kindOf 0 = .ok (.iload_n 0, 1) := by decide +kernel
theorem dX0_kindOf_1 : decode cX0_kindOf 1 = .ok (.iconst 2, 1) := by decide +kernel
theorem dX0_kindOf_2 : decode cX0_kindOf 2 = .ok (.if_icmp .ne 9, 3) := by decide +kernel
theorem dX0_kindOf_5 : decode cX0_kindOf 5 = .ok (.iconst 2, 1) := by decide +kernel
theorem dX0_kindOf_6 : decode cX0_kindOf 6 = .ok (.iload_n 1, 1) := by decide +kernel
theorem dX0_kindOf_7 : decode cX0_kindOf 7 = .ok (.iadd, 1) := by decide +kernel
theorem dX0_kindOf_8 : decode cX0_kindOf 8 = .ok (.goto 4, 3) := by decide +kernel
theorem dX0_kindOf_11 : decode cX0_kindOf 11 = .ok (.iload_n 0, 1) := by decide +kernel
theorem dX0_kindOf_12 : decode cX0_kindOf 12 = .ok (.ireturn, 1) := by decide +kernel
theorem dX0_spread_0 : decode cX0_spread 0 = .ok (.iload_n 1, 1) := by decide +kernel
theorem dX0_spread_1 : decode cX0_spread 1 = .ok (.iconst 0, 1) := by decide +kernel
theorem dX0_spread_2 : decode cX0_spread 2 = .ok (.iconst 2, 1) := by decide +kernel
theorem dX0_spread_3 : decode cX0_spread 3 = .ok (.invokestatic 30, 3) := by decide +kernel
theorem dX0_spread_6 : decode cX0_spread 6 = .ok (.ifCond .eq 16, 3) := by decide +kernel
theorem dX0_spread_9 : decode cX0_spread 9 = .ok (.iload_n 2, 1) := by decide +kernel
theorem dX0_spread_10 : decode cX0_spread 10 = .ok (.iconst 0, 1) := by decide +kernel
theorem dX0_spread_11 : decode cX0_spread 11 = .ok (.iconst 2, 1) := by decide +kernel
theorem dX0_spread_12 : decode cX0_spread 12 = .ok (.invokestatic 30, 3) := by decide +kernel
theorem dX0_spread_15 : decode cX0_spread 15 = .ok (.ifCond .eq 7, 3) := by decide +kernel
theorem dX0_spread_18 : decode cX0_spread 18 = .ok (.iconst 1, 1) := by decide +kernel
theorem dX0_spread_19 : decode cX0_spread 19 = .ok (.goto 4, 3) := by decide +kernel
theorem dX0_spread_22 : decode cX0_spread 22 = .ok (.iconst 0, 1) := by decide +kernel
theorem dX0_spread_23 : decode cX0_spread 23 = .ok (.istore_n 3, 1) := by decide +kernel
theorem dX0_spread_24 : decode cX0_spread 24 = .ok (.iload_n 3, 1) := by decide +kernel
theorem dX0_spread_25 : decode cX0_spread 25 = .ok (.ifCond .eq 36, 3) := by decide +kernel
theorem dX0_spread_28 : decode cX0_spread 28 = .ok (.aload_n 0, 1) := by decide +kernel
theorem dX0_spread_29 : decode cX0_spread 29 = .ok (.getfield 140, 3) := by decide +kernel
theorem dX0_spread_32 : decode cX0_spread 32 = .ok (.i2l, 1) := by decide +kernel
theorem dX0_spread_33 : decode cX0_spread 33 = .ok (.aload_n 0, 1) := by decide +kernel
theorem dX0_spread_34 : decode cX0_spread 34 = .ok (.getfield 15, 3) := by decide +kernel
theorem dX0_spread_37 : decode cX0_spread 37 = .ok (.iload_n 1, 1) := by decide +kernel
theorem dX0_spread_38 : decode cX0_spread 38 = .ok (.iconst 3, 1) := by decide +kernel
theorem dX0_spread_39 : decode cX0_spread 39 = .ok (.imul, 1) := by decide +kernel
theorem dX0_spread_40 : decode cX0_spread 40 = .ok (.iload_n 2, 1) := by decide +kernel
theorem dX0_spread_41 : decode cX0_spread 41 = .ok (.iadd, 1) := by decide +kernel
theorem dX0_spread_42 : decode cX0_spread 42 = .ok (.laload, 1) := by decide +kernel
theorem dX0_spread_43 : decode cX0_spread 43 = .ok (.lmul, 1) := by decide +kernel
theorem dX0_spread_44 : decode cX0_spread 44 = .ok (.aload_n 0, 1) := by decide +kernel
theorem dX0_spread_45 : decode cX0_spread 45 = .ok (.getfield 11, 3) := by decide +kernel
theorem dX0_spread_48 : decode cX0_spread 48 = .ok (.iload_n 1, 1) := by decide +kernel
theorem dX0_spread_49 : decode cX0_spread 49 = .ok (.laload, 1) := by decide +kernel
theorem dX0_spread_50 : decode cX0_spread 50 = .ok (.aload_n 0, 1) := by decide +kernel
theorem dX0_spread_51 : decode cX0_spread 51 = .ok (.getfield 11, 3) := by decide +kernel
theorem dX0_spread_54 : decode cX0_spread 54 = .ok (.iload_n 2, 1) := by decide +kernel
theorem dX0_spread_55 : decode cX0_spread 55 = .ok (.laload, 1) := by decide +kernel
theorem dX0_spread_56 : decode cX0_spread 56 = .ok (.lmul, 1) := by decide +kernel
theorem dX0_spread_57 : decode cX0_spread 57 = .ok (.lsub, 1) := by decide +kernel
theorem dX0_spread_58 : decode cX0_spread 58 = .ok (.goto 4, 3) := by decide +kernel
theorem dX0_spread_61 : decode cX0_spread 61 = .ok (.lconst 0, 1) := by decide +kernel
theorem dX0_spread_62 : decode cX0_spread 62 = .ok (.lreturn, 1) := by decide +kernel
theorem dX0_threeApart_0 : decode cX0_threeApart 0 = .ok (.aload_n 0, 1) := by decide +kernel
theorem dX0_threeApart_1 : decode cX0_threeApart 1 = .ok (.getfield 18, 3) := by decide +kernel
theorem dX0_threeApart_4 : decode cX0_threeApart 4 = .ok (.iload_n 1, 1) := by decide +kernel
theorem dX0_threeApart_5 : decode cX0_threeApart 5 = .ok (.invokevirtual 38, 3) := by decide +kernel
theorem dX0_threeApart_8 : decode cX0_threeApart 8 = .ok (.ifCond .eq 10, 3) := by decide +kernel
theorem dX0_threeApart_11 : decode cX0_threeApart 11 = .ok (.iload_n 2, 1) := by decide +kernel
theorem dX0_threeApart_12 : decode cX0_threeApart 12 = .ok (.invokestatic 86, 3) := by decide +kernel
theorem dX0_threeApart_15 : decode cX0_threeApart 15 = .ok (.ifCond .ne 5, 3) := by decide +kernel
theorem dX0_threeApart_18 : decode cX0_threeApart 18 = .ok (.iconst (-1), 1) := by decide +kernel
theorem dX0_threeApart_19 : decode cX0_threeApart 19 = .ok (.ireturn, 1) := by decide +kernel
theorem dX0_threeApart_20 : decode cX0_threeApart 20 = .ok (.aload_n 0, 1) := by decide +kernel
theorem dX0_threeApart_21 : decode cX0_threeApart 21 = .ok (.iload_n 1, 1) := by decide +kernel
theorem dX0_threeApart_22 : decode cX0_threeApart 22 = .ok (.iload_n 2, 1) := by decide +kernel
theorem dX0_threeApart_23 : decode cX0_threeApart 23 = .ok (.invokevirtual 159, 3) := by decide +kernel
theorem dX0_threeApart_26 : decode cX0_threeApart 26 = .ok (.aload_n 0, 1) := by decide +kernel
theorem dX0_threeApart_27 : decode cX0_threeApart 27 = .ok (.getfield 140, 3) := by decide +kernel
theorem dX0_threeApart_30 : decode cX0_threeApart 30 = .ok (.iconst 2, 1) := by decide +kernel
theorem dX0_threeApart_31 : decode cX0_threeApart 31 = .ok (.if_icmp .lt 33, 3) := by decide +kernel
theorem dX0_threeApart_34 : decode cX0_threeApart 34 = .ok (.aload_n 0, 1) := by decide +kernel
theorem dX0_threeApart_35 : decode cX0_threeApart 35 = .ok (.iconst 0, 1) := by decide +kernel
theorem dX0_threeApart_36 : decode cX0_threeApart 36 = .ok (.invokevirtual 162, 3) := by decide +kernel
theorem dX0_threeApart_39 : decode cX0_threeApart 39 = .ok (.lconst 0, 1) := by decide +kernel
theorem dX0_threeApart_40 : decode cX0_threeApart 40 = .ok (.lcmp, 1) := by decide +kernel
theorem dX0_threeApart_41 : decode cX0_threeApart 41 = .ok (.ifCond .eq 23, 3) := by decide +kernel
theorem dX0_threeApart_44 : decode cX0_threeApart 44 = .ok (.aload_n 0, 1) := by decide +kernel
theorem dX0_threeApart_45 : decode cX0_threeApart 45 = .ok (.iconst 1, 1) := by decide +kernel
theorem dX0_threeApart_46 : decode cX0_threeApart 46 = .ok (.invokevirtual 162, 3) := by decide +kernel
theorem dX0_threeApart_49 : decode cX0_threeApart 49 = .ok (.lconst 0, 1) := by decide +kernel
theorem dX0_threeApart_50 : decode cX0_threeApart 50 = .ok (.lcmp, 1) := by decide +kernel
theorem dX0_threeApart_51 : decode cX0_threeApart 51 = .ok (.ifCond .eq 13, 3) := by decide +kernel
theorem dX0_threeApart_54 : decode cX0_threeApart 54 = .ok (.aload_n 0, 1) := by decide +kernel
theorem dX0_threeApart_55 : decode cX0_threeApart 55 = .ok (.iconst 2, 1) := by decide +kernel
theorem dX0_threeApart_56 : decode cX0_threeApart 56 = .ok (.invokevirtual 162, 3) := by decide +kernel
theorem dX0_threeApart_59 : decode cX0_threeApart 59 = .ok (.lconst 0, 1) := by decide +kernel
theorem dX0_threeApart_60 : decode cX0_threeApart 60 = .ok (.lcmp, 1) := by decide +kernel
theorem dX0_threeApart_61 : decode cX0_threeApart 61 = .ok (.ifCond .ne 6, 3) := by decide +kernel
theorem dX0_threeApart_64 : decode cX0_threeApart 64 = .ok (.bipush (-2), 2) := by decide +kernel
theorem dX0_threeApart_66 : decode cX0_threeApart 66 = .ok (.ireturn, 1) := by decide +kernel
theorem dX0_threeApart_67 : decode cX0_threeApart 67 = .ok (.aload_n 0, 1) := by decide +kernel
theorem dX0_threeApart_68 : decode cX0_threeApart 68 = .ok (.getfield 26, 3) := by decide +kernel
theorem dX0_threeApart_71 : decode cX0_threeApart 71 = .ok (.invokevirtual 60, 3) := by decide +kernel
theorem dX0_threeApart_74 : decode cX0_threeApart 74 = .ok (.pop, 1) := by decide +kernel
theorem dX0_threeApart_75 : decode cX0_threeApart 75 = .ok (.iconst 0, 1) := by decide +kernel
theorem dX0_threeApart_76 : decode cX0_threeApart 76 = .ok (.istore_n 3, 1) := by decide +kernel
theorem dX0_threeApart_77 : decode cX0_threeApart 77 = .ok (.iload_n 3, 1) := by decide +kernel
theorem dX0_threeApart_78 : decode cX0_threeApart 78 = .ok (.iconst 3, 1) := by decide +kernel
theorem dX0_threeApart_79 : decode cX0_threeApart 79 = .ok (.if_icmp .ge 50, 3) := by decide +kernel
theorem dX0_threeApart_82 : decode cX0_threeApart 82 = .ok (.aload_n 0, 1) := by decide +kernel
theorem dX0_threeApart_83 : decode cX0_threeApart 83 = .ok (.iload_n 3, 1) := by decide +kernel
theorem dX0_threeApart_84 : decode cX0_threeApart 84 = .ok (.iload_n 3, 1) := by decide +kernel
theorem dX0_threeApart_85 : decode cX0_threeApart 85 = .ok (.iconst 1, 1) := by decide +kernel
theorem dX0_threeApart_86 : decode cX0_threeApart 86 = .ok (.iadd, 1) := by decide +kernel
theorem dX0_threeApart_87 : decode cX0_threeApart 87 = .ok (.iconst 3, 1) := by decide +kernel
theorem dX0_threeApart_88 : decode cX0_threeApart 88 = .ok (.irem, 1) := by decide +kernel
theorem dX0_threeApart_89 : decode cX0_threeApart 89 = .ok (.invokevirtual 166, 3) := by decide +kernel
theorem dX0_threeApart_92 : decode cX0_threeApart 92 = .ok (.aload_n 0, 1) := by decide +kernel
theorem dX0_threeApart_93 : decode cX0_threeApart 93 = .ok (.iload_n 3, 1) := by decide +kernel
theorem dX0_threeApart_94 : decode cX0_threeApart 94 = .ok (.iload_n 3, 1) := by decide +kernel
theorem dX0_threeApart_95 : decode cX0_threeApart 95 = .ok (.iconst 2, 1) := by decide +kernel
theorem dX0_threeApart_96 : decode cX0_threeApart 96 = .ok (.iadd, 1) := by decide +kernel
theorem dX0_threeApart_97 : decode cX0_threeApart 97 = .ok (.iconst 3, 1) := by decide +kernel
theorem dX0_threeApart_98 : decode cX0_threeApart 98 = .ok (.irem, 1) := by decide +kernel
theorem dX0_threeApart_99 : decode cX0_threeApart 99 = .ok (.invokevirtual 166, 3) := by decide +kernel
theorem dX0_threeApart_102 : decode cX0_threeApart 102 = .ok (.lmul, 1) := by decide +kernel
theorem dX0_threeApart_103 : decode cX0_threeApart 103 = .ok (.lstore 4, 2) := by decide +kernel
theorem dX0_threeApart_105 : decode cX0_threeApart 105 = .ok (.aload_n 0, 1) := by decide +kernel
theorem dX0_threeApart_106 : decode cX0_threeApart 106 = .ok (.getfield 26, 3) := by decide +kernel
theorem dX0_threeApart_109 : decode cX0_threeApart 109 = .ok (.lload 4, 2) := by decide +kernel
theorem dX0_threeApart_111 : decode cX0_threeApart 111 = .ok (.aload_n 0, 1) := by decide +kernel
theorem dX0_threeApart_112 : decode cX0_threeApart 112 = .ok (.iload_n 3, 1) := by decide +kernel
theorem dX0_threeApart_113 : decode cX0_threeApart 113 = .ok (.invokevirtual 162, 3) := by decide +kernel
theorem dX0_threeApart_116 : decode cX0_threeApart 116 = .ok (.invokestatic 170, 3) := by decide +kernel
theorem dX0_threeApart_119 : decode cX0_threeApart 119 = .ok (.invokevirtual 66, 3) := by decide +kernel
theorem dX0_threeApart_122 : decode cX0_threeApart 122 = .ok (.pop, 1) := by decide +kernel
theorem dX0_threeApart_123 : decode cX0_threeApart 123 = .ok (.iinc 3 1, 3) := by decide +kernel
theorem dX0_threeApart_126 : decode cX0_threeApart 126 = .ok (.goto (-49), 3) := by decide +kernel
theorem dX0_threeApart_129 : decode cX0_threeApart 129 = .ok (.aload_n 0, 1) := by decide +kernel
theorem dX0_threeApart_130 : decode cX0_threeApart 130 = .ok (.getfield 140, 3) := by decide +kernel
theorem dX0_threeApart_133 : decode cX0_threeApart 133 = .ok (.ireturn, 1) := by decide +kernel
theorem dX0_lowerOf_0 : decode cX0_lowerOf 0 = .ok (.aload_n 0, 1) := by decide +kernel
theorem dX0_lowerOf_1 : decode cX0_lowerOf 1 = .ok (.iload_n 1, 1) := by decide +kernel
theorem dX0_lowerOf_2 : decode cX0_lowerOf 2 = .ok (.iconst 1, 1) := by decide +kernel
theorem dX0_lowerOf_3 : decode cX0_lowerOf 3 = .ok (.iadd, 1) := by decide +kernel
theorem dX0_lowerOf_4 : decode cX0_lowerOf 4 = .ok (.iconst 3, 1) := by decide +kernel
theorem dX0_lowerOf_5 : decode cX0_lowerOf 5 = .ok (.irem, 1) := by decide +kernel
theorem dX0_lowerOf_6 : decode cX0_lowerOf 6 = .ok (.iload_n 1, 1) := by decide +kernel
theorem dX0_lowerOf_7 : decode cX0_lowerOf 7 = .ok (.iconst 2, 1) := by decide +kernel
theorem dX0_lowerOf_8 : decode cX0_lowerOf 8 = .ok (.iadd, 1) := by decide +kernel
theorem dX0_lowerOf_9 : decode cX0_lowerOf 9 = .ok (.iconst 3, 1) := by decide +kernel
theorem dX0_lowerOf_10 : decode cX0_lowerOf 10 = .ok (.irem, 1) := by decide +kernel
theorem dX0_lowerOf_11 : decode cX0_lowerOf 11 = .ok (.invokevirtual 166, 3) := by decide +kernel
theorem dX0_lowerOf_14 : decode cX0_lowerOf 14 = .ok (.aload_n 0, 1) := by decide +kernel
theorem dX0_lowerOf_15 : decode cX0_lowerOf 15 = .ok (.iload_n 1, 1) := by decide +kernel
theorem dX0_lowerOf_16 : decode cX0_lowerOf 16 = .ok (.iload_n 1, 1) := by decide +kernel
theorem dX0_lowerOf_17 : decode cX0_lowerOf 17 = .ok (.invokevirtual 166, 3) := by decide +kernel
theorem dX0_lowerOf_20 : decode cX0_lowerOf 20 = .ok (.lmul, 1) := by decide +kernel
theorem dX0_lowerOf_21 : decode cX0_lowerOf 21 = .ok (.lreturn, 1) := by decide +kernel
theorem dX0_thousandths_0 : decode cX0_thousandths 0 = .ok (.lload_n 2, 1) := by decide +kernel
theorem dX0_thousandths_1 : decode cX0_thousandths 1 = .ok (.invokestatic 174, 3) := by decide +kernel
theorem dX0_thousandths_4 : decode cX0_thousandths 4 = .ok (.lstore 4, 2) := by decide +kernel
theorem dX0_thousandths_6 : decode cX0_thousandths 6 = .ok (.lload 4, 2) := by decide +kernel
theorem dX0_thousandths_8 : decode cX0_thousandths 8 = .ok (.lconst 0, 1) := by decide +kernel
theorem dX0_thousandths_9 : decode cX0_thousandths 9 = .ok (.lcmp, 1) := by decide +kernel
theorem dX0_thousandths_10 : decode cX0_thousandths 10 = .ok (.ifCond .ne 5, 3) := by decide +kernel
theorem dX0_thousandths_13 : decode cX0_thousandths 13 = .ok (.lconst 0, 1) := by decide +kernel
theorem dX0_thousandths_14 : decode cX0_thousandths 14 = .ok (.lreturn, 1) := by decide +kernel
theorem dX0_thousandths_15 : decode cX0_thousandths 15 = .ok (.lload_n 0, 1) := by decide +kernel
theorem dX0_thousandths_16 : decode cX0_thousandths 16 = .ok (.invokestatic 174, 3) := by decide +kernel
theorem dX0_thousandths_19 : decode cX0_thousandths 19 = .ok (.lload 4, 2) := by decide +kernel
theorem dX0_thousandths_21 : decode cX0_thousandths 21 = .ok (.lrem, 1) := by decide +kernel
theorem dX0_thousandths_22 : decode cX0_thousandths 22 = .ok (.lstore 6, 2) := by decide +kernel
theorem dX0_thousandths_24 : decode cX0_thousandths 24 = .ok (.lload_n 0, 1) := by decide +kernel
theorem dX0_thousandths_25 : decode cX0_thousandths 25 = .ok (.invokestatic 174, 3) := by decide +kernel
theorem dX0_thousandths_28 : decode cX0_thousandths 28 = .ok (.lload 4, 2) := by decide +kernel
theorem dX0_thousandths_30 : decode cX0_thousandths 30 = .ok (.ldiv, 1) := by decide +kernel
theorem dX0_thousandths_31 : decode cX0_thousandths 31 = .ok (.lstore 8, 2) := by decide +kernel
theorem dX0_thousandths_33 : decode cX0_thousandths 33 = .ok (.lconst 0, 1) := by decide +kernel
theorem dX0_thousandths_34 : decode cX0_thousandths 34 = .ok (.lstore 10, 2) := by decide +kernel
theorem dX0_thousandths_36 : decode cX0_thousandths 36 = .ok (.lconst 0, 1) := by decide +kernel
theorem dX0_thousandths_37 : decode cX0_thousandths 37 = .ok (.lstore 12, 2) := by decide +kernel
theorem dX0_thousandths_39 : decode cX0_thousandths 39 = .ok (.bipush 9, 2) := by decide +kernel
theorem dX0_thousandths_41 : decode cX0_thousandths 41 = .ok (.istore 14, 2) := by decide +kernel
theorem dX0_thousandths_43 : decode cX0_thousandths 43 = .ok (.iload 14, 2) := by decide +kernel
theorem dX0_thousandths_45 : decode cX0_thousandths 45 = .ok (.ifCond .lt 136, 3) := by decide +kernel
theorem dX0_thousandths_48 : decode cX0_thousandths 48 = .ok (.lload 12, 2) := by decide +kernel
theorem dX0_thousandths_50 : decode cX0_thousandths 50 = .ok (.lload 4, 2) := by decide +kernel
theorem dX0_thousandths_52 : decode cX0_thousandths 52 = .ok (.lload 12, 2) := by decide +kernel
theorem dX0_thousandths_54 : decode cX0_thousandths 54 = .ok (.lsub, 1) := by decide +kernel
theorem dX0_thousandths_55 : decode cX0_thousandths 55 = .ok (.lcmp, 1) := by decide +kernel
theorem dX0_thousandths_56 : decode cX0_thousandths 56 = .ok (.ifCond .lt 7, 3) := by decide +kernel
theorem dX0_thousandths_59 : decode cX0_thousandths 59 = .ok (.iconst 1, 1) := by decide +kernel
theorem dX0_thousandths_60 : decode cX0_thousandths 60 = .ok (.goto 4, 3) := by decide +kernel
theorem dX0_thousandths_63 : decode cX0_thousandths 63 = .ok (.iconst 0, 1) := by decide +kernel
theorem dX0_thousandths_64 : decode cX0_thousandths 64 = .ok (.istore 15, 2) := by decide +kernel
theorem dX0_thousandths_66 : decode cX0_thousandths 66 = .ok (.iload 15, 2) := by decide +kernel
theorem dX0_thousandths_68 : decode cX0_thousandths 68 = .ok (.ifCond .eq 14, 3) := by decide +kernel
theorem dX0_thousandths_71 : decode cX0_thousandths 71 = .ok (.lload 12, 2) := by decide +kernel
theorem dX0_thousandths_73 : decode cX0_thousandths 73 = .ok (.lload 4, 2) := by decide +kernel
theorem dX0_thousandths_75 : decode cX0_thousandths 75 = .ok (.lload 12, 2) := by decide +kernel
theorem dX0_thousandths_77 : decode cX0_thousandths 77 = .ok (.lsub, 1) := by decide +kernel
theorem dX0_thousandths_78 : decode cX0_thousandths 78 = .ok (.lsub, 1) := by decide +kernel
theorem dX0_thousandths_79 : decode cX0_thousandths 79 = .ok (.goto 8, 3) := by decide +kernel
theorem dX0_thousandths_82 : decode cX0_thousandths 82 = .ok (.lload 12, 2) := by decide +kernel
theorem dX0_thousandths_84 : decode cX0_thousandths 84 = .ok (.lload 12, 2) := by decide +kernel
theorem dX0_thousandths_86 : decode cX0_thousandths 86 = .ok (.ladd, 1) := by decide +kernel
theorem dX0_thousandths_87 : decode cX0_thousandths 87 = .ok (.lstore 12, 2) := by decide +kernel
theorem dX0_thousandths_89 : decode cX0_thousandths 89 = .ok (.lload 10, 2) := by decide +kernel
theorem dX0_thousandths_91 : decode cX0_thousandths 91 = .ok (.lload 10, 2) := by decide +kernel
theorem dX0_thousandths_93 : decode cX0_thousandths 93 = .ok (.ladd, 1) := by decide +kernel
theorem dX0_thousandths_94 : decode cX0_thousandths 94 = .ok (.iload 15, 2) := by decide +kernel
theorem dX0_thousandths_96 : decode cX0_thousandths 96 = .ok (.ifCond .eq 7, 3) := by decide +kernel
theorem dX0_thousandths_99 : decode cX0_thousandths 99 = .ok (.iconst 1, 1) := by decide +kernel
theorem dX0_thousandths_100 : decode cX0_thousandths 100 = .ok (.goto 4, 3) := by decide +kernel
theorem dX0_thousandths_103 : decode cX0_thousandths 103 = .ok (.iconst 0, 1) := by decide +kernel
theorem dX0_thousandths_104 : decode cX0_thousandths 104 = .ok (.i2l, 1) := by decide +kernel
theorem dX0_thousandths_105 : decode cX0_thousandths 105 = .ok (.ladd, 1) := by decide +kernel
theorem dX0_thousandths_106 : decode cX0_thousandths 106 = .ok (.lstore 10, 2) := by decide +kernel
theorem dX0_thousandths_108 : decode cX0_thousandths 108 = .ok (.sipush 1000, 3) := by decide +kernel
theorem dX0_thousandths_111 : decode cX0_thousandths 111 = .ok (.iload 14, 2) := by decide +kernel
theorem dX0_thousandths_113 : decode cX0_thousandths 113 = .ok (.invokestatic 47, 3) := by decide +kernel
theorem dX0_thousandths_116 : decode cX0_thousandths 116 = .ok (.ifCond .eq 59, 3) := by decide +kernel
theorem dX0_thousandths_119 : decode cX0_thousandths 119 = .ok (.lload 12, 2) := by decide +kernel
theorem dX0_thousandths_121 : decode cX0_thousandths 121 = .ok (.lload 4, 2) := by decide +kernel
theorem dX0_thousandths_123 : decode cX0_thousandths 123 = .ok (.lload 6, 2) := by decide +kernel
theorem dX0_thousandths_125 : decode cX0_thousandths 125 = .ok (.lsub, 1) := by decide +kernel
theorem dX0_thousandths_126 : decode cX0_thousandths 126 = .ok (.lcmp, 1) := by decide +kernel
theorem dX0_thousandths_127 : decode cX0_thousandths 127 = .ok (.ifCond .lt 7, 3) := by decide +kernel
theorem dX0_thousandths_130 : decode cX0_thousandths 130 = .ok (.iconst 1, 1) := by decide +kernel
theorem dX0_thousandths_131 : decode cX0_thousandths 131 = .ok (.goto 4, 3) := by decide +kernel
theorem dX0_thousandths_134 : decode cX0_thousandths 134 = .ok (.iconst 0, 1) := by decide +kernel
theorem dX0_thousandths_135 : decode cX0_thousandths 135 = .ok (.istore 15, 2) := by decide +kernel
theorem dX0_thousandths_137 : decode cX0_thousandths 137 = .ok (.iload 15, 2) := by decide +kernel
theorem dX0_thousandths_139 : decode cX0_thousandths 139 = .ok (.ifCond .eq 14, 3) := by decide +kernel
theorem dX0_thousandths_142 : decode cX0_thousandths 142 = .ok (.lload 12, 2) := by decide +kernel
theorem dX0_thousandths_144 : decode cX0_thousandths 144 = .ok (.lload 4, 2) := by decide +kernel
theorem dX0_thousandths_146 : decode cX0_thousandths 146 = .ok (.lload 6, 2) := by decide +kernel
theorem dX0_thousandths_148 : decode cX0_thousandths 148 = .ok (.lsub, 1) := by decide +kernel
theorem dX0_thousandths_149 : decode cX0_thousandths 149 = .ok (.lsub, 1) := by decide +kernel
theorem dX0_thousandths_150 : decode cX0_thousandths 150 = .ok (.goto 8, 3) := by decide +kernel
theorem dX0_thousandths_153 : decode cX0_thousandths 153 = .ok (.lload 12, 2) := by decide +kernel
theorem dX0_thousandths_155 : decode cX0_thousandths 155 = .ok (.lload 6, 2) := by decide +kernel
theorem dX0_thousandths_157 : decode cX0_thousandths 157 = .ok (.ladd, 1) := by decide +kernel
theorem dX0_thousandths_158 : decode cX0_thousandths 158 = .ok (.lstore 12, 2) := by decide +kernel
theorem dX0_thousandths_160 : decode cX0_thousandths 160 = .ok (.lload 10, 2) := by decide +kernel
theorem dX0_thousandths_162 : decode cX0_thousandths 162 = .ok (.iload 15, 2) := by decide +kernel
theorem dX0_thousandths_164 : decode cX0_thousandths 164 = .ok (.ifCond .eq 7, 3) := by decide +kernel
theorem dX0_thousandths_167 : decode cX0_thousandths 167 = .ok (.lconst 1, 1) := by decide +kernel
theorem dX0_thousandths_168 : decode cX0_thousandths 168 = .ok (.goto 4, 3) := by decide +kernel
theorem dX0_thousandths_171 : decode cX0_thousandths 171 = .ok (.lconst 0, 1) := by decide +kernel
theorem dX0_thousandths_172 : decode cX0_thousandths 172 = .ok (.ladd, 1) := by decide +kernel
theorem dX0_thousandths_173 : decode cX0_thousandths 173 = .ok (.lstore 10, 2) := by decide +kernel
theorem dX0_thousandths_175 : decode cX0_thousandths 175 = .ok (.iinc 14 (-1), 3) := by decide +kernel
theorem dX0_thousandths_178 : decode cX0_thousandths 178 = .ok (.goto (-135), 3) := by decide +kernel
theorem dX0_thousandths_181 : decode cX0_thousandths 181 = .ok (.lload 8, 2) := by decide +kernel
theorem dX0_thousandths_183 : decode cX0_thousandths 183 = .ok (.ldc2_w 177, 3) := by decide +kernel
theorem dX0_thousandths_186 : decode cX0_thousandths 186 = .ok (.lmul, 1) := by decide +kernel
theorem dX0_thousandths_187 : decode cX0_thousandths 187 = .ok (.lload 10, 2) := by decide +kernel
theorem dX0_thousandths_189 : decode cX0_thousandths 189 = .ok (.ladd, 1) := by decide +kernel
theorem dX0_thousandths_190 : decode cX0_thousandths 190 = .ok (.lstore 14, 2) := by decide +kernel
theorem dX0_thousandths_192 : decode cX0_thousandths 192 = .ok (.lload_n 0, 1) := by decide +kernel
theorem dX0_thousandths_193 : decode cX0_thousandths 193 = .ok (.lconst 0, 1) := by decide +kernel
theorem dX0_thousandths_194 : decode cX0_thousandths 194 = .ok (.lcmp, 1) := by decide +kernel
theorem dX0_thousandths_195 : decode cX0_thousandths 195 = .ok (.ifCond .ge 7, 3) := by decide +kernel
theorem dX0_thousandths_198 : decode cX0_thousandths 198 = .ok (.iconst 1, 1) := by decide +kernel
theorem dX0_thousandths_199 : decode cX0_thousandths 199 = .ok (.goto 4, 3) := by decide +kernel
theorem dX0_thousandths_202 : decode cX0_thousandths 202 = .ok (.iconst 0, 1) := by decide +kernel
theorem dX0_thousandths_203 : decode cX0_thousandths 203 = .ok (.lload_n 2, 1) := by decide +kernel
theorem dX0_thousandths_204 : decode cX0_thousandths 204 = .ok (.lconst 0, 1) := by decide +kernel
theorem dX0_thousandths_205 : decode cX0_thousandths 205 = .ok (.lcmp, 1) := by decide +kernel
theorem dX0_thousandths_206 : decode cX0_thousandths 206 = .ok (.ifCond .ge 7, 3) := by decide +kernel
theorem dX0_thousandths_209 : decode cX0_thousandths 209 = .ok (.iconst 1, 1) := by decide +kernel
theorem dX0_thousandths_210 : decode cX0_thousandths 210 = .ok (.goto 4, 3) := by decide +kernel
theorem dX0_thousandths_213 : decode cX0_thousandths 213 = .ok (.iconst 0, 1) := by decide +kernel
theorem dX0_thousandths_214 : decode cX0_thousandths 214 = .ok (.if_icmp .ne 8, 3) := by decide +kernel
theorem dX0_thousandths_217 : decode cX0_thousandths 217 = .ok (.lload 14, 2) := by decide +kernel
theorem dX0_thousandths_219 : decode cX0_thousandths 219 = .ok (.goto 6, 3) := by decide +kernel
theorem dX0_thousandths_222 : decode cX0_thousandths 222 = .ok (.lload 14, 2) := by decide +kernel
theorem dX0_thousandths_224 : decode cX0_thousandths 224 = .ok (.lneg, 1) := by decide +kernel
theorem dX0_thousandths_225 : decode cX0_thousandths 225 = .ok (.lreturn, 1) := by decide +kernel
theorem dX0_saidByShop_0 : decode cX0_saidByShop 0 = .ok (.aload_n 0, 1) := by decide +kernel
theorem dX0_saidByShop_1 : decode cX0_saidByShop 1 = .ok (.getfield 18, 3) := by decide +kernel
theorem dX0_saidByShop_4 : decode cX0_saidByShop 4 = .ok (.iload_n 1, 1) := by decide +kernel
theorem dX0_saidByShop_5 : decode cX0_saidByShop 5 = .ok (.invokevirtual 38, 3) := by decide +kernel
theorem dX0_saidByShop_8 : decode cX0_saidByShop 8 = .ok (.ifCond .eq 10, 3) := by decide +kernel
theorem dX0_saidByShop_11 : decode cX0_saidByShop 11 = .ok (.iload_n 2, 1) := by decide +kernel
theorem dX0_saidByShop_12 : decode cX0_saidByShop 12 = .ok (.invokestatic 86, 3) := by decide +kernel
theorem dX0_saidByShop_15 : decode cX0_saidByShop 15 = .ok (.ifCond .ne 5, 3) := by decide +kernel
theorem dX0_saidByShop_18 : decode cX0_saidByShop 18 = .ok (.iconst (-1), 1) := by decide +kernel
theorem dX0_saidByShop_19 : decode cX0_saidByShop 19 = .ok (.ireturn, 1) := by decide +kernel
theorem dX0_saidByShop_20 : decode cX0_saidByShop 20 = .ok (.aload_n 0, 1) := by decide +kernel
theorem dX0_saidByShop_21 : decode cX0_saidByShop 21 = .ok (.iload_n 1, 1) := by decide +kernel
theorem dX0_saidByShop_22 : decode cX0_saidByShop 22 = .ok (.iload_n 2, 1) := by decide +kernel
theorem dX0_saidByShop_23 : decode cX0_saidByShop 23 = .ok (.invokevirtual 159, 3) := by decide +kernel
theorem dX0_saidByShop_26 : decode cX0_saidByShop 26 = .ok (.aload_n 0, 1) := by decide +kernel
theorem dX0_saidByShop_27 : decode cX0_saidByShop 27 = .ok (.getfield 140, 3) := by decide +kernel
theorem dX0_saidByShop_30 : decode cX0_saidByShop 30 = .ok (.iconst 2, 1) := by decide +kernel
theorem dX0_saidByShop_31 : decode cX0_saidByShop 31 = .ok (.if_icmp .lt 14, 3) := by decide +kernel
theorem dX0_saidByShop_34 : decode cX0_saidByShop 34 = .ok (.aload_n 0, 1) := by decide +kernel
theorem dX0_saidByShop_35 : decode cX0_saidByShop 35 = .ok (.iconst 0, 1) := by decide +kernel
theorem dX0_saidByShop_36 : decode cX0_saidByShop 36 = .ok (.iconst 1, 1) := by decide +kernel
theorem dX0_saidByShop_37 : decode cX0_saidByShop 37 = .ok (.invokevirtual 166, 3) := by decide +kernel
theorem dX0_saidByShop_40 : decode cX0_saidByShop 40 = .ok (.lconst 0, 1) := by decide +kernel
theorem dX0_saidByShop_41 : decode cX0_saidByShop 41 = .ok (.lcmp, 1) := by decide +kernel
theorem dX0_saidByShop_42 : decode cX0_saidByShop 42 = .ok (.ifCond .ne 6, 3) := by decide +kernel
theorem dX0_saidByShop_45 : decode cX0_saidByShop 45 = .ok (.bipush (-2), 2) := by decide +kernel
theorem dX0_saidByShop_47 : decode cX0_saidByShop 47 = .ok (.ireturn, 1) := by decide +kernel
theorem dX0_saidByShop_48 : decode cX0_saidByShop 48 = .ok (.aload_n 0, 1) := by decide +kernel
theorem dX0_saidByShop_49 : decode cX0_saidByShop 49 = .ok (.getfield 26, 3) := by decide +kernel
theorem dX0_saidByShop_52 : decode cX0_saidByShop 52 = .ok (.invokevirtual 60, 3) := by decide +kernel
theorem dX0_saidByShop_55 : decode cX0_saidByShop 55 = .ok (.aload_n 0, 1) := by decide +kernel
theorem dX0_saidByShop_56 : decode cX0_saidByShop 56 = .ok (.iconst 0, 1) := by decide +kernel
theorem dX0_saidByShop_57 : decode cX0_saidByShop 57 = .ok (.iconst 2, 1) := by decide +kernel
theorem dX0_saidByShop_58 : decode cX0_saidByShop 58 = .ok (.invokevirtual 166, 3) := by decide +kernel
theorem dX0_saidByShop_61 : decode cX0_saidByShop 61 = .ok (.aload_n 0, 1) := by decide +kernel
theorem dX0_saidByShop_62 : decode cX0_saidByShop 62 = .ok (.iconst 0, 1) := by decide +kernel
theorem dX0_saidByShop_63 : decode cX0_saidByShop 63 = .ok (.iconst 1, 1) := by decide +kernel
theorem dX0_saidByShop_64 : decode cX0_saidByShop 64 = .ok (.invokevirtual 166, 3) := by decide +kernel
theorem dX0_saidByShop_67 : decode cX0_saidByShop 67 = .ok (.invokevirtual 80, 3) := by decide +kernel
theorem dX0_saidByShop_70 : decode cX0_saidByShop 70 = .ok (.pop, 1) := by decide +kernel
theorem dX0_saidByShop_71 : decode cX0_saidByShop 71 = .ok (.iconst 0, 1) := by decide +kernel
theorem dX0_saidByShop_72 : decode cX0_saidByShop 72 = .ok (.ireturn, 1) := by decide +kernel
theorem dX0_hasNeighbours_0 : decode cX0_hasNeighbours 0 = .ok (.aload_n 0, 1) := by decide +kernel
theorem dX0_hasNeighbours_1 : decode cX0_hasNeighbours 1 = .ok (.getfield 22, 3) := by decide +kernel
theorem dX0_hasNeighbours_4 : decode cX0_hasNeighbours 4 = .ok (.iconst 1, 1) := by decide +kernel
theorem dX0_hasNeighbours_5 : decode cX0_hasNeighbours 5 = .ok (.iload_n 3, 1) := by decide +kernel
theorem dX0_hasNeighbours_6 : decode cX0_hasNeighbours 6 = .ok (.iload_n 1, 1) := by decide +kernel
theorem dX0_hasNeighbours_7 : decode cX0_hasNeighbours 7 = .ok (.invokevirtual 51, 3) := by decide +kernel
theorem dX0_hasNeighbours_10 : decode cX0_hasNeighbours 10 = .ok (.ifCond .eq 35, 3) := by decide +kernel
theorem dX0_hasNeighbours_13 : decode cX0_hasNeighbours 13 = .ok (.aload_n 0, 1) := by decide +kernel
theorem dX0_hasNeighbours_14 : decode cX0_hasNeighbours 14 = .ok (.getfield 22, 3) := by decide +kernel
theorem dX0_hasNeighbours_17 : decode cX0_hasNeighbours 17 = .ok (.iconst 2, 1) := by decide +kernel
theorem dX0_hasNeighbours_18 : decode cX0_hasNeighbours 18 = .ok (.iload_n 2, 1) := by decide +kernel
theorem dX0_hasNeighbours_19 : decode cX0_hasNeighbours 19 = .ok (.iadd, 1) := by decide +kernel
theorem dX0_hasNeighbours_20 : decode cX0_hasNeighbours 20 = .ok (.iload_n 3, 1) := by decide +kernel
theorem dX0_hasNeighbours_21 : decode cX0_hasNeighbours 21 = .ok (.iload_n 1, 1) := by decide +kernel
theorem dX0_hasNeighbours_22 : decode cX0_hasNeighbours 22 = .ok (.invokevirtual 51, 3) := by decide +kernel
theorem dX0_hasNeighbours_25 : decode cX0_hasNeighbours 25 = .ok (.ifCond .eq 20, 3) := by decide +kernel
theorem dX0_hasNeighbours_28 : decode cX0_hasNeighbours 28 = .ok (.aload_n 0, 1) := by decide +kernel
theorem dX0_hasNeighbours_29 : decode cX0_hasNeighbours 29 = .ok (.getfield 22, 3) := by decide +kernel
theorem dX0_hasNeighbours_32 : decode cX0_hasNeighbours 32 = .ok (.iconst 5, 1) := by decide +kernel
theorem dX0_hasNeighbours_33 : decode cX0_hasNeighbours 33 = .ok (.iload_n 3, 1) := by decide +kernel
theorem dX0_hasNeighbours_34 : decode cX0_hasNeighbours 34 = .ok (.iload_n 1, 1) := by decide +kernel
theorem dX0_hasNeighbours_35 : decode cX0_hasNeighbours 35 = .ok (.invokevirtual 51, 3) := by decide +kernel
theorem dX0_hasNeighbours_38 : decode cX0_hasNeighbours 38 = .ok (.ifCond .eq 7, 3) := by decide +kernel
theorem dX0_hasNeighbours_41 : decode cX0_hasNeighbours 41 = .ok (.iconst 1, 1) := by decide +kernel
theorem dX0_hasNeighbours_42 : decode cX0_hasNeighbours 42 = .ok (.goto 4, 3) := by decide +kernel
theorem dX0_hasNeighbours_45 : decode cX0_hasNeighbours 45 = .ok (.iconst 0, 1) := by decide +kernel
theorem dX0_hasNeighbours_46 : decode cX0_hasNeighbours 46 = .ok (.ireturn, 1) := by decide +kernel
theorem dX0_nearerNeighbours_0 : decode cX0_nearerNeighbours 0 = .ok (.aload_n 0, 1) := by decide +kernel
theorem dX0_nearerNeighbours_1 : decode cX0_nearerNeighbours 1 = .ok (.getfield 18, 3) := by decide +kernel
theorem dX0_nearerNeighbours_4 : decode cX0_nearerNeighbours 4 = .ok (.iload_n 1, 1) := by decide +kernel
theorem dX0_nearerNeighbours_5 : decode cX0_nearerNeighbours 5 = .ok (.invokevirtual 38, 3) := by decide +kernel
theorem dX0_nearerNeighbours_8 : decode cX0_nearerNeighbours 8 = .ok (.ifCond .eq 12, 3) := by decide +kernel
theorem dX0_nearerNeighbours_11 : decode cX0_nearerNeighbours 11 = .ok (.iload_n 2, 1) := by decide +kernel
theorem dX0_nearerNeighbours_12 : decode cX0_nearerNeighbours 12 = .ok (.iconst 0, 1) := by decide +kernel
theorem dX0_nearerNeighbours_13 : decode cX0_nearerNeighbours 13 = .ok (.iconst 2, 1) := by decide +kernel
theorem dX0_nearerNeighbours_14 : decode cX0_nearerNeighbours 14 = .ok (.invokestatic 30, 3) := by decide +kernel
theorem dX0_nearerNeighbours_17 : decode cX0_nearerNeighbours 17 = .ok (.ifCond .ne 5, 3) := by decide +kernel
theorem dX0_nearerNeighbours_20 : decode cX0_nearerNeighbours 20 = .ok (.iconst (-1), 1) := by decide +kernel
theorem dX0_nearerNeighbours_21 : decode cX0_nearerNeighbours 21 = .ok (.ireturn, 1) := by decide +kernel
theorem dX0_nearerNeighbours_22 : decode cX0_nearerNeighbours 22 = .ok (.iconst 0, 1) := by decide +kernel
theorem dX0_nearerNeighbours_23 : decode cX0_nearerNeighbours 23 = .ok (.istore_n 3, 1) := by decide +kernel
theorem dX0_nearerNeighbours_24 : decode cX0_nearerNeighbours 24 = .ok (.iconst 0, 1) := by decide +kernel
theorem dX0_nearerNeighbours_25 : decode cX0_nearerNeighbours 25 = .ok (.istore 4, 2) := by decide +kernel
theorem dX0_nearerNeighbours_27 : decode cX0_nearerNeighbours 27 = .ok (.iconst 0, 1) := by decide +kernel
theorem dX0_nearerNeighbours_28 : decode cX0_nearerNeighbours 28 = .ok (.istore 5, 2) := by decide +kernel
theorem dX0_nearerNeighbours_30 : decode cX0_nearerNeighbours 30 = .ok (.iconst 0, 1) := by decide +kernel
theorem dX0_nearerNeighbours_31 : decode cX0_nearerNeighbours 31 = .ok (.istore 6, 2) := by decide +kernel
theorem dX0_nearerNeighbours_33 : decode cX0_nearerNeighbours 33 = .ok (.iload 6, 2) := by decide +kernel
theorem dX0_nearerNeighbours_35 : decode cX0_nearerNeighbours 35 = .ok (.aload_n 0, 1) := by decide +kernel
theorem dX0_nearerNeighbours_36 : decode cX0_nearerNeighbours 36 = .ok (.getfield 18, 3) := by decide +kernel
theorem dX0_nearerNeighbours_39 : decode cX0_nearerNeighbours 39 = .ok (.invokevirtual 43, 3) := by decide +kernel
theorem dX0_nearerNeighbours_42 : decode cX0_nearerNeighbours 42 = .ok (.if_icmp .ge 146, 3) := by decide +kernel
theorem dX0_nearerNeighbours_45 : decode cX0_nearerNeighbours 45 = .ok (.aload_n 0, 1) := by decide +kernel
theorem dX0_nearerNeighbours_46 : decode cX0_nearerNeighbours 46 = .ok (.iload_n 1, 1) := by decide +kernel
theorem dX0_nearerNeighbours_47 : decode cX0_nearerNeighbours 47 = .ok (.iload_n 2, 1) := by decide +kernel
theorem dX0_nearerNeighbours_48 : decode cX0_nearerNeighbours 48 = .ok (.iload 6, 2) := by decide +kernel
theorem dX0_nearerNeighbours_50 : decode cX0_nearerNeighbours 50 = .ok (.invokevirtual 179, 3) := by decide +kernel
theorem dX0_nearerNeighbours_53 : decode cX0_nearerNeighbours 53 = .ok (.ifCond .eq 129, 3) := by decide +kernel
theorem dX0_nearerNeighbours_56 : decode cX0_nearerNeighbours 56 = .ok (.aload_n 0, 1) := by decide +kernel
theorem dX0_nearerNeighbours_57 : decode cX0_nearerNeighbours 57 = .ok (.getfield 22, 3) := by decide +kernel
theorem dX0_nearerNeighbours_60 : decode cX0_nearerNeighbours 60 = .ok (.iconst 1, 1) := by decide +kernel
theorem dX0_nearerNeighbours_61 : decode cX0_nearerNeighbours 61 = .ok (.iload 6, 2) := by decide +kernel
theorem dX0_nearerNeighbours_63 : decode cX0_nearerNeighbours 63 = .ok (.iload_n 1, 1) := by decide +kernel
theorem dX0_nearerNeighbours_64 : decode cX0_nearerNeighbours 64 = .ok (.invokevirtual 56, 3) := by decide +kernel
theorem dX0_nearerNeighbours_67 : decode cX0_nearerNeighbours 67 = .ok (.istore 7, 2) := by decide +kernel
theorem dX0_nearerNeighbours_69 : decode cX0_nearerNeighbours 69 = .ok (.aload_n 0, 1) := by decide +kernel
theorem dX0_nearerNeighbours_70 : decode cX0_nearerNeighbours 70 = .ok (.getfield 22, 3) := by decide +kernel
theorem dX0_nearerNeighbours_73 : decode cX0_nearerNeighbours 73 = .ok (.iconst 2, 1) := by decide +kernel
theorem dX0_nearerNeighbours_74 : decode cX0_nearerNeighbours 74 = .ok (.iload_n 2, 1) := by decide +kernel
theorem dX0_nearerNeighbours_75 : decode cX0_nearerNeighbours 75 = .ok (.iadd, 1) := by decide +kernel
theorem dX0_nearerNeighbours_76 : decode cX0_nearerNeighbours 76 = .ok (.iload 6, 2) := by decide +kernel
theorem dX0_nearerNeighbours_78 : decode cX0_nearerNeighbours 78 = .ok (.iload_n 1, 1) := by decide +kernel
theorem dX0_nearerNeighbours_79 : decode cX0_nearerNeighbours 79 = .ok (.invokevirtual 56, 3) := by decide +kernel
theorem dX0_nearerNeighbours_82 : decode cX0_nearerNeighbours 82 = .ok (.istore 8, 2) := by decide +kernel
theorem dX0_nearerNeighbours_84 : decode cX0_nearerNeighbours 84 = .ok (.aload_n 0, 1) := by decide +kernel
theorem dX0_nearerNeighbours_85 : decode cX0_nearerNeighbours 85 = .ok (.getfield 22, 3) := by decide +kernel
theorem dX0_nearerNeighbours_88 : decode cX0_nearerNeighbours 88 = .ok (.iconst 5, 1) := by decide +kernel
theorem dX0_nearerNeighbours_89 : decode cX0_nearerNeighbours 89 = .ok (.iload 6, 2) := by decide +kernel
theorem dX0_nearerNeighbours_91 : decode cX0_nearerNeighbours 91 = .ok (.iload_n 1, 1) := by decide +kernel
theorem dX0_nearerNeighbours_92 : decode cX0_nearerNeighbours 92 = .ok (.invokevirtual 56, 3) := by decide +kernel
theorem dX0_nearerNeighbours_95 : decode cX0_nearerNeighbours 95 = .ok (.istore 9, 2) := by decide +kernel
theorem dX0_nearerNeighbours_97 : decode cX0_nearerNeighbours 97 = .ok (.iload 8, 2) := by decide +kernel
theorem dX0_nearerNeighbours_99 : decode cX0_nearerNeighbours 99 = .ok (.iload 7, 2) := by decide +kernel
theorem dX0_nearerNeighbours_101 : decode cX0_nearerNeighbours 101 = .ok (.isub, 1) := by decide +kernel
theorem dX0_nearerNeighbours_102 : decode cX0_nearerNeighbours 102 = .ok (.invokestatic 116, 3) := by decide +kernel
theorem dX0_nearerNeighbours_105 : decode cX0_nearerNeighbours 105 = .ok (.istore 10, 2) := by decide +kernel
theorem dX0_nearerNeighbours_107 : decode cX0_nearerNeighbours 107 = .ok (.iload 9, 2) := by decide +kernel
theorem dX0_nearerNeighbours_109 : decode cX0_nearerNeighbours 109 = .ok (.iload 7, 2) := by decide +kernel
theorem dX0_nearerNeighbours_111 : decode cX0_nearerNeighbours 111 = .ok (.isub, 1) := by decide +kernel
theorem dX0_nearerNeighbours_112 : decode cX0_nearerNeighbours 112 = .ok (.invokestatic 116, 3) := by decide +kernel
theorem dX0_nearerNeighbours_115 : decode cX0_nearerNeighbours 115 = .ok (.istore 11, 2) := by decide +kernel
theorem dX0_nearerNeighbours_117 : decode cX0_nearerNeighbours 117 = .ok (.iload_n 3, 1) := by decide +kernel
theorem dX0_nearerNeighbours_118 : decode cX0_nearerNeighbours 118 = .ok (.iload 11, 2) := by decide +kernel
theorem dX0_nearerNeighbours_120 : decode cX0_nearerNeighbours 120 = .ok (.iload 10, 2) := by decide +kernel
theorem dX0_nearerNeighbours_122 : decode cX0_nearerNeighbours 122 = .ok (.if_icmp .ge 7, 3) := by decide +kernel
theorem dX0_nearerNeighbours_125 : decode cX0_nearerNeighbours 125 = .ok (.iconst 1, 1) := by decide +kernel
theorem dX0_nearerNeighbours_126 : decode cX0_nearerNeighbours 126 = .ok (.goto 4, 3) := by decide +kernel
theorem dX0_nearerNeighbours_129 : decode cX0_nearerNeighbours 129 = .ok (.iconst 0, 1) := by decide +kernel
theorem dX0_nearerNeighbours_130 : decode cX0_nearerNeighbours 130 = .ok (.iadd, 1) := by decide +kernel
theorem dX0_nearerNeighbours_131 : decode cX0_nearerNeighbours 131 = .ok (.istore_n 3, 1) := by decide +kernel
theorem dX0_nearerNeighbours_132 : decode cX0_nearerNeighbours 132 = .ok (.iload 4, 2) := by decide +kernel
theorem dX0_nearerNeighbours_134 : decode cX0_nearerNeighbours 134 = .ok (.iload 10, 2) := by decide +kernel
theorem dX0_nearerNeighbours_136 : decode cX0_nearerNeighbours 136 = .ok (.iload 11, 2) := by decide +kernel
theorem dX0_nearerNeighbours_138 : decode cX0_nearerNeighbours 138 = .ok (.if_icmp .ge 7, 3) := by decide +kernel
theorem dX0_nearerNeighbours_141 : decode cX0_nearerNeighbours 141 = .ok (.iconst 1, 1) := by decide +kernel
theorem dX0_nearerNeighbours_142 : decode cX0_nearerNeighbours 142 = .ok (.goto 4, 3) := by decide +kernel
theorem dX0_nearerNeighbours_145 : decode cX0_nearerNeighbours 145 = .ok (.iconst 0, 1) := by decide +kernel
theorem dX0_nearerNeighbours_146 : decode cX0_nearerNeighbours 146 = .ok (.iadd, 1) := by decide +kernel
theorem dX0_nearerNeighbours_147 : decode cX0_nearerNeighbours 147 = .ok (.istore 4, 2) := by decide +kernel
theorem dX0_nearerNeighbours_149 : decode cX0_nearerNeighbours 149 = .ok (.iload 5, 2) := by decide +kernel
theorem dX0_nearerNeighbours_151 : decode cX0_nearerNeighbours 151 = .ok (.iload 8, 2) := by decide +kernel
theorem dX0_nearerNeighbours_153 : decode cX0_nearerNeighbours 153 = .ok (.iload 9, 2) := by decide +kernel
theorem dX0_nearerNeighbours_155 : decode cX0_nearerNeighbours 155 = .ok (.iadd, 1) := by decide +kernel
theorem dX0_nearerNeighbours_156 : decode cX0_nearerNeighbours 156 = .ok (.iconst 2, 1) := by decide +kernel
theorem dX0_nearerNeighbours_157 : decode cX0_nearerNeighbours 157 = .ok (.idiv, 1) := by decide +kernel
theorem dX0_nearerNeighbours_158 : decode cX0_nearerNeighbours 158 = .ok (.iload 7, 2) := by decide +kernel
theorem dX0_nearerNeighbours_160 : decode cX0_nearerNeighbours 160 = .ok (.isub, 1) := by decide +kernel
theorem dX0_nearerNeighbours_161 : decode cX0_nearerNeighbours 161 = .ok (.invokestatic 116, 3) := by decide +kernel
theorem dX0_nearerNeighbours_164 : decode cX0_nearerNeighbours 164 = .ok (.iload 10, 2) := by decide +kernel
theorem dX0_nearerNeighbours_166 : decode cX0_nearerNeighbours 166 = .ok (.iload 11, 2) := by decide +kernel
theorem dX0_nearerNeighbours_168 : decode cX0_nearerNeighbours 168 = .ok (.invokestatic 182, 3) := by decide +kernel
theorem dX0_nearerNeighbours_171 : decode cX0_nearerNeighbours 171 = .ok (.if_icmp .ge 7, 3) := by decide +kernel
theorem dX0_nearerNeighbours_174 : decode cX0_nearerNeighbours 174 = .ok (.iconst 1, 1) := by decide +kernel
theorem dX0_nearerNeighbours_175 : decode cX0_nearerNeighbours 175 = .ok (.goto 4, 3) := by decide +kernel
theorem dX0_nearerNeighbours_178 : decode cX0_nearerNeighbours 178 = .ok (.iconst 0, 1) := by decide +kernel
theorem dX0_nearerNeighbours_179 : decode cX0_nearerNeighbours 179 = .ok (.iadd, 1) := by decide +kernel
theorem dX0_nearerNeighbours_180 : decode cX0_nearerNeighbours 180 = .ok (.istore 5, 2) := by decide +kernel
theorem dX0_nearerNeighbours_182 : decode cX0_nearerNeighbours 182 = .ok (.iinc 6 1, 3) := by decide +kernel
theorem dX0_nearerNeighbours_185 : decode cX0_nearerNeighbours 185 = .ok (.goto (-152), 3) := by decide +kernel
theorem dX0_nearerNeighbours_188 : decode cX0_nearerNeighbours 188 = .ok (.aload_n 0, 1) := by decide +kernel
theorem dX0_nearerNeighbours_189 : decode cX0_nearerNeighbours 189 = .ok (.getfield 26, 3) := by decide +kernel
theorem dX0_nearerNeighbours_192 : decode cX0_nearerNeighbours 192 = .ok (.invokevirtual 60, 3) := by decide +kernel
theorem dX0_nearerNeighbours_195 : decode cX0_nearerNeighbours 195 = .ok (.iload 4, 2) := by decide +kernel
theorem dX0_nearerNeighbours_197 : decode cX0_nearerNeighbours 197 = .ok (.i2l, 1) := by decide +kernel
theorem dX0_nearerNeighbours_198 : decode cX0_nearerNeighbours 198 = .ok (.invokevirtual 66, 3) := by decide +kernel
theorem dX0_nearerNeighbours_201 : decode cX0_nearerNeighbours 201 = .ok (.iload 5, 2) := by decide +kernel
theorem dX0_nearerNeighbours_203 : decode cX0_nearerNeighbours 203 = .ok (.i2l, 1) := by decide +kernel
theorem dX0_nearerNeighbours_204 : decode cX0_nearerNeighbours 204 = .ok (.invokevirtual 66, 3) := by decide +kernel
theorem dX0_nearerNeighbours_207 : decode cX0_nearerNeighbours 207 = .ok (.pop, 1) := by decide +kernel
theorem dX0_nearerNeighbours_208 : decode cX0_nearerNeighbours 208 = .ok (.iload_n 3, 1) := by decide +kernel
theorem dX0_nearerNeighbours_209 : decode cX0_nearerNeighbours 209 = .ok (.ireturn, 1) := by decide +kernel
theorem dX0_bestShare_0 : decode cX0_bestShare 0 = .ok (.aload_n 0, 1) := by decide +kernel
theorem dX0_bestShare_1 : decode cX0_bestShare 1 = .ok (.getfield 18, 3) := by decide +kernel
theorem dX0_bestShare_4 : decode cX0_bestShare 4 = .ok (.iload_n 1, 1) := by decide +kernel
theorem dX0_bestShare_5 : decode cX0_bestShare 5 = .ok (.invokevirtual 38, 3) := by decide +kernel
theorem dX0_bestShare_8 : decode cX0_bestShare 8 = .ok (.ifCond .eq 12, 3) := by decide +kernel
theorem dX0_bestShare_11 : decode cX0_bestShare 11 = .ok (.iload_n 2, 1) := by decide +kernel
theorem dX0_bestShare_12 : decode cX0_bestShare 12 = .ok (.iconst 0, 1) := by decide +kernel
theorem dX0_bestShare_13 : decode cX0_bestShare 13 = .ok (.iconst 2, 1) := by decide +kernel
theorem dX0_bestShare_14 : decode cX0_bestShare 14 = .ok (.invokestatic 30, 3) := by decide +kernel
theorem dX0_bestShare_17 : decode cX0_bestShare 17 = .ok (.ifCond .ne 5, 3) := by decide +kernel
theorem dX0_bestShare_20 : decode cX0_bestShare 20 = .ok (.iconst (-1), 1) := by decide +kernel
theorem dX0_bestShare_21 : decode cX0_bestShare 21 = .ok (.ireturn, 1) := by decide +kernel
theorem dX0_bestShare_22 : decode cX0_bestShare 22 = .ok (.iconst 0, 1) := by decide +kernel
theorem dX0_bestShare_23 : decode cX0_bestShare 23 = .ok (.istore_n 3, 1) := by decide +kernel
theorem dX0_bestShare_24 : decode cX0_bestShare 24 = .ok (.lconst 0, 1) := by decide +kernel
theorem dX0_bestShare_25 : decode cX0_bestShare 25 = .ok (.lstore 4, 2) := by decide +kernel
theorem dX0_bestShare_27 : decode cX0_bestShare 27 = .ok (.lconst 0, 1) := by decide +kernel
theorem dX0_bestShare_28 : decode cX0_bestShare 28 = .ok (.lstore 6, 2) := by decide +kernel
theorem dX0_bestShare_30 : decode cX0_bestShare 30 = .ok (.lconst 0, 1) := by decide +kernel
theorem dX0_bestShare_31 : decode cX0_bestShare 31 = .ok (.lstore 8, 2) := by decide +kernel
theorem dX0_bestShare_33 : decode cX0_bestShare 33 = .ok (.iconst 0, 1) := by decide +kernel
theorem dX0_bestShare_34 : decode cX0_bestShare 34 = .ok (.istore 10, 2) := by decide +kernel
theorem dX0_bestShare_36 : decode cX0_bestShare 36 = .ok (.iload 10, 2) := by decide +kernel
theorem dX0_bestShare_38 : decode cX0_bestShare 38 = .ok (.aload_n 0, 1) := by decide +kernel
theorem dX0_bestShare_39 : decode cX0_bestShare 39 = .ok (.getfield 18, 3) := by decide +kernel
theorem dX0_bestShare_42 : decode cX0_bestShare 42 = .ok (.invokevirtual 43, 3) := by decide +kernel
theorem dX0_bestShare_45 : decode cX0_bestShare 45 = .ok (.if_icmp .ge 106, 3) := by decide +kernel
theorem dX0_bestShare_48 : decode cX0_bestShare 48 = .ok (.aload_n 0, 1) := by decide +kernel
theorem dX0_bestShare_49 : decode cX0_bestShare 49 = .ok (.iload_n 1, 1) := by decide +kernel
theorem dX0_bestShare_50 : decode cX0_bestShare 50 = .ok (.iload_n 2, 1) := by decide +kernel
theorem dX0_bestShare_51 : decode cX0_bestShare 51 = .ok (.iload 10, 2) := by decide +kernel
theorem dX0_bestShare_53 : decode cX0_bestShare 53 = .ok (.invokevirtual 179, 3) := by decide +kernel
theorem dX0_bestShare_56 : decode cX0_bestShare 56 = .ok (.ifCond .eq 89, 3) := by decide +kernel
theorem dX0_bestShare_59 : decode cX0_bestShare 59 = .ok (.aload_n 0, 1) := by decide +kernel
theorem dX0_bestShare_60 : decode cX0_bestShare 60 = .ok (.getfield 22, 3) := by decide +kernel
theorem dX0_bestShare_63 : decode cX0_bestShare 63 = .ok (.iconst 2, 1) := by decide +kernel
theorem dX0_bestShare_64 : decode cX0_bestShare 64 = .ok (.iload_n 2, 1) := by decide +kernel
theorem dX0_bestShare_65 : decode cX0_bestShare 65 = .ok (.iadd, 1) := by decide +kernel
theorem dX0_bestShare_66 : decode cX0_bestShare 66 = .ok (.iload 10, 2) := by decide +kernel
theorem dX0_bestShare_68 : decode cX0_bestShare 68 = .ok (.iload_n 1, 1) := by decide +kernel
theorem dX0_bestShare_69 : decode cX0_bestShare 69 = .ok (.invokevirtual 56, 3) := by decide +kernel
theorem dX0_bestShare_72 : decode cX0_bestShare 72 = .ok (.i2l, 1) := by decide +kernel
theorem dX0_bestShare_73 : decode cX0_bestShare 73 = .ok (.lstore 11, 2) := by decide +kernel
theorem dX0_bestShare_75 : decode cX0_bestShare 75 = .ok (.aload_n 0, 1) := by decide +kernel
theorem dX0_bestShare_76 : decode cX0_bestShare 76 = .ok (.getfield 22, 3) := by decide +kernel
theorem dX0_bestShare_79 : decode cX0_bestShare 79 = .ok (.iconst 5, 1) := by decide +kernel
theorem dX0_bestShare_80 : decode cX0_bestShare 80 = .ok (.iload 10, 2) := by decide +kernel
theorem dX0_bestShare_82 : decode cX0_bestShare 82 = .ok (.iload_n 1, 1) := by decide +kernel
theorem dX0_bestShare_83 : decode cX0_bestShare 83 = .ok (.invokevirtual 56, 3) := by decide +kernel
theorem dX0_bestShare_86 : decode cX0_bestShare 86 = .ok (.i2l, 1) := by decide +kernel
theorem dX0_bestShare_87 : decode cX0_bestShare 87 = .ok (.lload 11, 2) := by decide +kernel
theorem dX0_bestShare_89 : decode cX0_bestShare 89 = .ok (.lsub, 1) := by decide +kernel
theorem dX0_bestShare_90 : decode cX0_bestShare 90 = .ok (.lstore 13, 2) := by decide +kernel
theorem dX0_bestShare_92 : decode cX0_bestShare 92 = .ok (.ldc2_w 84, 3) := by decide +kernel
theorem dX0_bestShare_95 : decode cX0_bestShare 95 = .ok (.lload 11, 2) := by decide +kernel
theorem dX0_bestShare_97 : decode cX0_bestShare 97 = .ok (.aload_n 0, 1) := by decide +kernel
theorem dX0_bestShare_98 : decode cX0_bestShare 98 = .ok (.getfield 22, 3) := by decide +kernel
theorem dX0_bestShare_101 : decode cX0_bestShare 101 = .ok (.iconst 1, 1) := by decide +kernel
theorem dX0_bestShare_102 : decode cX0_bestShare 102 = .ok (.iload 10, 2) := by decide +kernel
theorem dX0_bestShare_104 : decode cX0_bestShare 104 = .ok (.iload_n 1, 1) := by decide +kernel
theorem dX0_bestShare_105 : decode cX0_bestShare 105 = .ok (.invokevirtual 56, 3) := by decide +kernel
theorem dX0_bestShare_108 : decode cX0_bestShare 108 = .ok (.i2l, 1) := by decide +kernel
theorem dX0_bestShare_109 : decode cX0_bestShare 109 = .ok (.lsub, 1) := by decide +kernel
theorem dX0_bestShare_110 : decode cX0_bestShare 110 = .ok (.lmul, 1) := by decide +kernel
theorem dX0_bestShare_111 : decode cX0_bestShare 111 = .ok (.lstore 15, 2) := by decide +kernel
theorem dX0_bestShare_113 : decode cX0_bestShare 113 = .ok (.lload 4, 2) := by decide +kernel
theorem dX0_bestShare_115 : decode cX0_bestShare 115 = .ok (.lload 13, 2) := by decide +kernel
theorem dX0_bestShare_117 : decode cX0_bestShare 117 = .ok (.lload 13, 2) := by decide +kernel
theorem dX0_bestShare_119 : decode cX0_bestShare 119 = .ok (.lmul, 1) := by decide +kernel
theorem dX0_bestShare_120 : decode cX0_bestShare 120 = .ok (.ladd, 1) := by decide +kernel
theorem dX0_bestShare_121 : decode cX0_bestShare 121 = .ok (.lstore 4, 2) := by decide +kernel
theorem dX0_bestShare_123 : decode cX0_bestShare 123 = .ok (.lload 6, 2) := by decide +kernel
theorem dX0_bestShare_125 : decode cX0_bestShare 125 = .ok (.lload 13, 2) := by decide +kernel
theorem dX0_bestShare_127 : decode cX0_bestShare 127 = .ok (.lload 15, 2) := by decide +kernel
theorem dX0_bestShare_129 : decode cX0_bestShare 129 = .ok (.lmul, 1) := by decide +kernel
theorem dX0_bestShare_130 : decode cX0_bestShare 130 = .ok (.ladd, 1) := by decide +kernel
theorem dX0_bestShare_131 : decode cX0_bestShare 131 = .ok (.lstore 6, 2) := by decide +kernel
theorem dX0_bestShare_133 : decode cX0_bestShare 133 = .ok (.lload 8, 2) := by decide +kernel
theorem dX0_bestShare_135 : decode cX0_bestShare 135 = .ok (.lload 15, 2) := by decide +kernel
theorem dX0_bestShare_137 : decode cX0_bestShare 137 = .ok (.lload 15, 2) := by decide +kernel
theorem dX0_bestShare_139 : decode cX0_bestShare 139 = .ok (.lmul, 1) := by decide +kernel
theorem dX0_bestShare_140 : decode cX0_bestShare 140 = .ok (.ladd, 1) := by decide +kernel
theorem dX0_bestShare_141 : decode cX0_bestShare 141 = .ok (.lstore 8, 2) := by decide +kernel
theorem dX0_bestShare_143 : decode cX0_bestShare 143 = .ok (.iconst 1, 1) := by decide +kernel
theorem dX0_bestShare_144 : decode cX0_bestShare 144 = .ok (.istore_n 3, 1) := by decide +kernel
theorem dX0_bestShare_145 : decode cX0_bestShare 145 = .ok (.iinc 10 1, 3) := by decide +kernel
theorem dX0_bestShare_148 : decode cX0_bestShare 148 = .ok (.goto (-112), 3) := by decide +kernel
theorem dX0_bestShare_151 : decode cX0_bestShare 151 = .ok (.iload_n 3, 1) := by decide +kernel
theorem dX0_bestShare_152 : decode cX0_bestShare 152 = .ok (.ifCond .eq 16, 3) := by decide +kernel
theorem dX0_bestShare_155 : decode cX0_bestShare 155 = .ok (.aload_n 0, 1) := by decide +kernel
theorem dX0_bestShare_156 : decode cX0_bestShare 156 = .ok (.lload 4, 2) := by decide +kernel
theorem dX0_bestShare_158 : decode cX0_bestShare 158 = .ok (.lload 6, 2) := by decide +kernel
theorem dX0_bestShare_160 : decode cX0_bestShare 160 = .ok (.lload 8, 2) := by decide +kernel
theorem dX0_bestShare_162 : decode cX0_bestShare 162 = .ok (.invokevirtual 185, 3) := by decide +kernel
theorem dX0_bestShare_165 : decode cX0_bestShare 165 = .ok (.goto 5, 3) := by decide +kernel
theorem dX0_bestShare_168 : decode cX0_bestShare 168 = .ok (.bipush (-2), 2) := by decide +kernel
theorem dX0_bestShare_170 : decode cX0_bestShare 170 = .ok (.ireturn, 1) := by decide +kernel
theorem dX0_leastShare_0 : decode cX0_leastShare 0 = .ok (.iconst 0, 1) := by decide +kernel
theorem dX0_leastShare_1 : decode cX0_leastShare 1 = .ok (.istore 7, 2) := by decide +kernel
theorem dX0_leastShare_3 : decode cX0_leastShare 3 = .ok (.lload 5, 2) := by decide +kernel
theorem dX0_leastShare_5 : decode cX0_leastShare 5 = .ok (.lstore 8, 2) := by decide +kernel
theorem dX0_leastShare_7 : decode cX0_leastShare 7 = .ok (.iconst 1, 1) := by decide +kernel
theorem dX0_leastShare_8 : decode cX0_leastShare 8 = .ok (.istore 10, 2) := by decide +kernel
theorem dX0_leastShare_10 : decode cX0_leastShare 10 = .ok (.iload 10, 2) := by decide +kernel
theorem dX0_leastShare_12 : decode cX0_leastShare 12 = .ok (.bipush 100, 2) := by decide +kernel
theorem dX0_leastShare_14 : decode cX0_leastShare 14 = .ok (.if_icmp .gt 49, 3) := by decide +kernel
theorem dX0_leastShare_17 : decode cX0_leastShare 17 = .ok (.lload_n 1, 1) := by decide +kernel
theorem dX0_leastShare_18 : decode cX0_leastShare 18 = .ok (.iload 10, 2) := by decide +kernel
theorem dX0_leastShare_20 : decode cX0_leastShare 20 = .ok (.i2l, 1) := by decide +kernel
theorem dX0_leastShare_21 : decode cX0_leastShare 21 = .ok (.lmul, 1) := by decide +kernel
theorem dX0_leastShare_22 : decode cX0_leastShare 22 = .ok (.iload 10, 2) := by decide +kernel
theorem dX0_leastShare_24 : decode cX0_leastShare 24 = .ok (.i2l, 1) := by decide +kernel
theorem dX0_leastShare_25 : decode cX0_leastShare 25 = .ok (.lmul, 1) := by decide +kernel
theorem dX0_leastShare_26 : decode cX0_leastShare 26 = .ok (.ldc2_w 189, 3) := by decide +kernel
theorem dX0_leastShare_29 : decode cX0_leastShare 29 = .ok (.lload_n 3, 1) := by decide +kernel
theorem dX0_leastShare_30 : decode cX0_leastShare 30 = .ok (.lmul, 1) := by decide +kernel
theorem dX0_leastShare_31 : decode cX0_leastShare 31 = .ok (.iload 10, 2) := by decide +kernel
theorem dX0_leastShare_33 : decode cX0_leastShare 33 = .ok (.i2l, 1) := by decide +kernel
theorem dX0_leastShare_34 : decode cX0_leastShare 34 = .ok (.lmul, 1) := by decide +kernel
theorem dX0_leastShare_35 : decode cX0_leastShare 35 = .ok (.ladd, 1) := by decide +kernel
theorem dX0_leastShare_36 : decode cX0_leastShare 36 = .ok (.lload 5, 2) := by decide +kernel
theorem dX0_leastShare_38 : decode cX0_leastShare 38 = .ok (.ladd, 1) := by decide +kernel
theorem dX0_leastShare_39 : decode cX0_leastShare 39 = .ok (.lstore 11, 2) := by decide +kernel
theorem dX0_leastShare_41 : decode cX0_leastShare 41 = .ok (.lload 11, 2) := by decide +kernel
theorem dX0_leastShare_43 : decode cX0_leastShare 43 = .ok (.lload 8, 2) := by decide +kernel
theorem dX0_leastShare_45 : decode cX0_leastShare 45 = .ok (.lcmp, 1) := by decide +kernel
theorem dX0_leastShare_46 : decode cX0_leastShare 46 = .ok (.ifCond .ge 11, 3) := by decide +kernel
theorem dX0_leastShare_49 : decode cX0_leastShare 49 = .ok (.iload 10, 2) := by decide +kernel
theorem dX0_leastShare_51 : decode cX0_leastShare 51 = .ok (.istore 7, 2) := by decide +kernel
theorem dX0_leastShare_53 : decode cX0_leastShare 53 = .ok (.lload 11, 2) := by decide +kernel
theorem dX0_leastShare_55 : decode cX0_leastShare 55 = .ok (.lstore 8, 2) := by decide +kernel
theorem dX0_leastShare_57 : decode cX0_leastShare 57 = .ok (.iinc 10 1, 3) := by decide +kernel
theorem dX0_leastShare_60 : decode cX0_leastShare 60 = .ok (.goto (-50), 3) := by decide +kernel
theorem dX0_leastShare_63 : decode cX0_leastShare 63 = .ok (.aload_n 0, 1) := by decide +kernel
theorem dX0_leastShare_64 : decode cX0_leastShare 64 = .ok (.getfield 26, 3) := by decide +kernel
theorem dX0_leastShare_67 : decode cX0_leastShare 67 = .ok (.invokevirtual 60, 3) := by decide +kernel
theorem dX0_leastShare_70 : decode cX0_leastShare 70 = .ok (.lload 8, 2) := by decide +kernel
theorem dX0_leastShare_72 : decode cX0_leastShare 72 = .ok (.invokevirtual 66, 3) := by decide +kernel
theorem dX0_leastShare_75 : decode cX0_leastShare 75 = .ok (.pop, 1) := by decide +kernel
theorem dX0_leastShare_76 : decode cX0_leastShare 76 = .ok (.iload 7, 2) := by decide +kernel
theorem dX0_leastShare_78 : decode cX0_leastShare 78 = .ok (.ireturn, 1) := by decide +kernel
theorem dX1_init_0 : decode cX1_init 0 = .ok (.aload_n 0, 1) := by decide +kernel
theorem dX1_init_1 : decode cX1_init 1 = .ok (.invokespecial 3, 3) := by decide +kernel
theorem dX1_init_4 : decode cX1_init 4 = .ok (.aload_n 0, 1) := by decide +kernel
theorem dX1_init_5 : decode cX1_init 5 = .ok (.sipush 240, 3) := by decide +kernel
theorem dX1_init_8 : decode cX1_init 8 = .ok (.newarray .int, 2) := by decide +kernel
theorem dX1_init_10 : decode cX1_init 10 = .ok (.putfield 11, 3) := by decide +kernel
theorem dX1_init_13 : decode cX1_init 13 = .ok (.aload_n 0, 1) := by decide +kernel
theorem dX1_init_14 : decode cX1_init 14 = .ok (.bipush 6, 2) := by decide +kernel
theorem dX1_init_16 : decode cX1_init 16 = .ok (.newarray .int, 2) := by decide +kernel
theorem dX1_init_18 : decode cX1_init 18 = .ok (.putfield 15, 3) := by decide +kernel
theorem dX1_init_21 : decode cX1_init 21 = .ok (.return_, 1) := by decide +kernel
theorem dX1_isText_0 : decode cX1_isText 0 = .ok (.iload_n 1, 1) := by decide +kernel
theorem dX1_isText_1 : decode cX1_isText 1 = .ok (.ifCond .lt 13, 3) := by decide +kernel
theorem dX1_isText_4 : decode cX1_isText 4 = .ok (.iload_n 1, 1) := by decide +kernel
theorem dX1_isText_5 : decode cX1_isText 5 = .ok (.bipush 6, 2) := by decide +kernel
theorem dX1_isText_7 : decode cX1_isText 7 = .ok (.if_icmp .ge 7, 3) := by decide +kernel
theorem dX1_isText_10 : decode cX1_isText 10 = .ok (.iconst 1, 1) := by decide +kernel
theorem dX1_isText_11 : decode cX1_isText 11 = .ok (.goto 4, 3) := by decide +kernel
theorem dX1_isText_14 : decode cX1_isText 14 = .ok (.iconst 0, 1) := by decide +kernel
theorem dX1_isText_15 : decode cX1_isText 15 = .ok (.ireturn, 1) := by decide +kernel
theorem dX1_write_0 : decode cX1_write 0 = .ok (.aload_n 0, 1) := by decide +kernel
theorem dX1_write_1 : decode cX1_write 1 = .ok (.aload_n 2, 1) := by decide +kernel
theorem dX1_write_2 : decode cX1_write 2 = .ok (.invokevirtual 18, 3) := by decide +kernel
theorem dX1_write_5 : decode cX1_write 5 = .ok (.istore_n 3, 1) := by decide +kernel
theorem dX1_write_6 : decode cX1_write 6 = .ok (.iload_n 3, 1) := by decide +kernel
theorem dX1_write_7 : decode cX1_write 7 = .ok (.ifCond .lt 7, 3) := by decide +kernel
theorem dX1_write_10 : decode cX1_write 10 = .ok (.iconst (-1), 1) := by decide +kernel
theorem dX1_write_11 : decode cX1_write 11 = .ok (.iload_n 3, 1) := by decide +kernel
theorem dX1_write_12 : decode cX1_write 12 = .ok (.isub, 1) := by decide +kernel
theorem dX1_write_13 : decode cX1_write 13 = .ok (.ireturn, 1) := by decide +kernel
theorem dX1_write_14 : decode cX1_write 14 = .ok (.aload_n 0, 1) := by decide +kernel
theorem dX1_write_15 : decode cX1_write 15 = .ok (.iload_n 1, 1) := by decide +kernel
theorem dX1_write_16 : decode cX1_write 16 = .ok (.invokevirtual 22, 3) := by decide +kernel
theorem dX1_write_19 : decode cX1_write 19 = .ok (.ifCond .eq 56, 3) := by decide +kernel
theorem dX1_write_22 : decode cX1_write 22 = .ok (.iconst 0, 1) := by decide +kernel
theorem dX1_write_23 : decode cX1_write 23 = .ok (.istore 4, 2) := by decide +kernel
theorem dX1_write_25 : decode cX1_write 25 = .ok (.iload 4, 2) := by decide +kernel
theorem dX1_write_27 : decode cX1_write 27 = .ok (.aload_n 2, 1) := by decide +kernel
theorem dX1_write_28 : decode cX1_write 28 = .ok (.invokevirtual 26, 3) := by decide +kernel
theorem dX1_write_31 : decode cX1_write 31 = .ok (.if_icmp .ge 34, 3) := by decide +kernel
theorem dX1_write_34 : decode cX1_write 34 = .ok (.iload 4, 2) := by decide +kernel
theorem dX1_write_36 : decode cX1_write 36 = .ok (.bipush 40, 2) := by decide +kernel
theorem dX1_write_38 : decode cX1_write 38 = .ok (.if_icmp .ge 27, 3) := by decide +kernel
theorem dX1_write_41 : decode cX1_write 41 = .ok (.aload_n 0, 1) := by decide +kernel
theorem dX1_write_42 : decode cX1_write 42 = .ok (.getfield 11, 3) := by decide +kernel
theorem dX1_write_45 : decode cX1_write 45 = .ok (.iload_n 1, 1) := by decide +kernel
theorem dX1_write_46 : decode cX1_write 46 = .ok (.bipush 40, 2) := by decide +kernel
theorem dX1_write_48 : decode cX1_write 48 = .ok (.imul, 1) := by decide +kernel
theorem dX1_write_49 : decode cX1_write 49 = .ok (.iload 4, 2) := by decide +kernel
theorem dX1_write_51 : decode cX1_write 51 = .ok (.iadd, 1) := by decide +kernel
theorem dX1_write_52 : decode cX1_write 52 = .ok (.aload_n 2, 1) := by decide +kernel
theorem dX1_write_53 : decode cX1_write 53 = .ok (.iload 4, 2) := by decide +kernel
theorem dX1_write_55 : decode cX1_write 55 = .ok (.invokevirtual 32, 3) := by decide +kernel
theorem dX1_write_58 : decode cX1_write 58 = .ok (.iastore, 1) := by decide +kernel
theorem dX1_write_59 : decode cX1_write 59 = .ok (.iinc 4 1, 3) := by decide +kernel
theorem dX1_write_62 : decode cX1_write 62 = .ok (.goto (-37), 3) := by decide +kernel
theorem dX1_write_65 : decode cX1_write 65 = .ok (.aload_n 0, 1) := by decide +kernel
theorem dX1_write_66 : decode cX1_write 66 = .ok (.getfield 15, 3) := by decide +kernel
theorem dX1_write_69 : decode cX1_write 69 = .ok (.iload_n 1, 1) := by decide +kernel
theorem dX1_write_70 : decode cX1_write 70 = .ok (.aload_n 2, 1) := by decide +kernel
theorem dX1_write_71 : decode cX1_write 71 = .ok (.invokevirtual 26, 3) := by decide +kernel
theorem dX1_write_74 : decode cX1_write 74 = .ok (.iastore, 1) := by decide +kernel
theorem dX1_write_75 : decode cX1_write 75 = .ok (.iconst 0, 1) := by decide +kernel
theorem dX1_write_76 : decode cX1_write 76 = .ok (.ireturn, 1) := by decide +kernel
theorem dX1_wrongPlace_0 : decode cX1_wrongPlace 0 = .ok (.aload_n 0, 1) := by decide +kernel
theorem dX1_wrongPlace_1 : decode cX1_wrongPlace 1 = .ok (.invokevirtual 36, 3) := by decide +kernel
theorem dX1_wrongPlace_4 : decode cX1_wrongPlace 4 = .ok (.iconst 0, 1) := by decide +kernel
theorem dX1_wrongPlace_5 : decode cX1_wrongPlace 5 = .ok (.istore_n 2, 1) := by decide +kernel
theorem dX1_wrongPlace_6 : decode cX1_wrongPlace 6 = .ok (.iload_n 2, 1) := by decide +kernel
theorem dX1_wrongPlace_7 : decode cX1_wrongPlace 7 = .ok (.aload_n 1, 1) := by decide +kernel
theorem dX1_wrongPlace_8 : decode cX1_wrongPlace 8 = .ok (.invokevirtual 26, 3) := by decide +kernel
theorem dX1_wrongPlace_11 : decode cX1_wrongPlace 11 = .ok (.if_icmp .ge 29, 3) := by decide +kernel
theorem dX1_wrongPlace_14 : decode cX1_wrongPlace 14 = .ok (.iload_n 2, 1) := by decide +kernel
theorem dX1_wrongPlace_15 : decode cX1_wrongPlace 15 = .ok (.bipush 40, 2) := by decide +kernel
theorem dX1_wrongPlace_17 : decode cX1_wrongPlace 17 = .ok (.if_icmp .ge 23, 3) := by decide +kernel
theorem dX1_wrongPlace_20 : decode cX1_wrongPlace 20 = .ok (.aload_n 0, 1) := by decide +kernel
theorem dX1_wrongPlace_21 : decode cX1_wrongPlace 21 = .ok (.aload_n 1, 1) := by decide +kernel
theorem dX1_wrongPlace_22 : decode cX1_wrongPlace 22 = .ok (.iload_n 2, 1) := by decide +kernel
theorem dX1_wrongPlace_23 : decode cX1_wrongPlace 23 = .ok (.invokevirtual 32, 3) := by decide +kernel
theorem dX1_wrongPlace_26 : decode cX1_wrongPlace 26 = .ok (.invokevirtual 39, 3) := by decide +kernel
theorem dX1_wrongPlace_29 : decode cX1_wrongPlace 29 = .ok (.ifCond .ne 5, 3) := by decide +kernel
theorem dX1_wrongPlace_32 : decode cX1_wrongPlace 32 = .ok (.iload_n 2, 1) := by decide +kernel
theorem dX1_wrongPlace_33 : decode cX1_wrongPlace 33 = .ok (.ireturn, 1) := by decide +kernel
theorem dX1_wrongPlace_34 : decode cX1_wrongPlace 34 = .ok (.iinc 2 1, 3) := by decide +kernel
theorem dX1_wrongPlace_37 : decode cX1_wrongPlace 37 = .ok (.goto (-31), 3) := by decide +kernel
theorem dX1_wrongPlace_40 : decode cX1_wrongPlace 40 = .ok (.aload_n 1, 1) := by decide +kernel
theorem dX1_wrongPlace_41 : decode cX1_wrongPlace 41 = .ok (.invokevirtual 26, 3) := by decide +kernel
theorem dX1_wrongPlace_44 : decode cX1_wrongPlace 44 = .ok (.bipush 40, 2) := by decide +kernel
theorem dX1_wrongPlace_46 : decode cX1_wrongPlace 46 = .ok (.if_icmp .le 6, 3) := by decide +kernel
theorem dX1_wrongPlace_49 : decode cX1_wrongPlace 49 = .ok (.bipush 40, 2) := by decide +kernel
theorem dX1_wrongPlace_51 : decode cX1_wrongPlace 51 = .ok (.ireturn, 1) := by decide +kernel
theorem dX1_wrongPlace_52 : decode cX1_wrongPlace 52 = .ok (.aload_n 0, 1) := by decide +kernel
theorem dX1_wrongPlace_53 : decode cX1_wrongPlace 53 = .ok (.invokevirtual 42, 3) := by decide +kernel
theorem dX1_wrongPlace_56 : decode cX1_wrongPlace 56 = .ok (.ifCond .eq 7, 3) := by decide +kernel
theorem dX1_wrongPlace_59 : decode cX1_wrongPlace 59 = .ok (.iconst (-1), 1) := by decide +kernel
theorem dX1_wrongPlace_60 : decode cX1_wrongPlace 60 = .ok (.goto 7, 3) := by decide +kernel
theorem dX1_wrongPlace_63 : decode cX1_wrongPlace 63 = .ok (.aload_n 1, 1) := by decide +kernel
theorem dX1_wrongPlace_64 : decode cX1_wrongPlace 64 = .ok (.invokevirtual 26, 3) := by decide +kernel
theorem dX1_wrongPlace_67 : decode cX1_wrongPlace 67 = .ok (.ireturn, 1) := by decide +kernel
theorem dX1_sizeOf_0 : decode cX1_sizeOf 0 = .ok (.aload_n 0, 1) := by decide +kernel
theorem dX1_sizeOf_1 : decode cX1_sizeOf 1 = .ok (.iload_n 1, 1) := by decide +kernel
theorem dX1_sizeOf_2 : decode cX1_sizeOf 2 = .ok (.invokevirtual 22, 3) := by decide +kernel
theorem dX1_sizeOf_5 : decode cX1_sizeOf 5 = .ok (.ifCond .eq 12, 3) := by decide +kernel
theorem dX1_sizeOf_8 : decode cX1_sizeOf 8 = .ok (.aload_n 0, 1) := by decide +kernel
theorem dX1_sizeOf_9 : decode cX1_sizeOf 9 = .ok (.getfield 15, 3) := by decide +kernel
theorem dX1_sizeOf_12 : decode cX1_sizeOf 12 = .ok (.iload_n 1, 1) := by decide +kernel
theorem dX1_sizeOf_13 : decode cX1_sizeOf 13 = .ok (.iaload, 1) := by decide +kernel
theorem dX1_sizeOf_14 : decode cX1_sizeOf 14 = .ok (.goto 4, 3) := by decide +kernel
theorem dX1_sizeOf_17 : decode cX1_sizeOf 17 = .ok (.iconst 0, 1) := by decide +kernel
theorem dX1_sizeOf_18 : decode cX1_sizeOf 18 = .ok (.ireturn, 1) := by decide +kernel
theorem dX1_signAt_0 : decode cX1_signAt 0 = .ok (.iload_n 1, 1) := by decide +kernel
theorem dX1_signAt_1 : decode cX1_signAt 1 = .ok (.ifCond .lt 27, 3) := by decide +kernel
theorem dX1_signAt_4 : decode cX1_signAt 4 = .ok (.iload_n 1, 1) := by decide +kernel
theorem dX1_signAt_5 : decode cX1_signAt 5 = .ok (.bipush 6, 2) := by decide +kernel
theorem dX1_signAt_7 : decode cX1_signAt 7 = .ok (.if_icmp .ge 21, 3) := by decide +kernel
theorem dX1_signAt_10 : decode cX1_signAt 10 = .ok (.iload_n 2, 1) := by decide +kernel
theorem dX1_signAt_11 : decode cX1_signAt 11 = .ok (.ifCond .lt 17, 3) := by decide +kernel
theorem dX1_signAt_14 : decode cX1_signAt 14 = .ok (.iload_n 2, 1) := by decide +kernel
theorem dX1_signAt_15 : decode cX1_signAt 15 = .ok (.aload_n 0, 1) := by decide +kernel
theorem dX1_signAt_16 : decode cX1_signAt 16 = .ok (.getfield 15, 3) := by decide +kernel
theorem dX1_signAt_19 : decode cX1_signAt 19 = .ok (.iload_n 1, 1) := by decide +kernel
theorem dX1_signAt_20 : decode cX1_signAt 20 = .ok (.iaload, 1) := by decide +kernel
theorem dX1_signAt_21 : decode cX1_signAt 21 = .ok (.if_icmp .ge 7, 3) := by decide +kernel
theorem dX1_signAt_24 : decode cX1_signAt 24 = .ok (.iconst 1, 1) := by decide +kernel
theorem dX1_signAt_25 : decode cX1_signAt 25 = .ok (.goto 4, 3) := by decide +kernel
theorem dX1_signAt_28 : decode cX1_signAt 28 = .ok (.iconst 0, 1) := by decide +kernel
theorem dX1_signAt_29 : decode cX1_signAt 29 = .ok (.istore_n 3, 1) := by decide +kernel
theorem dX1_signAt_30 : decode cX1_signAt 30 = .ok (.iload_n 3, 1) := by decide +kernel
theorem dX1_signAt_31 : decode cX1_signAt 31 = .ok (.ifCond .eq 17, 3) := by decide +kernel
theorem dX1_signAt_34 : decode cX1_signAt 34 = .ok (.aload_n 0, 1) := by decide +kernel
theorem dX1_signAt_35 : decode cX1_signAt 35 = .ok (.getfield 11, 3) := by decide +kernel
theorem dX1_signAt_38 : decode cX1_signAt 38 = .ok (.iload_n 1, 1) := by decide +kernel
theorem dX1_signAt_39 : decode cX1_signAt 39 = .ok (.bipush 40, 2) := by decide +kernel
theorem dX1_signAt_41 : decode cX1_signAt 41 = .ok (.imul, 1) := by decide +kernel
theorem dX1_signAt_42 : decode cX1_signAt 42 = .ok (.iload_n 2, 1) := by decide +kernel
theorem dX1_signAt_43 : decode cX1_signAt 43 = .ok (.iadd, 1) := by decide +kernel
theorem dX1_signAt_44 : decode cX1_signAt 44 = .ok (.iaload, 1) := by decide +kernel
theorem dX1_signAt_45 : decode cX1_signAt 45 = .ok (.goto 4, 3) := by decide +kernel
theorem dX1_signAt_48 : decode cX1_signAt 48 = .ok (.iconst (-1), 1) := by decide +kernel
theorem dX1_signAt_49 : decode cX1_signAt 49 = .ok (.ireturn, 1) := by decide +kernel
theorem dX2_init_0 : decode cX2_init 0 = .ok (.aload_n 0, 1) := by decide +kernel
theorem dX2_init_1 : decode cX2_init 1 = .ok (.invokespecial 1, 3) := by decide +kernel
theorem dX2_init_4 : decode cX2_init 4 = .ok (.aload_n 0, 1) := by decide +kernel
theorem dX2_init_5 : decode cX2_init 5 = .ok (.bipush 26, 2) := by decide +kernel
theorem dX2_init_7 : decode cX2_init 7 = .ok (.newarray .int, 2) := by decide +kernel
theorem dX2_init_9 : decode cX2_init 9 = .ok (.putfield 7, 3) := by decide +kernel
theorem dX2_init_12 : decode cX2_init 12 = .ok (.aload_n 0, 1) := by decide +kernel
theorem dX2_init_13 : decode cX2_init 13 = .ok (.aload_n 1, 1) := by decide +kernel
theorem dX2_init_14 : decode cX2_init 14 = .ok (.putfield 13, 3) := by decide +kernel
theorem dX2_init_17 : decode cX2_init 17 = .ok (.return_, 1) := by decide +kernel
theorem dX2_isLaw_0 : decode cX2_isLaw 0 = .ok (.aload_n 0, 1) := by decide +kernel
theorem dX2_isLaw_1 : decode cX2_isLaw 1 = .ok (.iload_n 1, 1) := by decide +kernel
theorem dX2_isLaw_2 : decode cX2_isLaw 2 = .ok (.invokevirtual 17, 3) := by decide +kernel
theorem dX2_isLaw_5 : decode cX2_isLaw 5 = .ok (.ireturn, 1) := by decide +kernel
theorem dX2_enact_0 : decode cX2_enact 0 = .ok (.aload_n 0, 1) := by decide +kernel
theorem dX2_enact_1 : decode cX2_enact 1 = .ok (.iload_n 1, 1) := by decide +kernel
theorem dX2_enact_2 : decode cX2_enact 2 = .ok (.putfield 21, 3) := by decide +kernel
theorem dX2_enact_5 : decode cX2_enact 5 = .ok (.aload_n 0, 1) := by decide +kernel
theorem dX2_enact_6 : decode cX2_enact 6 = .ok (.iload_n 1, 1) := by decide +kernel
theorem dX2_enact_7 : decode cX2_enact 7 = .ok (.aload_n 2, 1) := by decide +kernel
theorem dX2_enact_8 : decode cX2_enact 8 = .ok (.invokevirtual 25, 3) := by decide +kernel
theorem dX2_enact_11 : decode cX2_enact 11 = .ok (.ireturn, 1) := by decide +kernel
theorem dX2_bits_0 : decode cX2_bits 0 = .ok (.iconst 0, 1) := by decide +kernel
theorem dX2_bits_1 : decode cX2_bits 1 = .ok (.istore_n 1, 1) := by decide +kernel
theorem dX2_bits_2 : decode cX2_bits 2 = .ok (.iconst 0, 1) := by decide +kernel
theorem dX2_bits_3 : decode cX2_bits 3 = .ok (.istore_n 2, 1) := by decide +kernel
theorem dX2_bits_4 : decode cX2_bits 4 = .ok (.iload_n 2, 1) := by decide +kernel
theorem dX2_bits_5 : decode cX2_bits 5 = .ok (.bipush 6, 2) := by decide +kernel
theorem dX2_bits_7 : decode cX2_bits 7 = .ok (.if_icmp .ge 23, 3) := by decide +kernel
theorem dX2_bits_10 : decode cX2_bits 10 = .ok (.aload_n 0, 1) := by decide +kernel
theorem dX2_bits_11 : decode cX2_bits 11 = .ok (.iload_n 2, 1) := by decide +kernel
theorem dX2_bits_12 : decode cX2_bits 12 = .ok (.invokevirtual 29, 3) := by decide +kernel
theorem dX2_bits_15 : decode cX2_bits 15 = .ok (.ifCond .le 9, 3) := by decide +kernel
theorem dX2_bits_18 : decode cX2_bits 18 = .ok (.iload_n 1, 1) := by decide +kernel
theorem dX2_bits_19 : decode cX2_bits 19 = .ok (.iconst 1, 1) := by decide +kernel
theorem dX2_bits_20 : decode cX2_bits 20 = .ok (.iload_n 2, 1) := by decide +kernel
theorem dX2_bits_21 : decode cX2_bits 21 = .ok (.ishl, 1) := by decide +kernel
theorem dX2_bits_22 : decode cX2_bits 22 = .ok (.ior, 1) := by decide +kernel
theorem dX2_bits_23 : decode cX2_bits 23 = .ok (.istore_n 1, 1) := by decide +kernel
theorem dX2_bits_24 : decode cX2_bits 24 = .ok (.iinc 2 1, 3) := by decide +kernel
theorem dX2_bits_27 : decode cX2_bits 27 = .ok (.goto (-23), 3) := by decide +kernel
theorem dX2_bits_30 : decode cX2_bits 30 = .ok (.iload_n 1, 1) := by decide +kernel
theorem dX2_bits_31 : decode cX2_bits 31 = .ok (.ireturn, 1) := by decide +kernel
theorem dX2_begin_0 : decode cX2_begin 0 = .ok (.aload_n 0, 1) := by decide +kernel
theorem dX2_begin_1 : decode cX2_begin 1 = .ok (.iconst 1, 1) := by decide +kernel
theorem dX2_begin_2 : decode cX2_begin 2 = .ok (.putfield 33, 3) := by decide +kernel
theorem dX2_begin_5 : decode cX2_begin 5 = .ok (.aload_n 0, 1) := by decide +kernel
theorem dX2_begin_6 : decode cX2_begin 6 = .ok (.iconst 0, 1) := by decide +kernel
theorem dX2_begin_7 : decode cX2_begin 7 = .ok (.putfield 37, 3) := by decide +kernel
theorem dX2_begin_10 : decode cX2_begin 10 = .ok (.aload_n 0, 1) := by decide +kernel
theorem dX2_begin_11 : decode cX2_begin 11 = .ok (.iconst 0, 1) := by decide +kernel
theorem dX2_begin_12 : decode cX2_begin 12 = .ok (.putfield 40, 3) := by decide +kernel
theorem dX2_begin_15 : decode cX2_begin 15 = .ok (.aload_n 0, 1) := by decide +kernel
theorem dX2_begin_16 : decode cX2_begin 16 = .ok (.iconst 0, 1) := by decide +kernel
theorem dX2_begin_17 : decode cX2_begin 17 = .ok (.putfield 43, 3) := by decide +kernel
theorem dX2_begin_20 : decode cX2_begin 20 = .ok (.return_, 1) := by decide +kernel
theorem dX2_takes_0 : decode cX2_takes 0 = .ok (.aload_n 0, 1) := by decide +kernel
theorem dX2_takes_1 : decode cX2_takes 1 = .ok (.getfield 33, 3) := by decide +kernel
theorem dX2_takes_4 : decode cX2_takes 4 = .ok (.ifCond .eq 11, 3) := by decide +kernel
theorem dX2_takes_7 : decode cX2_takes 7 = .ok (.aload_n 0, 1) := by decide +kernel
theorem dX2_takes_8 : decode cX2_takes 8 = .ok (.iload_n 1, 1) := by decide +kernel
theorem dX2_takes_9 : decode cX2_takes 9 = .ok (.invokevirtual 46, 3) := by decide +kernel
theorem dX2_takes_12 : decode cX2_takes 12 = .ok (.goto 8, 3) := by decide +kernel
theorem dX2_takes_15 : decode cX2_takes 15 = .ok (.aload_n 0, 1) := by decide +kernel
theorem dX2_takes_16 : decode cX2_takes 16 = .ok (.iload_n 1, 1) := by decide +kernel
theorem dX2_takes_17 : decode cX2_takes 17 = .ok (.invokevirtual 49, 3) := by decide +kernel
theorem dX2_takes_20 : decode cX2_takes 20 = .ok (.ireturn, 1) := by decide +kernel
theorem dX2_couldEnd_0 : decode cX2_couldEnd 0 = .ok (.aload_n 0, 1) := by decide +kernel
theorem dX2_couldEnd_1 : decode cX2_couldEnd 1 = .ok (.getfield 33, 3) := by decide +kernel
theorem dX2_couldEnd_4 : decode cX2_couldEnd 4 = .ok (.ifCond .ne 14, 3) := by decide +kernel
theorem dX2_couldEnd_7 : decode cX2_couldEnd 7 = .ok (.aload_n 0, 1) := by decide +kernel
theorem dX2_couldEnd_8 : decode cX2_couldEnd 8 = .ok (.getfield 37, 3) := by decide +kernel
theorem dX2_couldEnd_11 : decode cX2_couldEnd 11 = .ok (.ifCond .ne 7, 3) := by decide +kernel
theorem dX2_couldEnd_14 : decode cX2_couldEnd 14 = .ok (.iconst 1, 1) := by decide +kernel
theorem dX2_couldEnd_15 : decode cX2_couldEnd 15 = .ok (.goto 4, 3) := by decide +kernel
theorem dX2_couldEnd_18 : decode cX2_couldEnd 18 = .ok (.iconst 0, 1) := by decide +kernel
theorem dX2_couldEnd_19 : decode cX2_couldEnd 19 = .ok (.ireturn, 1) := by decide +kernel
theorem dX2_takesAhead_0 : decode cX2_takesAhead 0 = .ok (.iload_n 1, 1) := by decide +kernel
theorem dX2_takesAhead_1 : decode cX2_takesAhead 1 = .ok (.bipush 33, 2) := by decide +kernel
theorem dX2_takesAhead_3 : decode cX2_takesAhead 3 = .ok (.if_icmp .eq 9, 3) := by decide +kernel
theorem dX2_takesAhead_6 : decode cX2_takesAhead 6 = .ok (.iload_n 1, 1) := by decide +kernel
theorem dX2_takesAhead_7 : decode cX2_takesAhead 7 = .ok (.bipush 45, 2) := by decide +kernel
theorem dX2_takesAhead_9 : decode cX2_takesAhead 9 = .ok (.if_icmp .ne 5, 3) := by decide +kernel
theorem dX2_takesAhead_12 : decode cX2_takesAhead 12 = .ok (.iconst 1, 1) := by decide +kernel
theorem dX2_takesAhead_13 : decode cX2_takesAhead 13 = .ok (.ireturn, 1) := by decide +kernel
theorem dX2_takesAhead_14 : decode cX2_takesAhead 14 = .ok (.iload_n 1, 1) := by decide +kernel
theorem dX2_takesAhead_15 : decode cX2_takesAhead 15 = .ok (.bipush 40, 2) := by decide +kernel
theorem dX2_takesAhead_17 : decode cX2_takesAhead 17 = .ok (.if_icmp .ne 44, 3) := by decide +kernel
theorem dX2_takesAhead_20 : decode cX2_takesAhead 20 = .ok (.aload_n 0, 1) := by decide +kernel
theorem dX2_takesAhead_21 : decode cX2_takesAhead 21 = .ok (.dup, 1) := by decide +kernel
theorem dX2_takesAhead_22 : decode cX2_takesAhead 22 = .ok (.getfield 37, 3) := by decide +kernel
theorem dX2_takesAhead_25 : decode cX2_takesAhead 25 = .ok (.iconst 1, 1) := by decide +kernel
theorem dX2_takesAhead_26 : decode cX2_takesAhead 26 = .ok (.iadd, 1) := by decide +kernel
theorem dX2_takesAhead_27 : decode cX2_takesAhead 27 = .ok (.putfield 37, 3) := by decide +kernel
theorem dX2_takesAhead_30 : decode cX2_takesAhead 30 = .ok (.aload_n 0, 1) := by decide +kernel
theorem dX2_takesAhead_31 : decode cX2_takesAhead 31 = .ok (.dup, 1) := by decide +kernel
theorem dX2_takesAhead_32 : decode cX2_takesAhead 32 = .ok (.getfield 43, 3) := by decide +kernel
theorem dX2_takesAhead_35 : decode cX2_takesAhead 35 = .ok (.iconst 1, 1) := by decide +kernel
theorem dX2_takesAhead_36 : decode cX2_takesAhead 36 = .ok (.aload_n 0, 1) := by decide +kernel
theorem dX2_takesAhead_37 : decode cX2_takesAhead 37 = .ok (.getfield 37, 3) := by decide +kernel
theorem dX2_takesAhead_40 : decode cX2_takesAhead 40 = .ok (.ishl, 1) := by decide +kernel
theorem dX2_takesAhead_41 : decode cX2_takesAhead 41 = .ok (.iconst (-1), 1) := by decide +kernel
theorem dX2_takesAhead_42 : decode cX2_takesAhead 42 = .ok (.ixor, 1) := by decide +kernel
theorem dX2_takesAhead_43 : decode cX2_takesAhead 43 = .ok (.iand, 1) := by decide +kernel
theorem dX2_takesAhead_44 : decode cX2_takesAhead 44 = .ok (.putfield 43, 3) := by decide +kernel
theorem dX2_takesAhead_47 : decode cX2_takesAhead 47 = .ok (.aload_n 0, 1) := by decide +kernel
theorem dX2_takesAhead_48 : decode cX2_takesAhead 48 = .ok (.getfield 37, 3) := by decide +kernel
theorem dX2_takesAhead_51 : decode cX2_takesAhead 51 = .ok (.iconst 5, 1) := by decide +kernel
theorem dX2_takesAhead_52 : decode cX2_takesAhead 52 = .ok (.if_icmp .gt 7, 3) := by decide +kernel
theorem dX2_takesAhead_55 : decode cX2_takesAhead 55 = .ok (.iconst 1, 1) := by decide +kernel
theorem dX2_takesAhead_56 : decode cX2_takesAhead 56 = .ok (.goto 4, 3) := by decide +kernel
theorem dX2_takesAhead_59 : decode cX2_takesAhead 59 = .ok (.iconst 0, 1) := by decide +kernel
theorem dX2_takesAhead_60 : decode cX2_takesAhead 60 = .ok (.ireturn, 1) := by decide +kernel
theorem dX2_takesAhead_61 : decode cX2_takesAhead 61 = .ok (.aload_n 0, 1) := by decide +kernel
theorem dX2_takesAhead_62 : decode cX2_takesAhead 62 = .ok (.iload_n 1, 1) := by decide +kernel
theorem dX2_takesAhead_63 : decode cX2_takesAhead 63 = .ok (.invokestatic 52, 3) := by decide +kernel
theorem dX2_takesAhead_66 : decode cX2_takesAhead 66 = .ok (.ifCond .eq 7, 3) := by decide +kernel
theorem dX2_takesAhead_69 : decode cX2_takesAhead 69 = .ok (.iconst 1, 1) := by decide +kernel
theorem dX2_takesAhead_70 : decode cX2_takesAhead 70 = .ok (.goto 4, 3) := by decide +kernel
theorem dX2_takesAhead_73 : decode cX2_takesAhead 73 = .ok (.iconst 0, 1) := by decide +kernel
theorem dX2_takesAhead_74 : decode cX2_takesAhead 74 = .ok (.putfield 40, 3) := by decide +kernel
theorem dX2_takesAhead_77 : decode cX2_takesAhead 77 = .ok (.aload_n 0, 1) := by decide +kernel
theorem dX2_takesAhead_78 : decode cX2_takesAhead 78 = .ok (.iconst 0, 1) := by decide +kernel
theorem dX2_takesAhead_79 : decode cX2_takesAhead 79 = .ok (.putfield 33, 3) := by decide +kernel
theorem dX2_takesAhead_82 : decode cX2_takesAhead 82 = .ok (.aload_n 0, 1) := by decide +kernel
theorem dX2_takesAhead_83 : decode cX2_takesAhead 83 = .ok (.getfield 40, 3) := by decide +kernel
theorem dX2_takesAhead_86 : decode cX2_takesAhead 86 = .ok (.iconst 1, 1) := by decide +kernel
theorem dX2_takesAhead_87 : decode cX2_takesAhead 87 = .ok (.if_icmp .eq 11, 3) := by decide +kernel
theorem dX2_takesAhead_90 : decode cX2_takesAhead 90 = .ok (.aload_n 0, 1) := by decide +kernel
theorem dX2_takesAhead_91 : decode cX2_takesAhead 91 = .ok (.iload_n 1, 1) := by decide +kernel
theorem dX2_takesAhead_92 : decode cX2_takesAhead 92 = .ok (.invokevirtual 55, 3) := by decide +kernel
theorem dX2_takesAhead_95 : decode cX2_takesAhead 95 = .ok (.ifCond .eq 7, 3) := by decide +kernel
theorem dX2_takesAhead_98 : decode cX2_takesAhead 98 = .ok (.iconst 1, 1) := by decide +kernel
theorem dX2_takesAhead_99 : decode cX2_takesAhead 99 = .ok (.goto 4, 3) := by decide +kernel
theorem dX2_takesAhead_102 : decode cX2_takesAhead 102 = .ok (.iconst 0, 1) := by decide +kernel
theorem dX2_takesAhead_103 : decode cX2_takesAhead 103 = .ok (.ireturn, 1) := by decide +kernel
theorem dX2_takesBehind_0 : decode cX2_takesBehind 0 = .ok (.iload_n 1, 1) := by decide +kernel
theorem dX2_takesBehind_1 : decode cX2_takesBehind 1 = .ok (.invokestatic 52, 3) := by decide +kernel
theorem dX2_takesBehind_4 : decode cX2_takesBehind 4 = .ok (.ifCond .eq 35, 3) := by decide +kernel
theorem dX2_takesBehind_7 : decode cX2_takesBehind 7 = .ok (.aload_n 0, 1) := by decide +kernel
theorem dX2_takesBehind_8 : decode cX2_takesBehind 8 = .ok (.dup, 1) := by decide +kernel
theorem dX2_takesBehind_9 : decode cX2_takesBehind 9 = .ok (.getfield 40, 3) := by decide +kernel
theorem dX2_takesBehind_12 : decode cX2_takesBehind 12 = .ok (.iconst 1, 1) := by decide +kernel
theorem dX2_takesBehind_13 : decode cX2_takesBehind 13 = .ok (.iadd, 1) := by decide +kernel
theorem dX2_takesBehind_14 : decode cX2_takesBehind 14 = .ok (.putfield 40, 3) := by decide +kernel
theorem dX2_takesBehind_17 : decode cX2_takesBehind 17 = .ok (.aload_n 0, 1) := by decide +kernel
theorem dX2_takesBehind_18 : decode cX2_takesBehind 18 = .ok (.getfield 40, 3) := by decide +kernel
theorem dX2_takesBehind_21 : decode cX2_takesBehind 21 = .ok (.iconst 1, 1) := by decide +kernel
theorem dX2_takesBehind_22 : decode cX2_takesBehind 22 = .ok (.if_icmp .le 15, 3) := by decide +kernel
theorem dX2_takesBehind_25 : decode cX2_takesBehind 25 = .ok (.aload_n 0, 1) := by decide +kernel
theorem dX2_takesBehind_26 : decode cX2_takesBehind 26 = .ok (.getfield 40, 3) := by decide +kernel
theorem dX2_takesBehind_29 : decode cX2_takesBehind 29 = .ok (.iconst 3, 1) := by decide +kernel
theorem dX2_takesBehind_30 : decode cX2_takesBehind 30 = .ok (.if_icmp .gt 7, 3) := by decide +kernel
theorem dX2_takesBehind_33 : decode cX2_takesBehind 33 = .ok (.iconst 1, 1) := by decide +kernel
theorem dX2_takesBehind_34 : decode cX2_takesBehind 34 = .ok (.goto 4, 3) := by decide +kernel
theorem dX2_takesBehind_37 : decode cX2_takesBehind 37 = .ok (.iconst 0, 1) := by decide +kernel
theorem dX2_takesBehind_38 : decode cX2_takesBehind 38 = .ok (.ireturn, 1) := by decide +kernel
theorem dX2_takesBehind_39 : decode cX2_takesBehind 39 = .ok (.aload_n 0, 1) := by decide +kernel
theorem dX2_takesBehind_40 : decode cX2_takesBehind 40 = .ok (.iconst 0, 1) := by decide +kernel
theorem dX2_takesBehind_41 : decode cX2_takesBehind 41 = .ok (.putfield 40, 3) := by decide +kernel
theorem dX2_takesBehind_44 : decode cX2_takesBehind 44 = .ok (.iload_n 1, 1) := by decide +kernel
theorem dX2_takesBehind_45 : decode cX2_takesBehind 45 = .ok (.bipush 41, 2) := by decide +kernel
theorem dX2_takesBehind_47 : decode cX2_takesBehind 47 = .ok (.if_icmp .ne 26, 3) := by decide +kernel
theorem dX2_takesBehind_50 : decode cX2_takesBehind 50 = .ok (.aload_n 0, 1) := by decide +kernel
theorem dX2_takesBehind_51 : decode cX2_takesBehind 51 = .ok (.dup, 1) := by decide +kernel
theorem dX2_takesBehind_52 : decode cX2_takesBehind 52 = .ok (.getfield 37, 3) := by decide +kernel
theorem dX2_takesBehind_55 : decode cX2_takesBehind 55 = .ok (.iconst 1, 1) := by decide +kernel
theorem dX2_takesBehind_56 : decode cX2_takesBehind 56 = .ok (.isub, 1) := by decide +kernel
theorem dX2_takesBehind_57 : decode cX2_takesBehind 57 = .ok (.putfield 37, 3) := by decide +kernel
theorem dX2_takesBehind_60 : decode cX2_takesBehind 60 = .ok (.aload_n 0, 1) := by decide +kernel
theorem dX2_takesBehind_61 : decode cX2_takesBehind 61 = .ok (.getfield 37, 3) := by decide +kernel
theorem dX2_takesBehind_64 : decode cX2_takesBehind 64 = .ok (.ifCond .lt 7, 3) := by decide +kernel
theorem dX2_takesBehind_67 : decode cX2_takesBehind 67 = .ok (.iconst 1, 1) := by decide +kernel
theorem dX2_takesBehind_68 : decode cX2_takesBehind 68 = .ok (.goto 4, 3) := by decide +kernel
theorem dX2_takesBehind_71 : decode cX2_takesBehind 71 = .ok (.iconst 0, 1) := by decide +kernel
theorem dX2_takesBehind_72 : decode cX2_takesBehind 72 = .ok (.ireturn, 1) := by decide +kernel
theorem dX2_takesBehind_73 : decode cX2_takesBehind 73 = .ok (.aload_n 0, 1) := by decide +kernel
theorem dX2_takesBehind_74 : decode cX2_takesBehind 74 = .ok (.iconst 1, 1) := by decide +kernel
theorem dX2_takesBehind_75 : decode cX2_takesBehind 75 = .ok (.putfield 33, 3) := by decide +kernel
theorem dX2_takesBehind_78 : decode cX2_takesBehind 78 = .ok (.iload_n 1, 1) := by decide +kernel
theorem dX2_takesBehind_79 : decode cX2_takesBehind 79 = .ok (.invokestatic 58, 3) := by decide +kernel
theorem dX2_takesBehind_82 : decode cX2_takesBehind 82 = .ok (.ifCond .eq 40, 3) := by decide +kernel
theorem dX2_takesBehind_85 : decode cX2_takesBehind 85 = .ok (.aload_n 0, 1) := by decide +kernel
theorem dX2_takesBehind_86 : decode cX2_takesBehind 86 = .ok (.getfield 43, 3) := by decide +kernel
theorem dX2_takesBehind_89 : decode cX2_takesBehind 89 = .ok (.aload_n 0, 1) := by decide +kernel
theorem dX2_takesBehind_90 : decode cX2_takesBehind 90 = .ok (.getfield 37, 3) := by decide +kernel
theorem dX2_takesBehind_93 : decode cX2_takesBehind 93 = .ok (.invokestatic 61, 3) := by decide +kernel
theorem dX2_takesBehind_96 : decode cX2_takesBehind 96 = .ok (.ifCond .ne 7, 3) := by decide +kernel
theorem dX2_takesBehind_99 : decode cX2_takesBehind 99 = .ok (.iconst 1, 1) := by decide +kernel
theorem dX2_takesBehind_100 : decode cX2_takesBehind 100 = .ok (.goto 4, 3) := by decide +kernel
theorem dX2_takesBehind_103 : decode cX2_takesBehind 103 = .ok (.iconst 0, 1) := by decide +kernel
theorem dX2_takesBehind_104 : decode cX2_takesBehind 104 = .ok (.istore_n 2, 1) := by decide +kernel
theorem dX2_takesBehind_105 : decode cX2_takesBehind 105 = .ok (.aload_n 0, 1) := by decide +kernel
theorem dX2_takesBehind_106 : decode cX2_takesBehind 106 = .ok (.dup, 1) := by decide +kernel
theorem dX2_takesBehind_107 : decode cX2_takesBehind 107 = .ok (.getfield 43, 3) := by decide +kernel
theorem dX2_takesBehind_110 : decode cX2_takesBehind 110 = .ok (.iconst 1, 1) := by decide +kernel
theorem dX2_takesBehind_111 : decode cX2_takesBehind 111 = .ok (.aload_n 0, 1) := by decide +kernel
theorem dX2_takesBehind_112 : decode cX2_takesBehind 112 = .ok (.getfield 37, 3) := by decide +kernel
theorem dX2_takesBehind_115 : decode cX2_takesBehind 115 = .ok (.ishl, 1) := by decide +kernel
theorem dX2_takesBehind_116 : decode cX2_takesBehind 116 = .ok (.ior, 1) := by decide +kernel
theorem dX2_takesBehind_117 : decode cX2_takesBehind 117 = .ok (.putfield 43, 3) := by decide +kernel
theorem dX2_takesBehind_120 : decode cX2_takesBehind 120 = .ok (.iload_n 2, 1) := by decide +kernel
theorem dX2_takesBehind_121 : decode cX2_takesBehind 121 = .ok (.ireturn, 1) := by decide +kernel
theorem dX2_takesBehind_122 : decode cX2_takesBehind 122 = .ok (.iload_n 1, 1) := by decide +kernel
theorem dX2_takesBehind_123 : decode cX2_takesBehind 123 = .ok (.bipush 124, 2) := by decide +kernel
theorem dX2_takesBehind_125 : decode cX2_takesBehind 125 = .ok (.if_icmp .eq 9, 3) := by decide +kernel
theorem dX2_takesBehind_128 : decode cX2_takesBehind 128 = .ok (.iload_n 1, 1) := by decide +kernel
theorem dX2_takesBehind_129 : decode cX2_takesBehind 129 = .ok (.bipush 38, 2) := by decide +kernel
theorem dX2_takesBehind_131 : decode cX2_takesBehind 131 = .ok (.if_icmp .ne 22, 3) := by decide +kernel
theorem dX2_takesBehind_134 : decode cX2_takesBehind 134 = .ok (.aload_n 0, 1) := by decide +kernel
theorem dX2_takesBehind_135 : decode cX2_takesBehind 135 = .ok (.dup, 1) := by decide +kernel
theorem dX2_takesBehind_136 : decode cX2_takesBehind 136 = .ok (.getfield 43, 3) := by decide +kernel
theorem dX2_takesBehind_139 : decode cX2_takesBehind 139 = .ok (.iconst 1, 1) := by decide +kernel
theorem dX2_takesBehind_140 : decode cX2_takesBehind 140 = .ok (.aload_n 0, 1) := by decide +kernel
theorem dX2_takesBehind_141 : decode cX2_takesBehind 141 = .ok (.getfield 37, 3) := by decide +kernel
theorem dX2_takesBehind_144 : decode cX2_takesBehind 144 = .ok (.ishl, 1) := by decide +kernel
theorem dX2_takesBehind_145 : decode cX2_takesBehind 145 = .ok (.iconst (-1), 1) := by decide +kernel
theorem dX2_takesBehind_146 : decode cX2_takesBehind 146 = .ok (.ixor, 1) := by decide +kernel
theorem dX2_takesBehind_147 : decode cX2_takesBehind 147 = .ok (.iand, 1) := by decide +kernel
theorem dX2_takesBehind_148 : decode cX2_takesBehind 148 = .ok (.putfield 43, 3) := by decide +kernel
theorem dX2_takesBehind_151 : decode cX2_takesBehind 151 = .ok (.iconst 1, 1) := by decide +kernel
theorem dX2_takesBehind_152 : decode cX2_takesBehind 152 = .ok (.ireturn, 1) := by decide +kernel
theorem dX2_takesBehind_153 : decode cX2_takesBehind 153 = .ok (.iload_n 1, 1) := by decide +kernel
theorem dX2_takesBehind_154 : decode cX2_takesBehind 154 = .ok (.bipush 43, 2) := by decide +kernel
theorem dX2_takesBehind_156 : decode cX2_takesBehind 156 = .ok (.if_icmp .eq 21, 3) := by decide +kernel
theorem dX2_takesBehind_159 : decode cX2_takesBehind 159 = .ok (.iload_n 1, 1) := by decide +kernel
theorem dX2_takesBehind_160 : decode cX2_takesBehind 160 = .ok (.bipush 45, 2) := by decide +kernel
theorem dX2_takesBehind_162 : decode cX2_takesBehind 162 = .ok (.if_icmp .eq 15, 3) := by decide +kernel
theorem dX2_takesBehind_165 : decode cX2_takesBehind 165 = .ok (.iload_n 1, 1) := by decide +kernel
theorem dX2_takesBehind_166 : decode cX2_takesBehind 166 = .ok (.bipush 42, 2) := by decide +kernel
theorem dX2_takesBehind_168 : decode cX2_takesBehind 168 = .ok (.if_icmp .eq 9, 3) := by decide +kernel
theorem dX2_takesBehind_171 : decode cX2_takesBehind 171 = .ok (.iload_n 1, 1) := by decide +kernel
theorem dX2_takesBehind_172 : decode cX2_takesBehind 172 = .ok (.bipush 47, 2) := by decide +kernel
theorem dX2_takesBehind_174 : decode cX2_takesBehind 174 = .ok (.if_icmp .ne 7, 3) := by decide +kernel
theorem dX2_takesBehind_177 : decode cX2_takesBehind 177 = .ok (.iconst 1, 1) := by decide +kernel
theorem dX2_takesBehind_178 : decode cX2_takesBehind 178 = .ok (.goto 4, 3) := by decide +kernel
theorem dX2_takesBehind_181 : decode cX2_takesBehind 181 = .ok (.iconst 0, 1) := by decide +kernel
theorem dX2_takesBehind_182 : decode cX2_takesBehind 182 = .ok (.ireturn, 1) := by decide +kernel
theorem dX2_isThing_0 : decode cX2_isThing 0 = .ok (.iload_n 1, 1) := by decide +kernel
theorem dX2_isThing_1 : decode cX2_isThing 1 = .ok (.tableswitch 144 98 122 #[117, 144, 144, 130, 144, 144, 115, 144, 144, 115, 115, 144, 144, 144, 144, 115, 115, 144, 115, 144, 144, 115, 144, 144, 115], 115) := by decide +kernel
theorem dX2_isThing_116 : decode cX2_isThing 116 = .ok (.iconst 1, 1) := by decide +kernel
theorem dX2_isThing_117 : decode cX2_isThing 117 = .ok (.ireturn, 1) := by decide +kernel
theorem dX2_isThing_118 : decode cX2_isThing 118 = .ok (.aload_n 0, 1) := by decide +kernel
theorem dX2_isThing_119 : decode cX2_isThing 119 = .ok (.getfield 21, 3) := by decide +kernel
theorem dX2_isThing_122 : decode cX2_isThing 122 = .ok (.ifCond .le 7, 3) := by decide +kernel
theorem dX2_isThing_125 : decode cX2_isThing 125 = .ok (.iconst 1, 1) := by decide +kernel
theorem dX2_isThing_126 : decode cX2_isThing 126 = .ok (.goto 4, 3) := by decide +kernel
theorem dX2_isThing_129 : decode cX2_isThing 129 = .ok (.iconst 0, 1) := by decide +kernel
theorem dX2_isThing_130 : decode cX2_isThing 130 = .ok (.ireturn, 1) := by decide +kernel
theorem dX2_isThing_131 : decode cX2_isThing 131 = .ok (.aload_n 0, 1) := by decide +kernel
theorem dX2_isThing_132 : decode cX2_isThing 132 = .ok (.getfield 21, 3) := by decide +kernel
theorem dX2_isThing_135 : decode cX2_isThing 135 = .ok (.iconst 1, 1) := by decide +kernel
theorem dX2_isThing_136 : decode cX2_isThing 136 = .ok (.if_icmp .le 7, 3) := by decide +kernel
theorem dX2_isThing_139 : decode cX2_isThing 139 = .ok (.iconst 1, 1) := by decide +kernel
theorem dX2_isThing_140 : decode cX2_isThing 140 = .ok (.goto 4, 3) := by decide +kernel
theorem dX2_isThing_143 : decode cX2_isThing 143 = .ok (.iconst 0, 1) := by decide +kernel
theorem dX2_isThing_144 : decode cX2_isThing 144 = .ok (.ireturn, 1) := by decide +kernel
theorem dX2_isThing_145 : decode cX2_isThing 145 = .ok (.iconst 0, 1) := by decide +kernel
theorem dX2_isThing_146 : decode cX2_isThing 146 = .ok (.ireturn, 1) := by decide +kernel
theorem dX2_isDigit_0 : decode cX2_isDigit 0 = .ok (.iload_n 0, 1) := by decide +kernel
theorem dX2_isDigit_1 : decode cX2_isDigit 1 = .ok (.bipush 48, 2) := by decide +kernel
theorem dX2_isDigit_3 : decode cX2_isDigit 3 = .ok (.if_icmp .lt 13, 3) := by decide +kernel
theorem dX2_isDigit_6 : decode cX2_isDigit 6 = .ok (.iload_n 0, 1) := by decide +kernel
theorem dX2_isDigit_7 : decode cX2_isDigit 7 = .ok (.bipush 57, 2) := by decide +kernel
theorem dX2_isDigit_9 : decode cX2_isDigit 9 = .ok (.if_icmp .gt 7, 3) := by decide +kernel
theorem dX2_isDigit_12 : decode cX2_isDigit 12 = .ok (.iconst 1, 1) := by decide +kernel
theorem dX2_isDigit_13 : decode cX2_isDigit 13 = .ok (.goto 4, 3) := by decide +kernel
theorem dX2_isDigit_16 : decode cX2_isDigit 16 = .ok (.iconst 0, 1) := by decide +kernel
theorem dX2_isDigit_17 : decode cX2_isDigit 17 = .ok (.ireturn, 1) := by decide +kernel
theorem dX2_isComparison_0 : decode cX2_isComparison 0 = .ok (.iload_n 0, 1) := by decide +kernel
theorem dX2_isComparison_1 : decode cX2_isComparison 1 = .ok (.bipush 60, 2) := by decide +kernel
theorem dX2_isComparison_3 : decode cX2_isComparison 3 = .ok (.if_icmp .eq 15, 3) := by decide +kernel
theorem dX2_isComparison_6 : decode cX2_isComparison 6 = .ok (.iload_n 0, 1) := by decide +kernel
theorem dX2_isComparison_7 : decode cX2_isComparison 7 = .ok (.bipush 62, 2) := by decide +kernel
theorem dX2_isComparison_9 : decode cX2_isComparison 9 = .ok (.if_icmp .eq 9, 3) := by decide +kernel
theorem dX2_isComparison_12 : decode cX2_isComparison 12 = .ok (.iload_n 0, 1) := by decide +kernel
theorem dX2_isComparison_13 : decode cX2_isComparison 13 = .ok (.bipush 61, 2) := by decide +kernel
theorem dX2_isComparison_15 : decode cX2_isComparison 15 = .ok (.if_icmp .ne 7, 3) := by decide +kernel
theorem dX2_isComparison_18 : decode cX2_isComparison 18 = .ok (.iconst 1, 1) := by decide +kernel
theorem dX2_isComparison_19 : decode cX2_isComparison 19 = .ok (.goto 4, 3) := by decide +kernel
theorem dX2_isComparison_22 : decode cX2_isComparison 22 = .ok (.iconst 0, 1) := by decide +kernel
theorem dX2_isComparison_23 : decode cX2_isComparison 23 = .ok (.ireturn, 1) := by decide +kernel
theorem dX2_let_0 : decode cX2_let 0 = .ok (.iload_n 1, 1) := by decide +kernel
theorem dX2_let_1 : decode cX2_let 1 = .ok (.bipush 97, 2) := by decide +kernel
theorem dX2_let_3 : decode cX2_let 3 = .ok (.isub, 1) := by decide +kernel
theorem dX2_let_4 : decode cX2_let 4 = .ok (.istore_n 3, 1) := by decide +kernel
theorem dX2_let_5 : decode cX2_let 5 = .ok (.iload_n 3, 1) := by decide +kernel
theorem dX2_let_6 : decode cX2_let 6 = .ok (.ifCond .lt 19, 3) := by decide +kernel
theorem dX2_let_9 : decode cX2_let 9 = .ok (.iload_n 3, 1) := by decide +kernel
theorem dX2_let_10 : decode cX2_let 10 = .ok (.aload_n 0, 1) := by decide +kernel
theorem dX2_let_11 : decode cX2_let 11 = .ok (.getfield 7, 3) := by decide +kernel
theorem dX2_let_14 : decode cX2_let 14 = .ok (.arraylength, 1) := by decide +kernel
theorem dX2_let_15 : decode cX2_let 15 = .ok (.if_icmp .ge 10, 3) := by decide +kernel
theorem dX2_let_18 : decode cX2_let 18 = .ok (.aload_n 0, 1) := by decide +kernel
theorem dX2_let_19 : decode cX2_let 19 = .ok (.getfield 7, 3) := by decide +kernel
theorem dX2_let_22 : decode cX2_let 22 = .ok (.iload_n 3, 1) := by decide +kernel
theorem dX2_let_23 : decode cX2_let 23 = .ok (.iload_n 2, 1) := by decide +kernel
theorem dX2_let_24 : decode cX2_let 24 = .ok (.iastore, 1) := by decide +kernel
theorem dX2_let_25 : decode cX2_let 25 = .ok (.return_, 1) := by decide +kernel
theorem dX2_reckon_0 : decode cX2_reckon 0 = .ok (.aload_n 0, 1) := by decide +kernel
theorem dX2_reckon_1 : decode cX2_reckon 1 = .ok (.iload_n 1, 1) := by decide +kernel
theorem dX2_reckon_2 : decode cX2_reckon 2 = .ok (.putfield 21, 3) := by decide +kernel
theorem dX2_reckon_5 : decode cX2_reckon 5 = .ok (.aload_n 0, 1) := by decide +kernel
theorem dX2_reckon_6 : decode cX2_reckon 6 = .ok (.iconst 0, 1) := by decide +kernel
theorem dX2_reckon_7 : decode cX2_reckon 7 = .ok (.putfield 67, 3) := by decide +kernel
theorem dX2_reckon_10 : decode cX2_reckon 10 = .ok (.aload_n 0, 1) := by decide +kernel
theorem dX2_reckon_11 : decode cX2_reckon 11 = .ok (.aload_n 0, 1) := by decide +kernel
theorem dX2_reckon_12 : decode cX2_reckon 12 = .ok (.iload_n 1, 1) := by decide +kernel
theorem dX2_reckon_13 : decode cX2_reckon 13 = .ok (.invokevirtual 29, 3) := by decide +kernel
theorem dX2_reckon_16 : decode cX2_reckon 16 = .ok (.putfield 70, 3) := by decide +kernel
theorem dX2_reckon_19 : decode cX2_reckon 19 = .ok (.aload_n 0, 1) := by decide +kernel
theorem dX2_reckon_20 : decode cX2_reckon 20 = .ok (.getfield 70, 3) := by decide +kernel
theorem dX2_reckon_23 : decode cX2_reckon 23 = .ok (.ifCond .ne 7, 3) := by decide +kernel
theorem dX2_reckon_26 : decode cX2_reckon 26 = .ok (.iload_n 2, 1) := by decide +kernel
theorem dX2_reckon_27 : decode cX2_reckon 27 = .ok (.goto 8, 3) := by decide +kernel
theorem dX2_reckon_30 : decode cX2_reckon 30 = .ok (.aload_n 0, 1) := by decide +kernel
theorem dX2_reckon_31 : decode cX2_reckon 31 = .ok (.iconst 0, 1) := by decide +kernel
theorem dX2_reckon_32 : decode cX2_reckon 32 = .ok (.invokevirtual 73, 3) := by decide +kernel
theorem dX2_reckon_35 : decode cX2_reckon 35 = .ok (.ireturn, 1) := by decide +kernel
theorem dX2_here_0 : decode cX2_here 0 = .ok (.aload_n 0, 1) := by decide +kernel
theorem dX2_here_1 : decode cX2_here 1 = .ok (.aload_n 0, 1) := by decide +kernel
theorem dX2_here_2 : decode cX2_here 2 = .ok (.getfield 21, 3) := by decide +kernel
theorem dX2_here_5 : decode cX2_here 5 = .ok (.aload_n 0, 1) := by decide +kernel
theorem dX2_here_6 : decode cX2_here 6 = .ok (.getfield 67, 3) := by decide +kernel
theorem dX2_here_9 : decode cX2_here 9 = .ok (.invokevirtual 76, 3) := by decide +kernel
theorem dX2_here_12 : decode cX2_here 12 = .ok (.ireturn, 1) := by decide +kernel
theorem dX2_either_0 : decode cX2_either 0 = .ok (.aload_n 0, 1) := by decide +kernel
theorem dX2_either_1 : decode cX2_either 1 = .ok (.iload_n 1, 1) := by decide +kernel
theorem dX2_either_2 : decode cX2_either 2 = .ok (.invokevirtual 80, 3) := by decide +kernel
theorem dX2_either_5 : decode cX2_either 5 = .ok (.istore_n 2, 1) := by decide +kernel
theorem dX2_either_6 : decode cX2_either 6 = .ok (.aload_n 0, 1) := by decide +kernel
theorem dX2_either_7 : decode cX2_either 7 = .ok (.getfield 67, 3) := by decide +kernel
theorem dX2_either_10 : decode cX2_either 10 = .ok (.aload_n 0, 1) := by decide +kernel
theorem dX2_either_11 : decode cX2_either 11 = .ok (.getfield 70, 3) := by decide +kernel
theorem dX2_either_14 : decode cX2_either 14 = .ok (.if_icmp .ge 45, 3) := by decide +kernel
theorem dX2_either_17 : decode cX2_either 17 = .ok (.aload_n 0, 1) := by decide +kernel
theorem dX2_either_18 : decode cX2_either 18 = .ok (.invokevirtual 83, 3) := by decide +kernel
theorem dX2_either_21 : decode cX2_either 21 = .ok (.bipush 124, 2) := by decide +kernel
theorem dX2_either_23 : decode cX2_either 23 = .ok (.if_icmp .ne 36, 3) := by decide +kernel
theorem dX2_either_26 : decode cX2_either 26 = .ok (.aload_n 0, 1) := by decide +kernel
theorem dX2_either_27 : decode cX2_either 27 = .ok (.dup, 1) := by decide +kernel
theorem dX2_either_28 : decode cX2_either 28 = .ok (.getfield 67, 3) := by decide +kernel
theorem dX2_either_31 : decode cX2_either 31 = .ok (.iconst 1, 1) := by decide +kernel
theorem dX2_either_32 : decode cX2_either 32 = .ok (.iadd, 1) := by decide +kernel
theorem dX2_either_33 : decode cX2_either 33 = .ok (.putfield 67, 3) := by decide +kernel
theorem dX2_either_36 : decode cX2_either 36 = .ok (.aload_n 0, 1) := by decide +kernel
theorem dX2_either_37 : decode cX2_either 37 = .ok (.iload_n 1, 1) := by decide +kernel
theorem dX2_either_38 : decode cX2_either 38 = .ok (.invokevirtual 80, 3) := by decide +kernel
theorem dX2_either_41 : decode cX2_either 41 = .ok (.istore_n 3, 1) := by decide +kernel
theorem dX2_either_42 : decode cX2_either 42 = .ok (.iload_n 2, 1) := by decide +kernel
theorem dX2_either_43 : decode cX2_either 43 = .ok (.ifCond .ne 7, 3) := by decide +kernel
theorem dX2_either_46 : decode cX2_either 46 = .ok (.iload_n 3, 1) := by decide +kernel
theorem dX2_either_47 : decode cX2_either 47 = .ok (.ifCond .eq 7, 3) := by decide +kernel
theorem dX2_either_50 : decode cX2_either 50 = .ok (.iconst 1, 1) := by decide +kernel
theorem dX2_either_51 : decode cX2_either 51 = .ok (.goto 4, 3) := by decide +kernel
theorem dX2_either_54 : decode cX2_either 54 = .ok (.iconst 0, 1) := by decide +kernel
theorem dX2_either_55 : decode cX2_either 55 = .ok (.istore_n 2, 1) := by decide +kernel
theorem dX2_either_56 : decode cX2_either 56 = .ok (.goto (-50), 3) := by decide +kernel
theorem dX2_either_59 : decode cX2_either 59 = .ok (.iload_n 2, 1) := by decide +kernel
theorem dX2_either_60 : decode cX2_either 60 = .ok (.ireturn, 1) := by decide +kernel
theorem dX2_both_0 : decode cX2_both 0 = .ok (.aload_n 0, 1) := by decide +kernel
theorem dX2_both_1 : decode cX2_both 1 = .ok (.iload_n 1, 1) := by decide +kernel
theorem dX2_both_2 : decode cX2_both 2 = .ok (.invokevirtual 87, 3) := by decide +kernel
theorem dX2_both_5 : decode cX2_both 5 = .ok (.istore_n 2, 1) := by decide +kernel
theorem dX2_both_6 : decode cX2_both 6 = .ok (.aload_n 0, 1) := by decide +kernel
theorem dX2_both_7 : decode cX2_both 7 = .ok (.getfield 67, 3) := by decide +kernel
theorem dX2_both_10 : decode cX2_both 10 = .ok (.aload_n 0, 1) := by decide +kernel
theorem dX2_both_11 : decode cX2_both 11 = .ok (.getfield 70, 3) := by decide +kernel
theorem dX2_both_14 : decode cX2_both 14 = .ok (.if_icmp .ge 45, 3) := by decide +kernel
theorem dX2_both_17 : decode cX2_both 17 = .ok (.aload_n 0, 1) := by decide +kernel
theorem dX2_both_18 : decode cX2_both 18 = .ok (.invokevirtual 83, 3) := by decide +kernel
theorem dX2_both_21 : decode cX2_both 21 = .ok (.bipush 38, 2) := by decide +kernel
theorem dX2_both_23 : decode cX2_both 23 = .ok (.if_icmp .ne 36, 3) := by decide +kernel
theorem dX2_both_26 : decode cX2_both 26 = .ok (.aload_n 0, 1) := by decide +kernel
theorem dX2_both_27 : decode cX2_both 27 = .ok (.dup, 1) := by decide +kernel
theorem dX2_both_28 : decode cX2_both 28 = .ok (.getfield 67, 3) := by decide +kernel
theorem dX2_both_31 : decode cX2_both 31 = .ok (.iconst 1, 1) := by decide +kernel
theorem dX2_both_32 : decode cX2_both 32 = .ok (.iadd, 1) := by decide +kernel
theorem dX2_both_33 : decode cX2_both 33 = .ok (.putfield 67, 3) := by decide +kernel
theorem dX2_both_36 : decode cX2_both 36 = .ok (.aload_n 0, 1) := by decide +kernel
theorem dX2_both_37 : decode cX2_both 37 = .ok (.iload_n 1, 1) := by decide +kernel
theorem dX2_both_38 : decode cX2_both 38 = .ok (.invokevirtual 87, 3) := by decide +kernel
theorem dX2_both_41 : decode cX2_both 41 = .ok (.istore_n 3, 1) := by decide +kernel
theorem dX2_both_42 : decode cX2_both 42 = .ok (.iload_n 2, 1) := by decide +kernel
theorem dX2_both_43 : decode cX2_both 43 = .ok (.ifCond .eq 11, 3) := by decide +kernel
theorem dX2_both_46 : decode cX2_both 46 = .ok (.iload_n 3, 1) := by decide +kernel
theorem dX2_both_47 : decode cX2_both 47 = .ok (.ifCond .eq 7, 3) := by decide +kernel
theorem dX2_both_50 : decode cX2_both 50 = .ok (.iconst 1, 1) := by decide +kernel
theorem dX2_both_51 : decode cX2_both 51 = .ok (.goto 4, 3) := by decide +kernel
theorem dX2_both_54 : decode cX2_both 54 = .ok (.iconst 0, 1) := by decide +kernel
theorem dX2_both_55 : decode cX2_both 55 = .ok (.istore_n 2, 1) := by decide +kernel
theorem dX2_both_56 : decode cX2_both 56 = .ok (.goto (-50), 3) := by decide +kernel
theorem dX2_both_59 : decode cX2_both 59 = .ok (.iload_n 2, 1) := by decide +kernel
theorem dX2_both_60 : decode cX2_both 60 = .ok (.ireturn, 1) := by decide +kernel
theorem dX2_comparison_0 : decode cX2_comparison 0 = .ok (.aload_n 0, 1) := by decide +kernel
theorem dX2_comparison_1 : decode cX2_comparison 1 = .ok (.iload_n 1, 1) := by decide +kernel
theorem dX2_comparison_2 : decode cX2_comparison 2 = .ok (.invokevirtual 90, 3) := by decide +kernel
theorem dX2_comparison_5 : decode cX2_comparison 5 = .ok (.istore_n 2, 1) := by decide +kernel
theorem dX2_comparison_6 : decode cX2_comparison 6 = .ok (.aload_n 0, 1) := by decide +kernel
theorem dX2_comparison_7 : decode cX2_comparison 7 = .ok (.invokevirtual 83, 3) := by decide +kernel
theorem dX2_comparison_10 : decode cX2_comparison 10 = .ok (.istore_n 3, 1) := by decide +kernel
theorem dX2_comparison_11 : decode cX2_comparison 11 = .ok (.iload_n 3, 1) := by decide +kernel
theorem dX2_comparison_12 : decode cX2_comparison 12 = .ok (.invokestatic 58, 3) := by decide +kernel
theorem dX2_comparison_15 : decode cX2_comparison 15 = .ok (.ifCond .ne 5, 3) := by decide +kernel
theorem dX2_comparison_18 : decode cX2_comparison 18 = .ok (.iload_n 2, 1) := by decide +kernel
theorem dX2_comparison_19 : decode cX2_comparison 19 = .ok (.ireturn, 1) := by decide +kernel
theorem dX2_comparison_20 : decode cX2_comparison 20 = .ok (.aload_n 0, 1) := by decide +kernel
theorem dX2_comparison_21 : decode cX2_comparison 21 = .ok (.dup, 1) := by decide +kernel
theorem dX2_comparison_22 : decode cX2_comparison 22 = .ok (.getfield 67, 3) := by decide +kernel
theorem dX2_comparison_25 : decode cX2_comparison 25 = .ok (.iconst 1, 1) := by decide +kernel
theorem dX2_comparison_26 : decode cX2_comparison 26 = .ok (.iadd, 1) := by decide +kernel
theorem dX2_comparison_27 : decode cX2_comparison 27 = .ok (.putfield 67, 3) := by decide +kernel
theorem dX2_comparison_30 : decode cX2_comparison 30 = .ok (.aload_n 0, 1) := by decide +kernel
theorem dX2_comparison_31 : decode cX2_comparison 31 = .ok (.iload_n 1, 1) := by decide +kernel
theorem dX2_comparison_32 : decode cX2_comparison 32 = .ok (.invokevirtual 90, 3) := by decide +kernel
theorem dX2_comparison_35 : decode cX2_comparison 35 = .ok (.istore 4, 2) := by decide +kernel
theorem dX2_comparison_37 : decode cX2_comparison 37 = .ok (.iload_n 3, 1) := by decide +kernel
theorem dX2_comparison_38 : decode cX2_comparison 38 = .ok (.bipush 60, 2) := by decide +kernel
theorem dX2_comparison_40 : decode cX2_comparison 40 = .ok (.if_icmp .ne 17, 3) := by decide +kernel
theorem dX2_comparison_43 : decode cX2_comparison 43 = .ok (.iload_n 2, 1) := by decide +kernel
theorem dX2_comparison_44 : decode cX2_comparison 44 = .ok (.iload 4, 2) := by decide +kernel
theorem dX2_comparison_46 : decode cX2_comparison 46 = .ok (.if_icmp .ge 7, 3) := by decide +kernel
theorem dX2_comparison_49 : decode cX2_comparison 49 = .ok (.iconst 1, 1) := by decide +kernel
theorem dX2_comparison_50 : decode cX2_comparison 50 = .ok (.goto 38, 3) := by decide +kernel
theorem dX2_comparison_53 : decode cX2_comparison 53 = .ok (.iconst 0, 1) := by decide +kernel
theorem dX2_comparison_54 : decode cX2_comparison 54 = .ok (.goto 34, 3) := by decide +kernel
theorem dX2_comparison_57 : decode cX2_comparison 57 = .ok (.iload_n 3, 1) := by decide +kernel
theorem dX2_comparison_58 : decode cX2_comparison 58 = .ok (.bipush 62, 2) := by decide +kernel
theorem dX2_comparison_60 : decode cX2_comparison 60 = .ok (.if_icmp .ne 17, 3) := by decide +kernel
theorem dX2_comparison_63 : decode cX2_comparison 63 = .ok (.iload_n 2, 1) := by decide +kernel
theorem dX2_comparison_64 : decode cX2_comparison 64 = .ok (.iload 4, 2) := by decide +kernel
theorem dX2_comparison_66 : decode cX2_comparison 66 = .ok (.if_icmp .le 7, 3) := by decide +kernel
theorem dX2_comparison_69 : decode cX2_comparison 69 = .ok (.iconst 1, 1) := by decide +kernel
theorem dX2_comparison_70 : decode cX2_comparison 70 = .ok (.goto 18, 3) := by decide +kernel
theorem dX2_comparison_73 : decode cX2_comparison 73 = .ok (.iconst 0, 1) := by decide +kernel
theorem dX2_comparison_74 : decode cX2_comparison 74 = .ok (.goto 14, 3) := by decide +kernel
theorem dX2_comparison_77 : decode cX2_comparison 77 = .ok (.iload_n 2, 1) := by decide +kernel
theorem dX2_comparison_78 : decode cX2_comparison 78 = .ok (.iload 4, 2) := by decide +kernel
theorem dX2_comparison_80 : decode cX2_comparison 80 = .ok (.if_icmp .ne 7, 3) := by decide +kernel
theorem dX2_comparison_83 : decode cX2_comparison 83 = .ok (.iconst 1, 1) := by decide +kernel
theorem dX2_comparison_84 : decode cX2_comparison 84 = .ok (.goto 4, 3) := by decide +kernel
theorem dX2_comparison_87 : decode cX2_comparison 87 = .ok (.iconst 0, 1) := by decide +kernel
theorem dX2_comparison_88 : decode cX2_comparison 88 = .ok (.istore 5, 2) := by decide +kernel
theorem dX2_comparison_90 : decode cX2_comparison 90 = .ok (.iload 5, 2) := by decide +kernel
theorem dX2_comparison_92 : decode cX2_comparison 92 = .ok (.ifCond .eq 7, 3) := by decide +kernel
theorem dX2_comparison_95 : decode cX2_comparison 95 = .ok (.iconst 1, 1) := by decide +kernel
theorem dX2_comparison_96 : decode cX2_comparison 96 = .ok (.goto 4, 3) := by decide +kernel
theorem dX2_comparison_99 : decode cX2_comparison 99 = .ok (.iconst 0, 1) := by decide +kernel
theorem dX2_comparison_100 : decode cX2_comparison 100 = .ok (.ireturn, 1) := by decide +kernel
theorem dX2_added_0 : decode cX2_added 0 = .ok (.aload_n 0, 1) := by decide +kernel
theorem dX2_added_1 : decode cX2_added 1 = .ok (.iload_n 1, 1) := by decide +kernel
theorem dX2_added_2 : decode cX2_added 2 = .ok (.invokevirtual 93, 3) := by decide +kernel
theorem dX2_added_5 : decode cX2_added 5 = .ok (.istore_n 2, 1) := by decide +kernel
theorem dX2_added_6 : decode cX2_added 6 = .ok (.aload_n 0, 1) := by decide +kernel
theorem dX2_added_7 : decode cX2_added 7 = .ok (.getfield 67, 3) := by decide +kernel
theorem dX2_added_10 : decode cX2_added 10 = .ok (.aload_n 0, 1) := by decide +kernel
theorem dX2_added_11 : decode cX2_added 11 = .ok (.getfield 70, 3) := by decide +kernel
theorem dX2_added_14 : decode cX2_added 14 = .ok (.if_icmp .ge 72, 3) := by decide +kernel
theorem dX2_added_17 : decode cX2_added 17 = .ok (.aload_n 0, 1) := by decide +kernel
theorem dX2_added_18 : decode cX2_added 18 = .ok (.invokevirtual 83, 3) := by decide +kernel
theorem dX2_added_21 : decode cX2_added 21 = .ok (.bipush 43, 2) := by decide +kernel
theorem dX2_added_23 : decode cX2_added 23 = .ok (.if_icmp .eq 12, 3) := by decide +kernel
theorem dX2_added_26 : decode cX2_added 26 = .ok (.aload_n 0, 1) := by decide +kernel
theorem dX2_added_27 : decode cX2_added 27 = .ok (.invokevirtual 83, 3) := by decide +kernel
theorem dX2_added_30 : decode cX2_added 30 = .ok (.bipush 45, 2) := by decide +kernel
theorem dX2_added_32 : decode cX2_added 32 = .ok (.if_icmp .ne 54, 3) := by decide +kernel
theorem dX2_added_35 : decode cX2_added 35 = .ok (.aload_n 0, 1) := by decide +kernel
theorem dX2_added_36 : decode cX2_added 36 = .ok (.invokevirtual 83, 3) := by decide +kernel
theorem dX2_added_39 : decode cX2_added 39 = .ok (.bipush 43, 2) := by decide +kernel
theorem dX2_added_41 : decode cX2_added 41 = .ok (.if_icmp .ne 7, 3) := by decide +kernel
theorem dX2_added_44 : decode cX2_added 44 = .ok (.iconst 1, 1) := by decide +kernel
theorem dX2_added_45 : decode cX2_added 45 = .ok (.goto 4, 3) := by decide +kernel
theorem dX2_added_48 : decode cX2_added 48 = .ok (.iconst 0, 1) := by decide +kernel
theorem dX2_added_49 : decode cX2_added 49 = .ok (.istore_n 3, 1) := by decide +kernel
theorem dX2_added_50 : decode cX2_added 50 = .ok (.aload_n 0, 1) := by decide +kernel
theorem dX2_added_51 : decode cX2_added 51 = .ok (.dup, 1) := by decide +kernel
theorem dX2_added_52 : decode cX2_added 52 = .ok (.getfield 67, 3) := by decide +kernel
theorem dX2_added_55 : decode cX2_added 55 = .ok (.iconst 1, 1) := by decide +kernel
theorem dX2_added_56 : decode cX2_added 56 = .ok (.iadd, 1) := by decide +kernel
theorem dX2_added_57 : decode cX2_added 57 = .ok (.putfield 67, 3) := by decide +kernel
theorem dX2_added_60 : decode cX2_added 60 = .ok (.aload_n 0, 1) := by decide +kernel
theorem dX2_added_61 : decode cX2_added 61 = .ok (.iload_n 1, 1) := by decide +kernel
theorem dX2_added_62 : decode cX2_added 62 = .ok (.invokevirtual 93, 3) := by decide +kernel
theorem dX2_added_65 : decode cX2_added 65 = .ok (.istore 4, 2) := by decide +kernel
theorem dX2_added_67 : decode cX2_added 67 = .ok (.iload_n 3, 1) := by decide +kernel
theorem dX2_added_68 : decode cX2_added 68 = .ok (.ifCond .eq 10, 3) := by decide +kernel
theorem dX2_added_71 : decode cX2_added 71 = .ok (.iload_n 2, 1) := by decide +kernel
theorem dX2_added_72 : decode cX2_added 72 = .ok (.iload 4, 2) := by decide +kernel
theorem dX2_added_74 : decode cX2_added 74 = .ok (.iadd, 1) := by decide +kernel
theorem dX2_added_75 : decode cX2_added 75 = .ok (.goto 7, 3) := by decide +kernel
theorem dX2_added_78 : decode cX2_added 78 = .ok (.iload_n 2, 1) := by decide +kernel
theorem dX2_added_79 : decode cX2_added 79 = .ok (.iload 4, 2) := by decide +kernel
theorem dX2_added_81 : decode cX2_added 81 = .ok (.isub, 1) := by decide +kernel
theorem dX2_added_82 : decode cX2_added 82 = .ok (.istore_n 2, 1) := by decide +kernel
theorem dX2_added_83 : decode cX2_added 83 = .ok (.goto (-77), 3) := by decide +kernel
theorem dX2_added_86 : decode cX2_added 86 = .ok (.iload_n 2, 1) := by decide +kernel
theorem dX2_added_87 : decode cX2_added 87 = .ok (.ireturn, 1) := by decide +kernel
theorem dX2_multiplied_0 : decode cX2_multiplied 0 = .ok (.aload_n 0, 1) := by decide +kernel
theorem dX2_multiplied_1 : decode cX2_multiplied 1 = .ok (.iload_n 1, 1) := by decide +kernel
theorem dX2_multiplied_2 : decode cX2_multiplied 2 = .ok (.invokevirtual 96, 3) := by decide +kernel
theorem dX2_multiplied_5 : decode cX2_multiplied 5 = .ok (.istore_n 2, 1) := by decide +kernel
theorem dX2_multiplied_6 : decode cX2_multiplied 6 = .ok (.aload_n 0, 1) := by decide +kernel
theorem dX2_multiplied_7 : decode cX2_multiplied 7 = .ok (.getfield 67, 3) := by decide +kernel
theorem dX2_multiplied_10 : decode cX2_multiplied 10 = .ok (.aload_n 0, 1) := by decide +kernel
theorem dX2_multiplied_11 : decode cX2_multiplied 11 = .ok (.getfield 70, 3) := by decide +kernel
theorem dX2_multiplied_14 : decode cX2_multiplied 14 = .ok (.if_icmp .ge 81, 3) := by decide +kernel
theorem dX2_multiplied_17 : decode cX2_multiplied 17 = .ok (.aload_n 0, 1) := by decide +kernel
theorem dX2_multiplied_18 : decode cX2_multiplied 18 = .ok (.invokevirtual 83, 3) := by decide +kernel
theorem dX2_multiplied_21 : decode cX2_multiplied 21 = .ok (.bipush 42, 2) := by decide +kernel
theorem dX2_multiplied_23 : decode cX2_multiplied 23 = .ok (.if_icmp .eq 12, 3) := by decide +kernel
theorem dX2_multiplied_26 : decode cX2_multiplied 26 = .ok (.aload_n 0, 1) := by decide +kernel
theorem dX2_multiplied_27 : decode cX2_multiplied 27 = .ok (.invokevirtual 83, 3) := by decide +kernel
theorem dX2_multiplied_30 : decode cX2_multiplied 30 = .ok (.bipush 47, 2) := by decide +kernel
theorem dX2_multiplied_32 : decode cX2_multiplied 32 = .ok (.if_icmp .ne 63, 3) := by decide +kernel
theorem dX2_multiplied_35 : decode cX2_multiplied 35 = .ok (.aload_n 0, 1) := by decide +kernel
theorem dX2_multiplied_36 : decode cX2_multiplied 36 = .ok (.invokevirtual 83, 3) := by decide +kernel
theorem dX2_multiplied_39 : decode cX2_multiplied 39 = .ok (.bipush 42, 2) := by decide +kernel
theorem dX2_multiplied_41 : decode cX2_multiplied 41 = .ok (.if_icmp .ne 7, 3) := by decide +kernel
theorem dX2_multiplied_44 : decode cX2_multiplied 44 = .ok (.iconst 1, 1) := by decide +kernel
theorem dX2_multiplied_45 : decode cX2_multiplied 45 = .ok (.goto 4, 3) := by decide +kernel
theorem dX2_multiplied_48 : decode cX2_multiplied 48 = .ok (.iconst 0, 1) := by decide +kernel
theorem dX2_multiplied_49 : decode cX2_multiplied 49 = .ok (.istore_n 3, 1) := by decide +kernel
theorem dX2_multiplied_50 : decode cX2_multiplied 50 = .ok (.aload_n 0, 1) := by decide +kernel
theorem dX2_multiplied_51 : decode cX2_multiplied 51 = .ok (.dup, 1) := by decide +kernel
theorem dX2_multiplied_52 : decode cX2_multiplied 52 = .ok (.getfield 67, 3) := by decide +kernel
theorem dX2_multiplied_55 : decode cX2_multiplied 55 = .ok (.iconst 1, 1) := by decide +kernel
theorem dX2_multiplied_56 : decode cX2_multiplied 56 = .ok (.iadd, 1) := by decide +kernel
theorem dX2_multiplied_57 : decode cX2_multiplied 57 = .ok (.putfield 67, 3) := by decide +kernel
theorem dX2_multiplied_60 : decode cX2_multiplied 60 = .ok (.aload_n 0, 1) := by decide +kernel
theorem dX2_multiplied_61 : decode cX2_multiplied 61 = .ok (.iload_n 1, 1) := by decide +kernel
theorem dX2_multiplied_62 : decode cX2_multiplied 62 = .ok (.invokevirtual 96, 3) := by decide +kernel
theorem dX2_multiplied_65 : decode cX2_multiplied 65 = .ok (.istore 4, 2) := by decide +kernel
theorem dX2_multiplied_67 : decode cX2_multiplied 67 = .ok (.iload_n 3, 1) := by decide +kernel
theorem dX2_multiplied_68 : decode cX2_multiplied 68 = .ok (.ifCond .eq 10, 3) := by decide +kernel
theorem dX2_multiplied_71 : decode cX2_multiplied 71 = .ok (.iload_n 2, 1) := by decide +kernel
theorem dX2_multiplied_72 : decode cX2_multiplied 72 = .ok (.iload 4, 2) := by decide +kernel
theorem dX2_multiplied_74 : decode cX2_multiplied 74 = .ok (.imul, 1) := by decide +kernel
theorem dX2_multiplied_75 : decode cX2_multiplied 75 = .ok (.goto 16, 3) := by decide +kernel
theorem dX2_multiplied_78 : decode cX2_multiplied 78 = .ok (.iload 4, 2) := by decide +kernel
theorem dX2_multiplied_80 : decode cX2_multiplied 80 = .ok (.ifCond .ne 7, 3) := by decide +kernel
theorem dX2_multiplied_83 : decode cX2_multiplied 83 = .ok (.iconst 0, 1) := by decide +kernel
theorem dX2_multiplied_84 : decode cX2_multiplied 84 = .ok (.goto 7, 3) := by decide +kernel
theorem dX2_multiplied_87 : decode cX2_multiplied 87 = .ok (.iload_n 2, 1) := by decide +kernel
theorem dX2_multiplied_88 : decode cX2_multiplied 88 = .ok (.iload 4, 2) := by decide +kernel
theorem dX2_multiplied_90 : decode cX2_multiplied 90 = .ok (.idiv, 1) := by decide +kernel
theorem dX2_multiplied_91 : decode cX2_multiplied 91 = .ok (.istore_n 2, 1) := by decide +kernel
theorem dX2_multiplied_92 : decode cX2_multiplied 92 = .ok (.goto (-86), 3) := by decide +kernel
theorem dX2_multiplied_95 : decode cX2_multiplied 95 = .ok (.iload_n 2, 1) := by decide +kernel
theorem dX2_multiplied_96 : decode cX2_multiplied 96 = .ok (.ireturn, 1) := by decide +kernel
theorem dX2_thing_0 : decode cX2_thing 0 = .ok (.aload_n 0, 1) := by decide +kernel
theorem dX2_thing_1 : decode cX2_thing 1 = .ok (.getfield 67, 3) := by decide +kernel
theorem dX2_thing_4 : decode cX2_thing 4 = .ok (.istore_n 2, 1) := by decide +kernel
theorem dX2_thing_5 : decode cX2_thing 5 = .ok (.aload_n 0, 1) := by decide +kernel
theorem dX2_thing_6 : decode cX2_thing 6 = .ok (.getfield 67, 3) := by decide +kernel
theorem dX2_thing_9 : decode cX2_thing 9 = .ok (.aload_n 0, 1) := by decide +kernel
theorem dX2_thing_10 : decode cX2_thing 10 = .ok (.getfield 70, 3) := by decide +kernel
theorem dX2_thing_13 : decode cX2_thing 13 = .ok (.if_icmp .ge 34, 3) := by decide +kernel
theorem dX2_thing_16 : decode cX2_thing 16 = .ok (.aload_n 0, 1) := by decide +kernel
theorem dX2_thing_17 : decode cX2_thing 17 = .ok (.invokevirtual 83, 3) := by decide +kernel
theorem dX2_thing_20 : decode cX2_thing 20 = .ok (.bipush 33, 2) := by decide +kernel
theorem dX2_thing_22 : decode cX2_thing 22 = .ok (.if_icmp .eq 12, 3) := by decide +kernel
theorem dX2_thing_25 : decode cX2_thing 25 = .ok (.aload_n 0, 1) := by decide +kernel
theorem dX2_thing_26 : decode cX2_thing 26 = .ok (.invokevirtual 83, 3) := by decide +kernel
theorem dX2_thing_29 : decode cX2_thing 29 = .ok (.bipush 45, 2) := by decide +kernel
theorem dX2_thing_31 : decode cX2_thing 31 = .ok (.if_icmp .ne 16, 3) := by decide +kernel
theorem dX2_thing_34 : decode cX2_thing 34 = .ok (.aload_n 0, 1) := by decide +kernel
theorem dX2_thing_35 : decode cX2_thing 35 = .ok (.dup, 1) := by decide +kernel
theorem dX2_thing_36 : decode cX2_thing 36 = .ok (.getfield 67, 3) := by decide +kernel
theorem dX2_thing_39 : decode cX2_thing 39 = .ok (.iconst 1, 1) := by decide +kernel
theorem dX2_thing_40 : decode cX2_thing 40 = .ok (.iadd, 1) := by decide +kernel
theorem dX2_thing_41 : decode cX2_thing 41 = .ok (.putfield 67, 3) := by decide +kernel
theorem dX2_thing_44 : decode cX2_thing 44 = .ok (.goto (-39), 3) := by decide +kernel
theorem dX2_thing_47 : decode cX2_thing 47 = .ok (.aload_n 0, 1) := by decide +kernel
theorem dX2_thing_48 : decode cX2_thing 48 = .ok (.getfield 67, 3) := by decide +kernel
theorem dX2_thing_51 : decode cX2_thing 51 = .ok (.istore_n 3, 1) := by decide +kernel
theorem dX2_thing_52 : decode cX2_thing 52 = .ok (.aload_n 0, 1) := by decide +kernel
theorem dX2_thing_53 : decode cX2_thing 53 = .ok (.iload_n 1, 1) := by decide +kernel
theorem dX2_thing_54 : decode cX2_thing 54 = .ok (.invokevirtual 99, 3) := by decide +kernel
theorem dX2_thing_57 : decode cX2_thing 57 = .ok (.istore 4, 2) := by decide +kernel
theorem dX2_thing_59 : decode cX2_thing 59 = .ok (.iload_n 3, 1) := by decide +kernel
theorem dX2_thing_60 : decode cX2_thing 60 = .ok (.iconst 1, 1) := by decide +kernel
theorem dX2_thing_61 : decode cX2_thing 61 = .ok (.isub, 1) := by decide +kernel
theorem dX2_thing_62 : decode cX2_thing 62 = .ok (.istore 5, 2) := by decide +kernel
theorem dX2_thing_64 : decode cX2_thing 64 = .ok (.iload 5, 2) := by decide +kernel
theorem dX2_thing_66 : decode cX2_thing 66 = .ok (.iload_n 2, 1) := by decide +kernel
theorem dX2_thing_67 : decode cX2_thing 67 = .ok (.if_icmp .lt 42, 3) := by decide +kernel
theorem dX2_thing_70 : decode cX2_thing 70 = .ok (.aload_n 0, 1) := by decide +kernel
theorem dX2_thing_71 : decode cX2_thing 71 = .ok (.aload_n 0, 1) := by decide +kernel
theorem dX2_thing_72 : decode cX2_thing 72 = .ok (.getfield 21, 3) := by decide +kernel
theorem dX2_thing_75 : decode cX2_thing 75 = .ok (.iload 5, 2) := by decide +kernel
theorem dX2_thing_77 : decode cX2_thing 77 = .ok (.invokevirtual 76, 3) := by decide +kernel
theorem dX2_thing_80 : decode cX2_thing 80 = .ok (.bipush 45, 2) := by decide +kernel
theorem dX2_thing_82 : decode cX2_thing 82 = .ok (.if_icmp .ne 9, 3) := by decide +kernel
theorem dX2_thing_85 : decode cX2_thing 85 = .ok (.iload 4, 2) := by decide +kernel
theorem dX2_thing_87 : decode cX2_thing 87 = .ok (.ineg, 1) := by decide +kernel
theorem dX2_thing_88 : decode cX2_thing 88 = .ok (.goto 13, 3) := by decide +kernel
theorem dX2_thing_91 : decode cX2_thing 91 = .ok (.iload 4, 2) := by decide +kernel
theorem dX2_thing_93 : decode cX2_thing 93 = .ok (.ifCond .ne 7, 3) := by decide +kernel
theorem dX2_thing_96 : decode cX2_thing 96 = .ok (.iconst 1, 1) := by decide +kernel
theorem dX2_thing_97 : decode cX2_thing 97 = .ok (.goto 4, 3) := by decide +kernel
theorem dX2_thing_100 : decode cX2_thing 100 = .ok (.iconst 0, 1) := by decide +kernel
theorem dX2_thing_101 : decode cX2_thing 101 = .ok (.istore 4, 2) := by decide +kernel
theorem dX2_thing_103 : decode cX2_thing 103 = .ok (.iinc 5 (-1), 3) := by decide +kernel
theorem dX2_thing_106 : decode cX2_thing 106 = .ok (.goto (-42), 3) := by decide +kernel
theorem dX2_thing_109 : decode cX2_thing 109 = .ok (.iload 4, 2) := by decide +kernel
theorem dX2_thing_111 : decode cX2_thing 111 = .ok (.ireturn, 1) := by decide +kernel
theorem dX2_bareThing_0 : decode cX2_bareThing 0 = .ok (.aload_n 0, 1) := by decide +kernel
theorem dX2_bareThing_1 : decode cX2_bareThing 1 = .ok (.invokevirtual 83, 3) := by decide +kernel
theorem dX2_bareThing_4 : decode cX2_bareThing 4 = .ok (.istore_n 2, 1) := by decide +kernel
theorem dX2_bareThing_5 : decode cX2_bareThing 5 = .ok (.iload_n 2, 1) := by decide +kernel
theorem dX2_bareThing_6 : decode cX2_bareThing 6 = .ok (.invokestatic 52, 3) := by decide +kernel
theorem dX2_bareThing_9 : decode cX2_bareThing 9 = .ok (.ifCond .eq 54, 3) := by decide +kernel
theorem dX2_bareThing_12 : decode cX2_bareThing 12 = .ok (.iconst 0, 1) := by decide +kernel
theorem dX2_bareThing_13 : decode cX2_bareThing 13 = .ok (.istore_n 3, 1) := by decide +kernel
theorem dX2_bareThing_14 : decode cX2_bareThing 14 = .ok (.aload_n 0, 1) := by decide +kernel
theorem dX2_bareThing_15 : decode cX2_bareThing 15 = .ok (.getfield 67, 3) := by decide +kernel
theorem dX2_bareThing_18 : decode cX2_bareThing 18 = .ok (.aload_n 0, 1) := by decide +kernel
theorem dX2_bareThing_19 : decode cX2_bareThing 19 = .ok (.getfield 70, 3) := by decide +kernel
theorem dX2_bareThing_22 : decode cX2_bareThing 22 = .ok (.if_icmp .ge 39, 3) := by decide +kernel
theorem dX2_bareThing_25 : decode cX2_bareThing 25 = .ok (.aload_n 0, 1) := by decide +kernel
theorem dX2_bareThing_26 : decode cX2_bareThing 26 = .ok (.invokevirtual 83, 3) := by decide +kernel
theorem dX2_bareThing_29 : decode cX2_bareThing 29 = .ok (.invokestatic 52, 3) := by decide +kernel
theorem dX2_bareThing_32 : decode cX2_bareThing 32 = .ok (.ifCond .eq 29, 3) := by decide +kernel
theorem dX2_bareThing_35 : decode cX2_bareThing 35 = .ok (.iload_n 3, 1) := by decide +kernel
theorem dX2_bareThing_36 : decode cX2_bareThing 36 = .ok (.bipush 10, 2) := by decide +kernel
theorem dX2_bareThing_38 : decode cX2_bareThing 38 = .ok (.imul, 1) := by decide +kernel
theorem dX2_bareThing_39 : decode cX2_bareThing 39 = .ok (.aload_n 0, 1) := by decide +kernel
theorem dX2_bareThing_40 : decode cX2_bareThing 40 = .ok (.invokevirtual 83, 3) := by decide +kernel
theorem dX2_bareThing_43 : decode cX2_bareThing 43 = .ok (.iadd, 1) := by decide +kernel
theorem dX2_bareThing_44 : decode cX2_bareThing 44 = .ok (.bipush 48, 2) := by decide +kernel
theorem dX2_bareThing_46 : decode cX2_bareThing 46 = .ok (.isub, 1) := by decide +kernel
theorem dX2_bareThing_47 : decode cX2_bareThing 47 = .ok (.istore_n 3, 1) := by decide +kernel
theorem dX2_bareThing_48 : decode cX2_bareThing 48 = .ok (.aload_n 0, 1) := by decide +kernel
theorem dX2_bareThing_49 : decode cX2_bareThing 49 = .ok (.dup, 1) := by decide +kernel
theorem dX2_bareThing_50 : decode cX2_bareThing 50 = .ok (.getfield 67, 3) := by decide +kernel
theorem dX2_bareThing_53 : decode cX2_bareThing 53 = .ok (.iconst 1, 1) := by decide +kernel
theorem dX2_bareThing_54 : decode cX2_bareThing 54 = .ok (.iadd, 1) := by decide +kernel
theorem dX2_bareThing_55 : decode cX2_bareThing 55 = .ok (.putfield 67, 3) := by decide +kernel
theorem dX2_bareThing_58 : decode cX2_bareThing 58 = .ok (.goto (-44), 3) := by decide +kernel
theorem dX2_bareThing_61 : decode cX2_bareThing 61 = .ok (.iload_n 3, 1) := by decide +kernel
theorem dX2_bareThing_62 : decode cX2_bareThing 62 = .ok (.ireturn, 1) := by decide +kernel
theorem dX2_bareThing_63 : decode cX2_bareThing 63 = .ok (.aload_n 0, 1) := by decide +kernel
theorem dX2_bareThing_64 : decode cX2_bareThing 64 = .ok (.dup, 1) := by decide +kernel
theorem dX2_bareThing_65 : decode cX2_bareThing 65 = .ok (.getfield 67, 3) := by decide +kernel
theorem dX2_bareThing_68 : decode cX2_bareThing 68 = .ok (.iconst 1, 1) := by decide +kernel
theorem dX2_bareThing_69 : decode cX2_bareThing 69 = .ok (.iadd, 1) := by decide +kernel
theorem dX2_bareThing_70 : decode cX2_bareThing 70 = .ok (.putfield 67, 3) := by decide +kernel
theorem dX2_bareThing_73 : decode cX2_bareThing 73 = .ok (.iload_n 2, 1) := by decide +kernel
theorem dX2_bareThing_74 : decode cX2_bareThing 74 = .ok (.bipush 40, 2) := by decide +kernel
theorem dX2_bareThing_76 : decode cX2_bareThing 76 = .ok (.if_icmp .ne 28, 3) := by decide +kernel
theorem dX2_bareThing_79 : decode cX2_bareThing 79 = .ok (.iload_n 1, 1) := by decide +kernel
theorem dX2_bareThing_80 : decode cX2_bareThing 80 = .ok (.iconst 5, 1) := by decide +kernel
theorem dX2_bareThing_81 : decode cX2_bareThing 81 = .ok (.if_icmp .ge 23, 3) := by decide +kernel
theorem dX2_bareThing_84 : decode cX2_bareThing 84 = .ok (.aload_n 0, 1) := by decide +kernel
theorem dX2_bareThing_85 : decode cX2_bareThing 85 = .ok (.iload_n 1, 1) := by decide +kernel
theorem dX2_bareThing_86 : decode cX2_bareThing 86 = .ok (.iconst 1, 1) := by decide +kernel
theorem dX2_bareThing_87 : decode cX2_bareThing 87 = .ok (.iadd, 1) := by decide +kernel
theorem dX2_bareThing_88 : decode cX2_bareThing 88 = .ok (.invokevirtual 73, 3) := by decide +kernel
theorem dX2_bareThing_91 : decode cX2_bareThing 91 = .ok (.istore_n 3, 1) := by decide +kernel
theorem dX2_bareThing_92 : decode cX2_bareThing 92 = .ok (.aload_n 0, 1) := by decide +kernel
theorem dX2_bareThing_93 : decode cX2_bareThing 93 = .ok (.dup, 1) := by decide +kernel
theorem dX2_bareThing_94 : decode cX2_bareThing 94 = .ok (.getfield 67, 3) := by decide +kernel
theorem dX2_bareThing_97 : decode cX2_bareThing 97 = .ok (.iconst 1, 1) := by decide +kernel
theorem dX2_bareThing_98 : decode cX2_bareThing 98 = .ok (.iadd, 1) := by decide +kernel
theorem dX2_bareThing_99 : decode cX2_bareThing 99 = .ok (.putfield 67, 3) := by decide +kernel
theorem dX2_bareThing_102 : decode cX2_bareThing 102 = .ok (.iload_n 3, 1) := by decide +kernel
theorem dX2_bareThing_103 : decode cX2_bareThing 103 = .ok (.ireturn, 1) := by decide +kernel
theorem dX2_bareThing_104 : decode cX2_bareThing 104 = .ok (.iload_n 2, 1) := by decide +kernel
theorem dX2_bareThing_105 : decode cX2_bareThing 105 = .ok (.bipush 97, 2) := by decide +kernel
theorem dX2_bareThing_107 : decode cX2_bareThing 107 = .ok (.isub, 1) := by decide +kernel
theorem dX2_bareThing_108 : decode cX2_bareThing 108 = .ok (.istore_n 3, 1) := by decide +kernel
theorem dX2_bareThing_109 : decode cX2_bareThing 109 = .ok (.iload_n 2, 1) := by decide +kernel
theorem dX2_bareThing_110 : decode cX2_bareThing 110 = .ok (.bipush 122, 2) := by decide +kernel
theorem dX2_bareThing_112 : decode cX2_bareThing 112 = .ok (.if_icmp .ne 15, 3) := by decide +kernel
theorem dX2_bareThing_115 : decode cX2_bareThing 115 = .ok (.aload_n 0, 1) := by decide +kernel
theorem dX2_bareThing_116 : decode cX2_bareThing 116 = .ok (.getfield 13, 3) := by decide +kernel
theorem dX2_bareThing_119 : decode cX2_bareThing 119 = .ok (.bipush 10, 2) := by decide +kernel
theorem dX2_bareThing_121 : decode cX2_bareThing 121 = .ok (.invokevirtual 102, 3) := by decide +kernel
theorem dX2_bareThing_124 : decode cX2_bareThing 124 = .ok (.goto 26, 3) := by decide +kernel
theorem dX2_bareThing_127 : decode cX2_bareThing 127 = .ok (.iload_n 3, 1) := by decide +kernel
theorem dX2_bareThing_128 : decode cX2_bareThing 128 = .ok (.ifCond .lt 21, 3) := by decide +kernel
theorem dX2_bareThing_131 : decode cX2_bareThing 131 = .ok (.iload_n 3, 1) := by decide +kernel
theorem dX2_bareThing_132 : decode cX2_bareThing 132 = .ok (.aload_n 0, 1) := by decide +kernel
theorem dX2_bareThing_133 : decode cX2_bareThing 133 = .ok (.getfield 7, 3) := by decide +kernel
theorem dX2_bareThing_136 : decode cX2_bareThing 136 = .ok (.arraylength, 1) := by decide +kernel
theorem dX2_bareThing_137 : decode cX2_bareThing 137 = .ok (.if_icmp .ge 12, 3) := by decide +kernel
theorem dX2_bareThing_140 : decode cX2_bareThing 140 = .ok (.aload_n 0, 1) := by decide +kernel
theorem dX2_bareThing_141 : decode cX2_bareThing 141 = .ok (.getfield 7, 3) := by decide +kernel
theorem dX2_bareThing_144 : decode cX2_bareThing 144 = .ok (.iload_n 3, 1) := by decide +kernel
theorem dX2_bareThing_145 : decode cX2_bareThing 145 = .ok (.iaload, 1) := by decide +kernel
theorem dX2_bareThing_146 : decode cX2_bareThing 146 = .ok (.goto 4, 3) := by decide +kernel
theorem dX2_bareThing_149 : decode cX2_bareThing 149 = .ok (.iconst 0, 1) := by decide +kernel
theorem dX2_bareThing_150 : decode cX2_bareThing 150 = .ok (.ireturn, 1) := by decide +kernel
theorem dX3_init_0 : decode cX3_init 0 = .ok (.aload_n 0, 1) := by decide +kernel
theorem dX3_init_1 : decode cX3_init 1 = .ok (.invokespecial 3, 3) := by decide +kernel
theorem dX3_init_4 : decode cX3_init 4 = .ok (.aload_n 0, 1) := by decide +kernel
theorem dX3_init_5 : decode cX3_init 5 = .ok (.bipush 12, 2) := by decide +kernel
theorem dX3_init_7 : decode cX3_init 7 = .ok (.newarray .int, 2) := by decide +kernel
theorem dX3_init_9 : decode cX3_init 9 = .ok (.putfield 11, 3) := by decide +kernel
theorem dX3_init_12 : decode cX3_init 12 = .ok (.aload_n 0, 1) := by decide +kernel
theorem dX3_init_13 : decode cX3_init 13 = .ok (.bipush 12, 2) := by decide +kernel
theorem dX3_init_15 : decode cX3_init 15 = .ok (.newarray .int, 2) := by decide +kernel
theorem dX3_init_17 : decode cX3_init 17 = .ok (.putfield 15, 3) := by decide +kernel
theorem dX3_init_20 : decode cX3_init 20 = .ok (.aload_n 0, 1) := by decide +kernel
theorem dX3_init_21 : decode cX3_init 21 = .ok (.bipush 12, 2) := by decide +kernel
theorem dX3_init_23 : decode cX3_init 23 = .ok (.newarray .int, 2) := by decide +kernel
theorem dX3_init_25 : decode cX3_init 25 = .ok (.putfield 18, 3) := by decide +kernel
theorem dX3_init_28 : decode cX3_init 28 = .ok (.aload_n 0, 1) := by decide +kernel
theorem dX3_init_29 : decode cX3_init 29 = .ok (.bipush 12, 2) := by decide +kernel
theorem dX3_init_31 : decode cX3_init 31 = .ok (.newarray .int, 2) := by decide +kernel
theorem dX3_init_33 : decode cX3_init 33 = .ok (.putfield 21, 3) := by decide +kernel
theorem dX3_init_36 : decode cX3_init 36 = .ok (.aload_n 0, 1) := by decide +kernel
theorem dX3_init_37 : decode cX3_init 37 = .ok (.aload_n 1, 1) := by decide +kernel
theorem dX3_init_38 : decode cX3_init 38 = .ok (.putfield 24, 3) := by decide +kernel
theorem dX3_init_41 : decode cX3_init 41 = .ok (.aload_n 0, 1) := by decide +kernel
theorem dX3_init_42 : decode cX3_init 42 = .ok (.aload_n 2, 1) := by decide +kernel
theorem dX3_init_43 : decode cX3_init 43 = .ok (.putfield 28, 3) := by decide +kernel
theorem dX3_init_46 : decode cX3_init 46 = .ok (.return_, 1) := by decide +kernel
theorem dX3_size_0 : decode cX3_size 0 = .ok (.aload_n 0, 1) := by decide +kernel
theorem dX3_size_1 : decode cX3_size 1 = .ok (.getfield 32, 3) := by decide +kernel
theorem dX3_size_4 : decode cX3_size 4 = .ok (.ireturn, 1) := by decide +kernel
theorem dX3_addPaper_0 : decode cX3_addPaper 0 = .ok (.iload_n 2, 1) := by decide +kernel
theorem dX3_addPaper_1 : decode cX3_addPaper 1 = .ok (.sipush 1900, 3) := by decide +kernel
theorem dX3_addPaper_4 : decode cX3_addPaper 4 = .ok (.if_icmp .lt 19, 3) := by decide +kernel
theorem dX3_addPaper_7 : decode cX3_addPaper 7 = .ok (.iload_n 2, 1) := by decide +kernel
theorem dX3_addPaper_8 : decode cX3_addPaper 8 = .ok (.iload_n 3, 1) := by decide +kernel
theorem dX3_addPaper_9 : decode cX3_addPaper 9 = .ok (.if_icmp .gt 14, 3) := by decide +kernel
theorem dX3_addPaper_12 : decode cX3_addPaper 12 = .ok (.iload_n 3, 1) := by decide +kernel
theorem dX3_addPaper_13 : decode cX3_addPaper 13 = .ok (.sipush 2100, 3) := by decide +kernel
theorem dX3_addPaper_16 : decode cX3_addPaper 16 = .ok (.if_icmp .gt 7, 3) := by decide +kernel
theorem dX3_addPaper_19 : decode cX3_addPaper 19 = .ok (.iconst 1, 1) := by decide +kernel
theorem dX3_addPaper_20 : decode cX3_addPaper 20 = .ok (.goto 4, 3) := by decide +kernel
theorem dX3_addPaper_23 : decode cX3_addPaper 23 = .ok (.iconst 0, 1) := by decide +kernel
theorem dX3_addPaper_24 : decode cX3_addPaper 24 = .ok (.istore 4, 2) := by decide +kernel
theorem dX3_addPaper_26 : decode cX3_addPaper 26 = .ok (.iload_n 1, 1) := by decide +kernel
theorem dX3_addPaper_27 : decode cX3_addPaper 27 = .ok (.invokestatic 36, 3) := by decide +kernel
theorem dX3_addPaper_30 : decode cX3_addPaper 30 = .ok (.ifCond .eq 17, 3) := by decide +kernel
theorem dX3_addPaper_33 : decode cX3_addPaper 33 = .ok (.iload 4, 2) := by decide +kernel
theorem dX3_addPaper_35 : decode cX3_addPaper 35 = .ok (.ifCond .eq 12, 3) := by decide +kernel
theorem dX3_addPaper_38 : decode cX3_addPaper 38 = .ok (.aload_n 0, 1) := by decide +kernel
theorem dX3_addPaper_39 : decode cX3_addPaper 39 = .ok (.getfield 32, 3) := by decide +kernel
theorem dX3_addPaper_42 : decode cX3_addPaper 42 = .ok (.bipush 12, 2) := by decide +kernel
theorem dX3_addPaper_44 : decode cX3_addPaper 44 = .ok (.if_icmp .lt 5, 3) := by decide +kernel
theorem dX3_addPaper_47 : decode cX3_addPaper 47 = .ok (.iconst (-1), 1) := by decide +kernel
theorem dX3_addPaper_48 : decode cX3_addPaper 48 = .ok (.ireturn, 1) := by decide +kernel
theorem dX3_addPaper_49 : decode cX3_addPaper 49 = .ok (.aload_n 0, 1) := by decide +kernel
theorem dX3_addPaper_50 : decode cX3_addPaper 50 = .ok (.getfield 11, 3) := by decide +kernel
theorem dX3_addPaper_53 : decode cX3_addPaper 53 = .ok (.aload_n 0, 1) := by decide +kernel
theorem dX3_addPaper_54 : decode cX3_addPaper 54 = .ok (.getfield 32, 3) := by decide +kernel
theorem dX3_addPaper_57 : decode cX3_addPaper 57 = .ok (.iload_n 1, 1) := by decide +kernel
theorem dX3_addPaper_58 : decode cX3_addPaper 58 = .ok (.iastore, 1) := by decide +kernel
theorem dX3_addPaper_59 : decode cX3_addPaper 59 = .ok (.aload_n 0, 1) := by decide +kernel
theorem dX3_addPaper_60 : decode cX3_addPaper 60 = .ok (.getfield 15, 3) := by decide +kernel
theorem dX3_addPaper_63 : decode cX3_addPaper 63 = .ok (.aload_n 0, 1) := by decide +kernel
theorem dX3_addPaper_64 : decode cX3_addPaper 64 = .ok (.getfield 32, 3) := by decide +kernel
theorem dX3_addPaper_67 : decode cX3_addPaper 67 = .ok (.iload_n 2, 1) := by decide +kernel
theorem dX3_addPaper_68 : decode cX3_addPaper 68 = .ok (.iastore, 1) := by decide +kernel
theorem dX3_addPaper_69 : decode cX3_addPaper 69 = .ok (.aload_n 0, 1) := by decide +kernel
theorem dX3_addPaper_70 : decode cX3_addPaper 70 = .ok (.getfield 18, 3) := by decide +kernel
theorem dX3_addPaper_73 : decode cX3_addPaper 73 = .ok (.aload_n 0, 1) := by decide +kernel
theorem dX3_addPaper_74 : decode cX3_addPaper 74 = .ok (.getfield 32, 3) := by decide +kernel
theorem dX3_addPaper_77 : decode cX3_addPaper 77 = .ok (.iload_n 3, 1) := by decide +kernel
theorem dX3_addPaper_78 : decode cX3_addPaper 78 = .ok (.iastore, 1) := by decide +kernel
theorem dX3_addPaper_79 : decode cX3_addPaper 79 = .ok (.aload_n 0, 1) := by decide +kernel
theorem dX3_addPaper_80 : decode cX3_addPaper 80 = .ok (.getfield 21, 3) := by decide +kernel
theorem dX3_addPaper_83 : decode cX3_addPaper 83 = .ok (.aload_n 0, 1) := by decide +kernel
theorem dX3_addPaper_84 : decode cX3_addPaper 84 = .ok (.getfield 32, 3) := by decide +kernel
theorem dX3_addPaper_87 : decode cX3_addPaper 87 = .ok (.iconst 0, 1) := by decide +kernel
theorem dX3_addPaper_88 : decode cX3_addPaper 88 = .ok (.iastore, 1) := by decide +kernel
theorem dX3_addPaper_89 : decode cX3_addPaper 89 = .ok (.iconst 0, 1) := by decide +kernel
theorem dX3_addPaper_90 : decode cX3_addPaper 90 = .ok (.istore 5, 2) := by decide +kernel
theorem dX3_addPaper_92 : decode cX3_addPaper 92 = .ok (.iload 5, 2) := by decide +kernel
theorem dX3_addPaper_94 : decode cX3_addPaper 94 = .ok (.aload_n 0, 1) := by decide +kernel
theorem dX3_addPaper_95 : decode cX3_addPaper 95 = .ok (.getfield 32, 3) := by decide +kernel
theorem dX3_addPaper_98 : decode cX3_addPaper 98 = .ok (.if_icmp .ge 51, 3) := by decide +kernel
theorem dX3_addPaper_101 : decode cX3_addPaper 101 = .ok (.aload_n 0, 1) := by decide +kernel
theorem dX3_addPaper_102 : decode cX3_addPaper 102 = .ok (.iload 5, 2) := by decide +kernel
theorem dX3_addPaper_104 : decode cX3_addPaper 104 = .ok (.aload_n 0, 1) := by decide +kernel
theorem dX3_addPaper_105 : decode cX3_addPaper 105 = .ok (.getfield 32, 3) := by decide +kernel
theorem dX3_addPaper_108 : decode cX3_addPaper 108 = .ok (.invokevirtual 40, 3) := by decide +kernel
theorem dX3_addPaper_111 : decode cX3_addPaper 111 = .ok (.ifCond .ne 16, 3) := by decide +kernel
theorem dX3_addPaper_114 : decode cX3_addPaper 114 = .ok (.aload_n 0, 1) := by decide +kernel
theorem dX3_addPaper_115 : decode cX3_addPaper 115 = .ok (.aload_n 0, 1) := by decide +kernel
theorem dX3_addPaper_116 : decode cX3_addPaper 116 = .ok (.getfield 32, 3) := by decide +kernel
theorem dX3_addPaper_119 : decode cX3_addPaper 119 = .ok (.iload 5, 2) := by decide +kernel
theorem dX3_addPaper_121 : decode cX3_addPaper 121 = .ok (.invokevirtual 40, 3) := by decide +kernel
theorem dX3_addPaper_124 : decode cX3_addPaper 124 = .ok (.ifCond .eq 19, 3) := by decide +kernel
theorem dX3_addPaper_127 : decode cX3_addPaper 127 = .ok (.aload_n 0, 1) := by decide +kernel
theorem dX3_addPaper_128 : decode cX3_addPaper 128 = .ok (.getfield 21, 3) := by decide +kernel
theorem dX3_addPaper_131 : decode cX3_addPaper 131 = .ok (.aload_n 0, 1) := by decide +kernel
theorem dX3_addPaper_132 : decode cX3_addPaper 132 = .ok (.getfield 32, 3) := by decide +kernel
theorem dX3_addPaper_135 : decode cX3_addPaper 135 = .ok (.dup2, 1) := by decide +kernel
theorem dX3_addPaper_136 : decode cX3_addPaper 136 = .ok (.iaload, 1) := by decide +kernel
theorem dX3_addPaper_137 : decode cX3_addPaper 137 = .ok (.iconst 1, 1) := by decide +kernel
theorem dX3_addPaper_138 : decode cX3_addPaper 138 = .ok (.iload 5, 2) := by decide +kernel
theorem dX3_addPaper_140 : decode cX3_addPaper 140 = .ok (.ishl, 1) := by decide +kernel
theorem dX3_addPaper_141 : decode cX3_addPaper 141 = .ok (.ior, 1) := by decide +kernel
theorem dX3_addPaper_142 : decode cX3_addPaper 142 = .ok (.iastore, 1) := by decide +kernel
theorem dX3_addPaper_143 : decode cX3_addPaper 143 = .ok (.iinc 5 1, 3) := by decide +kernel
theorem dX3_addPaper_146 : decode cX3_addPaper 146 = .ok (.goto (-54), 3) := by decide +kernel
theorem dX3_addPaper_149 : decode cX3_addPaper 149 = .ok (.aload_n 0, 1) := by decide +kernel
theorem dX3_addPaper_150 : decode cX3_addPaper 150 = .ok (.dup, 1) := by decide +kernel
theorem dX3_addPaper_151 : decode cX3_addPaper 151 = .ok (.getfield 32, 3) := by decide +kernel
theorem dX3_addPaper_154 : decode cX3_addPaper 154 = .ok (.iconst 1, 1) := by decide +kernel
theorem dX3_addPaper_155 : decode cX3_addPaper 155 = .ok (.iadd, 1) := by decide +kernel
theorem dX3_addPaper_156 : decode cX3_addPaper 156 = .ok (.putfield 32, 3) := by decide +kernel
theorem dX3_addPaper_159 : decode cX3_addPaper 159 = .ok (.aload_n 0, 1) := by decide +kernel
theorem dX3_addPaper_160 : decode cX3_addPaper 160 = .ok (.getfield 32, 3) := by decide +kernel
theorem dX3_addPaper_163 : decode cX3_addPaper 163 = .ok (.ireturn, 1) := by decide +kernel
theorem dX3_isLayer_0 : decode cX3_isLayer 0 = .ok (.iload_n 0, 1) := by decide +kernel
theorem dX3_isLayer_1 : decode cX3_isLayer 1 = .ok (.iconst 0, 1) := by decide +kernel
theorem dX3_isLayer_2 : decode cX3_isLayer 2 = .ok (.bipush 9, 2) := by decide +kernel
theorem dX3_isLayer_4 : decode cX3_isLayer 4 = .ok (.invokestatic 44, 3) := by decide +kernel
theorem dX3_isLayer_7 : decode cX3_isLayer 7 = .ok (.ireturn, 1) := by decide +kernel
theorem dX3_clash_0 : decode cX3_clash 0 = .ok (.iload_n 1, 1) := by decide +kernel
theorem dX3_clash_1 : decode cX3_clash 1 = .ok (.iconst 0, 1) := by decide +kernel
theorem dX3_clash_2 : decode cX3_clash 2 = .ok (.bipush 11, 2) := by decide +kernel
theorem dX3_clash_4 : decode cX3_clash 4 = .ok (.invokestatic 44, 3) := by decide +kernel
theorem dX3_clash_7 : decode cX3_clash 7 = .ok (.ifCond .eq 17, 3) := by decide +kernel
theorem dX3_clash_10 : decode cX3_clash 10 = .ok (.iload_n 2, 1) := by decide +kernel
theorem dX3_clash_11 : decode cX3_clash 11 = .ok (.iconst 0, 1) := by decide +kernel
theorem dX3_clash_12 : decode cX3_clash 12 = .ok (.bipush 11, 2) := by decide +kernel
theorem dX3_clash_14 : decode cX3_clash 14 = .ok (.invokestatic 44, 3) := by decide +kernel
theorem dX3_clash_17 : decode cX3_clash 17 = .ok (.ifCond .eq 7, 3) := by decide +kernel
theorem dX3_clash_20 : decode cX3_clash 20 = .ok (.iconst 1, 1) := by decide +kernel
theorem dX3_clash_21 : decode cX3_clash 21 = .ok (.goto 4, 3) := by decide +kernel
theorem dX3_clash_24 : decode cX3_clash 24 = .ok (.iconst 0, 1) := by decide +kernel
theorem dX3_clash_25 : decode cX3_clash 25 = .ok (.istore_n 3, 1) := by decide +kernel
theorem dX3_clash_26 : decode cX3_clash 26 = .ok (.iload_n 3, 1) := by decide +kernel
theorem dX3_clash_27 : decode cX3_clash 27 = .ok (.ifCond .eq 37, 3) := by decide +kernel
theorem dX3_clash_30 : decode cX3_clash 30 = .ok (.aload_n 0, 1) := by decide +kernel
theorem dX3_clash_31 : decode cX3_clash 31 = .ok (.getfield 11, 3) := by decide +kernel
theorem dX3_clash_34 : decode cX3_clash 34 = .ok (.iload_n 1, 1) := by decide +kernel
theorem dX3_clash_35 : decode cX3_clash 35 = .ok (.iaload, 1) := by decide +kernel
theorem dX3_clash_36 : decode cX3_clash 36 = .ok (.aload_n 0, 1) := by decide +kernel
theorem dX3_clash_37 : decode cX3_clash 37 = .ok (.getfield 11, 3) := by decide +kernel
theorem dX3_clash_40 : decode cX3_clash 40 = .ok (.iload_n 2, 1) := by decide +kernel
theorem dX3_clash_41 : decode cX3_clash 41 = .ok (.iaload, 1) := by decide +kernel
theorem dX3_clash_42 : decode cX3_clash 42 = .ok (.if_icmp .gt 22, 3) := by decide +kernel
theorem dX3_clash_45 : decode cX3_clash 45 = .ok (.aload_n 0, 1) := by decide +kernel
theorem dX3_clash_46 : decode cX3_clash 46 = .ok (.getfield 15, 3) := by decide +kernel
theorem dX3_clash_49 : decode cX3_clash 49 = .ok (.iload_n 2, 1) := by decide +kernel
theorem dX3_clash_50 : decode cX3_clash 50 = .ok (.iaload, 1) := by decide +kernel
theorem dX3_clash_51 : decode cX3_clash 51 = .ok (.aload_n 0, 1) := by decide +kernel
theorem dX3_clash_52 : decode cX3_clash 52 = .ok (.getfield 18, 3) := by decide +kernel
theorem dX3_clash_55 : decode cX3_clash 55 = .ok (.iload_n 1, 1) := by decide +kernel
theorem dX3_clash_56 : decode cX3_clash 56 = .ok (.iaload, 1) := by decide +kernel
theorem dX3_clash_57 : decode cX3_clash 57 = .ok (.if_icmp .le 7, 3) := by decide +kernel
theorem dX3_clash_60 : decode cX3_clash 60 = .ok (.iconst 1, 1) := by decide +kernel
theorem dX3_clash_61 : decode cX3_clash 61 = .ok (.goto 4, 3) := by decide +kernel
theorem dX3_clash_64 : decode cX3_clash 64 = .ok (.iconst 0, 1) := by decide +kernel
theorem dX3_clash_65 : decode cX3_clash 65 = .ok (.ireturn, 1) := by decide +kernel
theorem dX3_goTogether_0 : decode cX3_goTogether 0 = .ok (.iconst 0, 1) := by decide +kernel
theorem dX3_goTogether_1 : decode cX3_goTogether 1 = .ok (.istore_n 2, 1) := by decide +kernel
theorem dX3_goTogether_2 : decode cX3_goTogether 2 = .ok (.iload_n 2, 1) := by decide +kernel
theorem dX3_goTogether_3 : decode cX3_goTogether 3 = .ok (.aload_n 0, 1) := by decide +kernel
theorem dX3_goTogether_4 : decode cX3_goTogether 4 = .ok (.getfield 32, 3) := by decide +kernel
theorem dX3_goTogether_7 : decode cX3_goTogether 7 = .ok (.if_icmp .ge 36, 3) := by decide +kernel
theorem dX3_goTogether_10 : decode cX3_goTogether 10 = .ok (.iload_n 2, 1) := by decide +kernel
theorem dX3_goTogether_11 : decode cX3_goTogether 11 = .ok (.bipush 12, 2) := by decide +kernel
theorem dX3_goTogether_13 : decode cX3_goTogether 13 = .ok (.if_icmp .ge 30, 3) := by decide +kernel
theorem dX3_goTogether_16 : decode cX3_goTogether 16 = .ok (.iload_n 1, 1) := by decide +kernel
theorem dX3_goTogether_17 : decode cX3_goTogether 17 = .ok (.iload_n 2, 1) := by decide +kernel
theorem dX3_goTogether_18 : decode cX3_goTogether 18 = .ok (.invokestatic 48, 3) := by decide +kernel
theorem dX3_goTogether_21 : decode cX3_goTogether 21 = .ok (.ifCond .eq 16, 3) := by decide +kernel
theorem dX3_goTogether_24 : decode cX3_goTogether 24 = .ok (.aload_n 0, 1) := by decide +kernel
theorem dX3_goTogether_25 : decode cX3_goTogether 25 = .ok (.getfield 21, 3) := by decide +kernel
theorem dX3_goTogether_28 : decode cX3_goTogether 28 = .ok (.iload_n 2, 1) := by decide +kernel
theorem dX3_goTogether_29 : decode cX3_goTogether 29 = .ok (.iaload, 1) := by decide +kernel
theorem dX3_goTogether_30 : decode cX3_goTogether 30 = .ok (.iload_n 1, 1) := by decide +kernel
theorem dX3_goTogether_31 : decode cX3_goTogether 31 = .ok (.iand, 1) := by decide +kernel
theorem dX3_goTogether_32 : decode cX3_goTogether 32 = .ok (.ifCond .eq 5, 3) := by decide +kernel
theorem dX3_goTogether_35 : decode cX3_goTogether 35 = .ok (.iconst 0, 1) := by decide +kernel
theorem dX3_goTogether_36 : decode cX3_goTogether 36 = .ok (.ireturn, 1) := by decide +kernel
theorem dX3_goTogether_37 : decode cX3_goTogether 37 = .ok (.iinc 2 1, 3) := by decide +kernel
theorem dX3_goTogether_40 : decode cX3_goTogether 40 = .ok (.goto (-38), 3) := by decide +kernel
theorem dX3_goTogether_43 : decode cX3_goTogether 43 = .ok (.iconst 1, 1) := by decide +kernel
theorem dX3_goTogether_44 : decode cX3_goTogether 44 = .ok (.ireturn, 1) := by decide +kernel
theorem dX3_allPapers_0 : decode cX3_allPapers 0 = .ok (.iconst 1, 1) := by decide +kernel
theorem dX3_allPapers_1 : decode cX3_allPapers 1 = .ok (.aload_n 0, 1) := by decide +kernel
theorem dX3_allPapers_2 : decode cX3_allPapers 2 = .ok (.getfield 32, 3) := by decide +kernel
theorem dX3_allPapers_5 : decode cX3_allPapers 5 = .ok (.ishl, 1) := by decide +kernel
theorem dX3_allPapers_6 : decode cX3_allPapers 6 = .ok (.iconst 1, 1) := by decide +kernel
theorem dX3_allPapers_7 : decode cX3_allPapers 7 = .ok (.isub, 1) := by decide +kernel
theorem dX3_allPapers_8 : decode cX3_allPapers 8 = .ok (.ireturn, 1) := by decide +kernel
theorem dX3_firstYearOf_0 : decode cX3_firstYearOf 0 = .ok (.sipush 1900, 3) := by decide +kernel
theorem dX3_firstYearOf_3 : decode cX3_firstYearOf 3 = .ok (.istore_n 2, 1) := by decide +kernel
theorem dX3_firstYearOf_4 : decode cX3_firstYearOf 4 = .ok (.iconst 0, 1) := by decide +kernel
theorem dX3_firstYearOf_5 : decode cX3_firstYearOf 5 = .ok (.istore_n 3, 1) := by decide +kernel
theorem dX3_firstYearOf_6 : decode cX3_firstYearOf 6 = .ok (.iload_n 3, 1) := by decide +kernel
theorem dX3_firstYearOf_7 : decode cX3_firstYearOf 7 = .ok (.aload_n 0, 1) := by decide +kernel
theorem dX3_firstYearOf_8 : decode cX3_firstYearOf 8 = .ok (.getfield 32, 3) := by decide +kernel
theorem dX3_firstYearOf_11 : decode cX3_firstYearOf 11 = .ok (.if_icmp .ge 40, 3) := by decide +kernel
theorem dX3_firstYearOf_14 : decode cX3_firstYearOf 14 = .ok (.iload_n 3, 1) := by decide +kernel
theorem dX3_firstYearOf_15 : decode cX3_firstYearOf 15 = .ok (.bipush 12, 2) := by decide +kernel
theorem dX3_firstYearOf_17 : decode cX3_firstYearOf 17 = .ok (.if_icmp .ge 34, 3) := by decide +kernel
theorem dX3_firstYearOf_20 : decode cX3_firstYearOf 20 = .ok (.aload_n 0, 1) := by decide +kernel
theorem dX3_firstYearOf_21 : decode cX3_firstYearOf 21 = .ok (.getfield 11, 3) := by decide +kernel
theorem dX3_firstYearOf_24 : decode cX3_firstYearOf 24 = .ok (.iload_n 3, 1) := by decide +kernel
theorem dX3_firstYearOf_25 : decode cX3_firstYearOf 25 = .ok (.iaload, 1) := by decide +kernel
theorem dX3_firstYearOf_26 : decode cX3_firstYearOf 26 = .ok (.iload_n 1, 1) := by decide +kernel
theorem dX3_firstYearOf_27 : decode cX3_firstYearOf 27 = .ok (.if_icmp .lt 16, 3) := by decide +kernel
theorem dX3_firstYearOf_30 : decode cX3_firstYearOf 30 = .ok (.iload_n 2, 1) := by decide +kernel
theorem dX3_firstYearOf_31 : decode cX3_firstYearOf 31 = .ok (.aload_n 0, 1) := by decide +kernel
theorem dX3_firstYearOf_32 : decode cX3_firstYearOf 32 = .ok (.getfield 15, 3) := by decide +kernel
theorem dX3_firstYearOf_35 : decode cX3_firstYearOf 35 = .ok (.iload_n 3, 1) := by decide +kernel
theorem dX3_firstYearOf_36 : decode cX3_firstYearOf 36 = .ok (.iaload, 1) := by decide +kernel
theorem dX3_firstYearOf_37 : decode cX3_firstYearOf 37 = .ok (.invokestatic 51, 3) := by decide +kernel
theorem dX3_firstYearOf_40 : decode cX3_firstYearOf 40 = .ok (.goto 4, 3) := by decide +kernel
theorem dX3_firstYearOf_43 : decode cX3_firstYearOf 43 = .ok (.iload_n 2, 1) := by decide +kernel
theorem dX3_firstYearOf_44 : decode cX3_firstYearOf 44 = .ok (.istore_n 2, 1) := by decide +kernel
theorem dX3_firstYearOf_45 : decode cX3_firstYearOf 45 = .ok (.iinc 3 1, 3) := by decide +kernel
theorem dX3_firstYearOf_48 : decode cX3_firstYearOf 48 = .ok (.goto (-42), 3) := by decide +kernel
theorem dX3_firstYearOf_51 : decode cX3_firstYearOf 51 = .ok (.iload_n 2, 1) := by decide +kernel
theorem dX3_firstYearOf_52 : decode cX3_firstYearOf 52 = .ok (.ireturn, 1) := by decide +kernel
theorem dX3_lastYearOf_0 : decode cX3_lastYearOf 0 = .ok (.sipush 2100, 3) := by decide +kernel
theorem dX3_lastYearOf_3 : decode cX3_lastYearOf 3 = .ok (.istore_n 2, 1) := by decide +kernel
theorem dX3_lastYearOf_4 : decode cX3_lastYearOf 4 = .ok (.iconst 0, 1) := by decide +kernel
theorem dX3_lastYearOf_5 : decode cX3_lastYearOf 5 = .ok (.istore_n 3, 1) := by decide +kernel
theorem dX3_lastYearOf_6 : decode cX3_lastYearOf 6 = .ok (.iload_n 3, 1) := by decide +kernel
theorem dX3_lastYearOf_7 : decode cX3_lastYearOf 7 = .ok (.aload_n 0, 1) := by decide +kernel
theorem dX3_lastYearOf_8 : decode cX3_lastYearOf 8 = .ok (.getfield 32, 3) := by decide +kernel
theorem dX3_lastYearOf_11 : decode cX3_lastYearOf 11 = .ok (.if_icmp .ge 40, 3) := by decide +kernel
theorem dX3_lastYearOf_14 : decode cX3_lastYearOf 14 = .ok (.iload_n 3, 1) := by decide +kernel
theorem dX3_lastYearOf_15 : decode cX3_lastYearOf 15 = .ok (.bipush 12, 2) := by decide +kernel
theorem dX3_lastYearOf_17 : decode cX3_lastYearOf 17 = .ok (.if_icmp .ge 34, 3) := by decide +kernel
theorem dX3_lastYearOf_20 : decode cX3_lastYearOf 20 = .ok (.aload_n 0, 1) := by decide +kernel
theorem dX3_lastYearOf_21 : decode cX3_lastYearOf 21 = .ok (.getfield 11, 3) := by decide +kernel
theorem dX3_lastYearOf_24 : decode cX3_lastYearOf 24 = .ok (.iload_n 3, 1) := by decide +kernel
theorem dX3_lastYearOf_25 : decode cX3_lastYearOf 25 = .ok (.iaload, 1) := by decide +kernel
theorem dX3_lastYearOf_26 : decode cX3_lastYearOf 26 = .ok (.iload_n 1, 1) := by decide +kernel
theorem dX3_lastYearOf_27 : decode cX3_lastYearOf 27 = .ok (.if_icmp .gt 16, 3) := by decide +kernel
theorem dX3_lastYearOf_30 : decode cX3_lastYearOf 30 = .ok (.iload_n 2, 1) := by decide +kernel
theorem dX3_lastYearOf_31 : decode cX3_lastYearOf 31 = .ok (.aload_n 0, 1) := by decide +kernel
theorem dX3_lastYearOf_32 : decode cX3_lastYearOf 32 = .ok (.getfield 18, 3) := by decide +kernel
theorem dX3_lastYearOf_35 : decode cX3_lastYearOf 35 = .ok (.iload_n 3, 1) := by decide +kernel
theorem dX3_lastYearOf_36 : decode cX3_lastYearOf 36 = .ok (.iaload, 1) := by decide +kernel
theorem dX3_lastYearOf_37 : decode cX3_lastYearOf 37 = .ok (.invokestatic 57, 3) := by decide +kernel
theorem dX3_lastYearOf_40 : decode cX3_lastYearOf 40 = .ok (.goto 4, 3) := by decide +kernel
theorem dX3_lastYearOf_43 : decode cX3_lastYearOf 43 = .ok (.iload_n 2, 1) := by decide +kernel
theorem dX3_lastYearOf_44 : decode cX3_lastYearOf 44 = .ok (.istore_n 2, 1) := by decide +kernel
theorem dX3_lastYearOf_45 : decode cX3_lastYearOf 45 = .ok (.iinc 3 1, 3) := by decide +kernel
theorem dX3_lastYearOf_48 : decode cX3_lastYearOf 48 = .ok (.goto (-42), 3) := by decide +kernel
theorem dX3_lastYearOf_51 : decode cX3_lastYearOf 51 = .ok (.iload_n 2, 1) := by decide +kernel
theorem dX3_lastYearOf_52 : decode cX3_lastYearOf 52 = .ok (.ireturn, 1) := by decide +kernel
theorem dX3_yearsOf_0 : decode cX3_yearsOf 0 = .ok (.iload_n 1, 1) := by decide +kernel
theorem dX3_yearsOf_1 : decode cX3_yearsOf 1 = .ok (.invokestatic 36, 3) := by decide +kernel
theorem dX3_yearsOf_4 : decode cX3_yearsOf 4 = .ok (.ifCond .ne 5, 3) := by decide +kernel
theorem dX3_yearsOf_7 : decode cX3_yearsOf 7 = .ok (.iconst (-1), 1) := by decide +kernel
theorem dX3_yearsOf_8 : decode cX3_yearsOf 8 = .ok (.ireturn, 1) := by decide +kernel
theorem dX3_yearsOf_9 : decode cX3_yearsOf 9 = .ok (.aload_n 0, 1) := by decide +kernel
theorem dX3_yearsOf_10 : decode cX3_yearsOf 10 = .ok (.aload_n 0, 1) := by decide +kernel
theorem dX3_yearsOf_11 : decode cX3_yearsOf 11 = .ok (.invokevirtual 60, 3) := by decide +kernel
theorem dX3_yearsOf_14 : decode cX3_yearsOf 14 = .ok (.invokevirtual 64, 3) := by decide +kernel
theorem dX3_yearsOf_17 : decode cX3_yearsOf 17 = .ok (.ifCond .ne 6, 3) := by decide +kernel
theorem dX3_yearsOf_20 : decode cX3_yearsOf 20 = .ok (.bipush (-2), 2) := by decide +kernel
theorem dX3_yearsOf_22 : decode cX3_yearsOf 22 = .ok (.ireturn, 1) := by decide +kernel
theorem dX3_yearsOf_23 : decode cX3_yearsOf 23 = .ok (.aload_n 0, 1) := by decide +kernel
theorem dX3_yearsOf_24 : decode cX3_yearsOf 24 = .ok (.iload_n 1, 1) := by decide +kernel
theorem dX3_yearsOf_25 : decode cX3_yearsOf 25 = .ok (.invokevirtual 67, 3) := by decide +kernel
theorem dX3_yearsOf_28 : decode cX3_yearsOf 28 = .ok (.istore_n 2, 1) := by decide +kernel
theorem dX3_yearsOf_29 : decode cX3_yearsOf 29 = .ok (.aload_n 0, 1) := by decide +kernel
theorem dX3_yearsOf_30 : decode cX3_yearsOf 30 = .ok (.iload_n 1, 1) := by decide +kernel
theorem dX3_yearsOf_31 : decode cX3_yearsOf 31 = .ok (.invokevirtual 71, 3) := by decide +kernel
theorem dX3_yearsOf_34 : decode cX3_yearsOf 34 = .ok (.istore_n 3, 1) := by decide +kernel
theorem dX3_yearsOf_35 : decode cX3_yearsOf 35 = .ok (.aload_n 0, 1) := by decide +kernel
theorem dX3_yearsOf_36 : decode cX3_yearsOf 36 = .ok (.getfield 28, 3) := by decide +kernel
theorem dX3_yearsOf_39 : decode cX3_yearsOf 39 = .ok (.invokevirtual 74, 3) := by decide +kernel
theorem dX3_yearsOf_42 : decode cX3_yearsOf 42 = .ok (.iload_n 2, 1) := by decide +kernel
theorem dX3_yearsOf_43 : decode cX3_yearsOf 43 = .ok (.i2l, 1) := by decide +kernel
theorem dX3_yearsOf_44 : decode cX3_yearsOf 44 = .ok (.invokevirtual 80, 3) := by decide +kernel
theorem dX3_yearsOf_47 : decode cX3_yearsOf 47 = .ok (.iload_n 3, 1) := by decide +kernel
theorem dX3_yearsOf_48 : decode cX3_yearsOf 48 = .ok (.i2l, 1) := by decide +kernel
theorem dX3_yearsOf_49 : decode cX3_yearsOf 49 = .ok (.invokevirtual 80, 3) := by decide +kernel
theorem dX3_yearsOf_52 : decode cX3_yearsOf 52 = .ok (.pop, 1) := by decide +kernel
theorem dX3_yearsOf_53 : decode cX3_yearsOf 53 = .ok (.iload_n 3, 1) := by decide +kernel
theorem dX3_yearsOf_54 : decode cX3_yearsOf 54 = .ok (.iload_n 2, 1) := by decide +kernel
theorem dX3_yearsOf_55 : decode cX3_yearsOf 55 = .ok (.isub, 1) := by decide +kernel
theorem dX3_yearsOf_56 : decode cX3_yearsOf 56 = .ok (.iconst 1, 1) := by decide +kernel
theorem dX3_yearsOf_57 : decode cX3_yearsOf 57 = .ok (.iadd, 1) := by decide +kernel
theorem dX3_yearsOf_58 : decode cX3_yearsOf 58 = .ok (.ireturn, 1) := by decide +kernel
theorem dX3_fewestOut_0 : decode cX3_fewestOut 0 = .ok (.aload_n 0, 1) := by decide +kernel
theorem dX3_fewestOut_1 : decode cX3_fewestOut 1 = .ok (.invokevirtual 60, 3) := by decide +kernel
theorem dX3_fewestOut_4 : decode cX3_fewestOut 4 = .ok (.istore_n 1, 1) := by decide +kernel
theorem dX3_fewestOut_5 : decode cX3_fewestOut 5 = .ok (.iconst 0, 1) := by decide +kernel
theorem dX3_fewestOut_6 : decode cX3_fewestOut 6 = .ok (.istore_n 2, 1) := by decide +kernel
theorem dX3_fewestOut_7 : decode cX3_fewestOut 7 = .ok (.iload_n 2, 1) := by decide +kernel
theorem dX3_fewestOut_8 : decode cX3_fewestOut 8 = .ok (.aload_n 0, 1) := by decide +kernel
theorem dX3_fewestOut_9 : decode cX3_fewestOut 9 = .ok (.invokevirtual 60, 3) := by decide +kernel
theorem dX3_fewestOut_12 : decode cX3_fewestOut 12 = .ok (.if_icmp .gt 37, 3) := by decide +kernel
theorem dX3_fewestOut_15 : decode cX3_fewestOut 15 = .ok (.iload_n 2, 1) := by decide +kernel
theorem dX3_fewestOut_16 : decode cX3_fewestOut 16 = .ok (.invokestatic 84, 3) := by decide +kernel
theorem dX3_fewestOut_19 : decode cX3_fewestOut 19 = .ok (.iload_n 1, 1) := by decide +kernel
theorem dX3_fewestOut_20 : decode cX3_fewestOut 20 = .ok (.invokestatic 84, 3) := by decide +kernel
theorem dX3_fewestOut_23 : decode cX3_fewestOut 23 = .ok (.if_icmp .ge 20, 3) := by decide +kernel
theorem dX3_fewestOut_26 : decode cX3_fewestOut 26 = .ok (.aload_n 0, 1) := by decide +kernel
theorem dX3_fewestOut_27 : decode cX3_fewestOut 27 = .ok (.aload_n 0, 1) := by decide +kernel
theorem dX3_fewestOut_28 : decode cX3_fewestOut 28 = .ok (.invokevirtual 60, 3) := by decide +kernel
theorem dX3_fewestOut_31 : decode cX3_fewestOut 31 = .ok (.iload_n 2, 1) := by decide +kernel
theorem dX3_fewestOut_32 : decode cX3_fewestOut 32 = .ok (.iconst (-1), 1) := by decide +kernel
theorem dX3_fewestOut_33 : decode cX3_fewestOut 33 = .ok (.ixor, 1) := by decide +kernel
theorem dX3_fewestOut_34 : decode cX3_fewestOut 34 = .ok (.iand, 1) := by decide +kernel
theorem dX3_fewestOut_35 : decode cX3_fewestOut 35 = .ok (.invokevirtual 64, 3) := by decide +kernel
theorem dX3_fewestOut_38 : decode cX3_fewestOut 38 = .ok (.ifCond .eq 5, 3) := by decide +kernel
theorem dX3_fewestOut_41 : decode cX3_fewestOut 41 = .ok (.iload_n 2, 1) := by decide +kernel
theorem dX3_fewestOut_42 : decode cX3_fewestOut 42 = .ok (.istore_n 1, 1) := by decide +kernel
theorem dX3_fewestOut_43 : decode cX3_fewestOut 43 = .ok (.iinc 2 1, 3) := by decide +kernel
theorem dX3_fewestOut_46 : decode cX3_fewestOut 46 = .ok (.goto (-39), 3) := by decide +kernel
theorem dX3_fewestOut_49 : decode cX3_fewestOut 49 = .ok (.aload_n 0, 1) := by decide +kernel
theorem dX3_fewestOut_50 : decode cX3_fewestOut 50 = .ok (.getfield 28, 3) := by decide +kernel
theorem dX3_fewestOut_53 : decode cX3_fewestOut 53 = .ok (.invokevirtual 74, 3) := by decide +kernel
theorem dX3_fewestOut_56 : decode cX3_fewestOut 56 = .ok (.iload_n 1, 1) := by decide +kernel
theorem dX3_fewestOut_57 : decode cX3_fewestOut 57 = .ok (.i2l, 1) := by decide +kernel
theorem dX3_fewestOut_58 : decode cX3_fewestOut 58 = .ok (.invokevirtual 80, 3) := by decide +kernel
theorem dX3_fewestOut_61 : decode cX3_fewestOut 61 = .ok (.pop, 1) := by decide +kernel
theorem dX3_fewestOut_62 : decode cX3_fewestOut 62 = .ok (.iload_n 1, 1) := by decide +kernel
theorem dX3_fewestOut_63 : decode cX3_fewestOut 63 = .ok (.invokestatic 84, 3) := by decide +kernel
theorem dX3_fewestOut_66 : decode cX3_fewestOut 66 = .ok (.ireturn, 1) := by decide +kernel
theorem dX3_thrownOnce_0 : decode cX3_thrownOnce 0 = .ok (.iload_n 3, 1) := by decide +kernel
theorem dX3_thrownOnce_1 : decode cX3_thrownOnce 1 = .ok (.iconst 0, 1) := by decide +kernel
theorem dX3_thrownOnce_2 : decode cX3_thrownOnce 2 = .ok (.sipush 9999, 3) := by decide +kernel
theorem dX3_thrownOnce_5 : decode cX3_thrownOnce 5 = .ok (.invokestatic 44, 3) := by decide +kernel
theorem dX3_thrownOnce_8 : decode cX3_thrownOnce 8 = .ok (.ifCond .eq 21, 3) := by decide +kernel
theorem dX3_thrownOnce_11 : decode cX3_thrownOnce 11 = .ok (.iload 4, 2) := by decide +kernel
theorem dX3_thrownOnce_13 : decode cX3_thrownOnce 13 = .ok (.sipush 1900, 3) := by decide +kernel
theorem dX3_thrownOnce_16 : decode cX3_thrownOnce 16 = .ok (.sipush 2100, 3) := by decide +kernel
theorem dX3_thrownOnce_19 : decode cX3_thrownOnce 19 = .ok (.invokestatic 44, 3) := by decide +kernel
theorem dX3_thrownOnce_22 : decode cX3_thrownOnce 22 = .ok (.ifCond .eq 7, 3) := by decide +kernel
theorem dX3_thrownOnce_25 : decode cX3_thrownOnce 25 = .ok (.iconst 1, 1) := by decide +kernel
theorem dX3_thrownOnce_26 : decode cX3_thrownOnce 26 = .ok (.goto 4, 3) := by decide +kernel
theorem dX3_thrownOnce_29 : decode cX3_thrownOnce 29 = .ok (.iconst 0, 1) := by decide +kernel
theorem dX3_thrownOnce_30 : decode cX3_thrownOnce 30 = .ok (.istore 5, 2) := by decide +kernel
theorem dX3_thrownOnce_32 : decode cX3_thrownOnce 32 = .ok (.iload_n 1, 1) := by decide +kernel
theorem dX3_thrownOnce_33 : decode cX3_thrownOnce 33 = .ok (.invokestatic 36, 3) := by decide +kernel
theorem dX3_thrownOnce_36 : decode cX3_thrownOnce 36 = .ok (.ifCond .eq 19, 3) := by decide +kernel
theorem dX3_thrownOnce_39 : decode cX3_thrownOnce 39 = .ok (.aload_n 0, 1) := by decide +kernel
theorem dX3_thrownOnce_40 : decode cX3_thrownOnce 40 = .ok (.getfield 24, 3) := by decide +kernel
theorem dX3_thrownOnce_43 : decode cX3_thrownOnce 43 = .ok (.iload_n 2, 1) := by decide +kernel
theorem dX3_thrownOnce_44 : decode cX3_thrownOnce 44 = .ok (.invokevirtual 89, 3) := by decide +kernel
theorem dX3_thrownOnce_47 : decode cX3_thrownOnce 47 = .ok (.ifCond .eq 8, 3) := by decide +kernel
theorem dX3_thrownOnce_50 : decode cX3_thrownOnce 50 = .ok (.iload 5, 2) := by decide +kernel
theorem dX3_thrownOnce_52 : decode cX3_thrownOnce 52 = .ok (.ifCond .ne 5, 3) := by decide +kernel
theorem dX3_thrownOnce_55 : decode cX3_thrownOnce 55 = .ok (.iconst (-1), 1) := by decide +kernel
theorem dX3_thrownOnce_56 : decode cX3_thrownOnce 56 = .ok (.ireturn, 1) := by decide +kernel
theorem dX3_thrownOnce_57 : decode cX3_thrownOnce 57 = .ok (.aload_n 0, 1) := by decide +kernel
theorem dX3_thrownOnce_58 : decode cX3_thrownOnce 58 = .ok (.aload_n 0, 1) := by decide +kernel
theorem dX3_thrownOnce_59 : decode cX3_thrownOnce 59 = .ok (.invokevirtual 60, 3) := by decide +kernel
theorem dX3_thrownOnce_62 : decode cX3_thrownOnce 62 = .ok (.invokevirtual 64, 3) := by decide +kernel
theorem dX3_thrownOnce_65 : decode cX3_thrownOnce 65 = .ok (.ifCond .ne 6, 3) := by decide +kernel
theorem dX3_thrownOnce_68 : decode cX3_thrownOnce 68 = .ok (.bipush (-2), 2) := by decide +kernel
theorem dX3_thrownOnce_70 : decode cX3_thrownOnce 70 = .ok (.ireturn, 1) := by decide +kernel
theorem dX3_thrownOnce_71 : decode cX3_thrownOnce 71 = .ok (.aload_n 0, 1) := by decide +kernel
theorem dX3_thrownOnce_72 : decode cX3_thrownOnce 72 = .ok (.getfield 24, 3) := by decide +kernel
theorem dX3_thrownOnce_75 : decode cX3_thrownOnce 75 = .ok (.iload_n 2, 1) := by decide +kernel
theorem dX3_thrownOnce_76 : decode cX3_thrownOnce 76 = .ok (.invokevirtual 94, 3) := by decide +kernel
theorem dX3_thrownOnce_79 : decode cX3_thrownOnce 79 = .ok (.istore 6, 2) := by decide +kernel
theorem dX3_thrownOnce_81 : decode cX3_thrownOnce 81 = .ok (.aload_n 0, 1) := by decide +kernel
theorem dX3_thrownOnce_82 : decode cX3_thrownOnce 82 = .ok (.getfield 28, 3) := by decide +kernel
theorem dX3_thrownOnce_85 : decode cX3_thrownOnce 85 = .ok (.invokevirtual 74, 3) := by decide +kernel
theorem dX3_thrownOnce_88 : decode cX3_thrownOnce 88 = .ok (.pop, 1) := by decide +kernel
theorem dX3_thrownOnce_89 : decode cX3_thrownOnce 89 = .ok (.aload_n 0, 1) := by decide +kernel
theorem dX3_thrownOnce_90 : decode cX3_thrownOnce 90 = .ok (.getfield 28, 3) := by decide +kernel
theorem dX3_thrownOnce_93 : decode cX3_thrownOnce 93 = .ok (.iload_n 3, 1) := by decide +kernel
theorem dX3_thrownOnce_94 : decode cX3_thrownOnce 94 = .ok (.iload 6, 2) := by decide +kernel
theorem dX3_thrownOnce_96 : decode cX3_thrownOnce 96 = .ok (.iload 4, 2) := by decide +kernel
theorem dX3_thrownOnce_98 : decode cX3_thrownOnce 98 = .ok (.aload_n 0, 1) := by decide +kernel
theorem dX3_thrownOnce_99 : decode cX3_thrownOnce 99 = .ok (.iload_n 1, 1) := by decide +kernel
theorem dX3_thrownOnce_100 : decode cX3_thrownOnce 100 = .ok (.invokevirtual 71, 3) := by decide +kernel
theorem dX3_thrownOnce_103 : decode cX3_thrownOnce 103 = .ok (.isub, 1) := by decide +kernel
theorem dX3_thrownOnce_104 : decode cX3_thrownOnce 104 = .ok (.invokestatic 97, 3) := by decide +kernel
theorem dX3_thrownOnce_107 : decode cX3_thrownOnce 107 = .ok (.invokevirtual 80, 3) := by decide +kernel
theorem dX3_thrownOnce_110 : decode cX3_thrownOnce 110 = .ok (.pop, 1) := by decide +kernel
theorem dX3_thrownOnce_111 : decode cX3_thrownOnce 111 = .ok (.aload_n 0, 1) := by decide +kernel
theorem dX3_thrownOnce_112 : decode cX3_thrownOnce 112 = .ok (.getfield 28, 3) := by decide +kernel
theorem dX3_thrownOnce_115 : decode cX3_thrownOnce 115 = .ok (.iload_n 3, 1) := by decide +kernel
theorem dX3_thrownOnce_116 : decode cX3_thrownOnce 116 = .ok (.iload 6, 2) := by decide +kernel
theorem dX3_thrownOnce_118 : decode cX3_thrownOnce 118 = .ok (.iload 4, 2) := by decide +kernel
theorem dX3_thrownOnce_120 : decode cX3_thrownOnce 120 = .ok (.aload_n 0, 1) := by decide +kernel
theorem dX3_thrownOnce_121 : decode cX3_thrownOnce 121 = .ok (.iload_n 1, 1) := by decide +kernel
theorem dX3_thrownOnce_122 : decode cX3_thrownOnce 122 = .ok (.invokevirtual 67, 3) := by decide +kernel
theorem dX3_thrownOnce_125 : decode cX3_thrownOnce 125 = .ok (.isub, 1) := by decide +kernel
theorem dX3_thrownOnce_126 : decode cX3_thrownOnce 126 = .ok (.invokestatic 97, 3) := by decide +kernel
theorem dX3_thrownOnce_129 : decode cX3_thrownOnce 129 = .ok (.invokevirtual 80, 3) := by decide +kernel
theorem dX3_thrownOnce_132 : decode cX3_thrownOnce 132 = .ok (.pop, 1) := by decide +kernel
theorem dX3_thrownOnce_133 : decode cX3_thrownOnce 133 = .ok (.iconst 0, 1) := by decide +kernel
theorem dX3_thrownOnce_134 : decode cX3_thrownOnce 134 = .ok (.ireturn, 1) := by decide +kernel
theorem dX3_grown_0 : decode cX3_grown 0 = .ok (.iload_n 2, 1) := by decide +kernel
theorem dX3_grown_1 : decode cX3_grown 1 = .ok (.bipush 10, 2) := by decide +kernel
theorem dX3_grown_3 : decode cX3_grown 3 = .ok (.idiv, 1) := by decide +kernel
theorem dX3_grown_4 : decode cX3_grown 4 = .ok (.iconst 0, 1) := by decide +kernel
theorem dX3_grown_5 : decode cX3_grown 5 = .ok (.iconst 4, 1) := by decide +kernel
theorem dX3_grown_6 : decode cX3_grown 6 = .ok (.invokestatic 101, 3) := by decide +kernel
theorem dX3_grown_9 : decode cX3_grown 9 = .ok (.istore_n 3, 1) := by decide +kernel
theorem dX3_grown_10 : decode cX3_grown 10 = .ok (.iload_n 0, 1) := by decide +kernel
theorem dX3_grown_11 : decode cX3_grown 11 = .ok (.i2l, 1) := by decide +kernel
theorem dX3_grown_12 : decode cX3_grown 12 = .ok (.lstore 4, 2) := by decide +kernel
theorem dX3_grown_14 : decode cX3_grown 14 = .ok (.lconst 1, 1) := by decide +kernel
theorem dX3_grown_15 : decode cX3_grown 15 = .ok (.lstore 6, 2) := by decide +kernel
theorem dX3_grown_17 : decode cX3_grown 17 = .ok (.iconst 0, 1) := by decide +kernel
theorem dX3_grown_18 : decode cX3_grown 18 = .ok (.istore 8, 2) := by decide +kernel
theorem dX3_grown_20 : decode cX3_grown 20 = .ok (.iload 8, 2) := by decide +kernel
theorem dX3_grown_22 : decode cX3_grown 22 = .ok (.iload_n 3, 1) := by decide +kernel
theorem dX3_grown_23 : decode cX3_grown 23 = .ok (.if_icmp .ge 24, 3) := by decide +kernel
theorem dX3_grown_26 : decode cX3_grown 26 = .ok (.lload 4, 2) := by decide +kernel
theorem dX3_grown_28 : decode cX3_grown 28 = .ok (.ldc2_w 105, 3) := by decide +kernel
theorem dX3_grown_31 : decode cX3_grown 31 = .ok (.lmul, 1) := by decide +kernel
theorem dX3_grown_32 : decode cX3_grown 32 = .ok (.lstore 4, 2) := by decide +kernel
theorem dX3_grown_34 : decode cX3_grown 34 = .ok (.lload 6, 2) := by decide +kernel
theorem dX3_grown_36 : decode cX3_grown 36 = .ok (.iload_n 1, 1) := by decide +kernel
theorem dX3_grown_37 : decode cX3_grown 37 = .ok (.i2l, 1) := by decide +kernel
theorem dX3_grown_38 : decode cX3_grown 38 = .ok (.lmul, 1) := by decide +kernel
theorem dX3_grown_39 : decode cX3_grown 39 = .ok (.lstore 6, 2) := by decide +kernel
theorem dX3_grown_41 : decode cX3_grown 41 = .ok (.iinc 8 1, 3) := by decide +kernel
theorem dX3_grown_44 : decode cX3_grown 44 = .ok (.goto (-24), 3) := by decide +kernel
theorem dX3_grown_47 : decode cX3_grown 47 = .ok (.lload 6, 2) := by decide +kernel
theorem dX3_grown_49 : decode cX3_grown 49 = .ok (.lconst 0, 1) := by decide +kernel
theorem dX3_grown_50 : decode cX3_grown 50 = .ok (.lcmp, 1) := by decide +kernel
theorem dX3_grown_51 : decode cX3_grown 51 = .ok (.ifCond .le 11, 3) := by decide +kernel
theorem dX3_grown_54 : decode cX3_grown 54 = .ok (.lload 4, 2) := by decide +kernel
theorem dX3_grown_56 : decode cX3_grown 56 = .ok (.lload 6, 2) := by decide +kernel
theorem dX3_grown_58 : decode cX3_grown 58 = .ok (.ldiv, 1) := by decide +kernel
theorem dX3_grown_59 : decode cX3_grown 59 = .ok (.goto 4, 3) := by decide +kernel
theorem dX3_grown_62 : decode cX3_grown 62 = .ok (.lconst 0, 1) := by decide +kernel
theorem dX3_grown_63 : decode cX3_grown 63 = .ok (.lreturn, 1) := by decide +kernel
theorem dX4_init_0 : decode cX4_init 0 = .ok (.aload_n 0, 1) := by decide +kernel
theorem dX4_init_1 : decode cX4_init 1 = .ok (.invokespecial 3, 3) := by decide +kernel
theorem dX4_init_4 : decode cX4_init 4 = .ok (.aload_n 0, 1) := by decide +kernel
theorem dX4_init_5 : decode cX4_init 5 = .ok (.sipush 4608, 3) := by decide +kernel
theorem dX4_init_8 : decode cX4_init 8 = .ok (.newarray .int, 2) := by decide +kernel
theorem dX4_init_10 : decode cX4_init 10 = .ok (.putfield 11, 3) := by decide +kernel
theorem dX4_init_13 : decode cX4_init 13 = .ok (.aload_n 0, 1) := by decide +kernel
theorem dX4_init_14 : decode cX4_init 14 = .ok (.iconst 3, 1) := by decide +kernel
theorem dX4_init_15 : decode cX4_init 15 = .ok (.sipush 4608, 3) := by decide +kernel
theorem dX4_init_18 : decode cX4_init 18 = .ok (.multianewarray 15 2, 4) := by decide +kernel
theorem dX4_init_22 : decode cX4_init 22 = .ok (.putfield 17, 3) := by decide +kernel
theorem dX4_init_25 : decode cX4_init 25 = .ok (.aload_n 0, 1) := by decide +kernel
theorem dX4_init_26 : decode cX4_init 26 = .ok (.iconst 3, 1) := by decide +kernel
theorem dX4_init_27 : decode cX4_init 27 = .ok (.newarray .int, 2) := by decide +kernel
theorem dX4_init_29 : decode cX4_init 29 = .ok (.putfield 20, 3) := by decide +kernel
theorem dX4_init_32 : decode cX4_init 32 = .ok (.aload_n 0, 1) := by decide +kernel
theorem dX4_init_33 : decode cX4_init 33 = .ok (.iconst 3, 1) := by decide +kernel
theorem dX4_init_34 : decode cX4_init 34 = .ok (.newarray .boolean, 2) := by decide +kernel
theorem dX4_init_36 : decode cX4_init 36 = .ok (.putfield 23, 3) := by decide +kernel
theorem dX4_init_39 : decode cX4_init 39 = .ok (.aload_n 0, 1) := by decide +kernel
theorem dX4_init_40 : decode cX4_init 40 = .ok (.iconst 1, 1) := by decide +kernel
theorem dX4_init_41 : decode cX4_init 41 = .ok (.putfield 27, 3) := by decide +kernel
theorem dX4_init_44 : decode cX4_init 44 = .ok (.iconst 0, 1) := by decide +kernel
theorem dX4_init_45 : decode cX4_init 45 = .ok (.istore_n 1, 1) := by decide +kernel
theorem dX4_init_46 : decode cX4_init 46 = .ok (.iload_n 1, 1) := by decide +kernel
theorem dX4_init_47 : decode cX4_init 47 = .ok (.sipush 4608, 3) := by decide +kernel
theorem dX4_init_50 : decode cX4_init 50 = .ok (.if_icmp .ge 16, 3) := by decide +kernel
theorem dX4_init_53 : decode cX4_init 53 = .ok (.aload_n 0, 1) := by decide +kernel
theorem dX4_init_54 : decode cX4_init 54 = .ok (.getfield 11, 3) := by decide +kernel
theorem dX4_init_57 : decode cX4_init 57 = .ok (.iload_n 1, 1) := by decide +kernel
theorem dX4_init_58 : decode cX4_init 58 = .ok (.iconst (-1), 1) := by decide +kernel
theorem dX4_init_59 : decode cX4_init 59 = .ok (.iastore, 1) := by decide +kernel
theorem dX4_init_60 : decode cX4_init 60 = .ok (.iinc 1 1, 3) := by decide +kernel
theorem dX4_init_63 : decode cX4_init 63 = .ok (.goto (-17), 3) := by decide +kernel
theorem dX4_init_66 : decode cX4_init 66 = .ok (.return_, 1) := by decide +kernel
theorem dX4_placeOf_0 : decode cX4_placeOf 0 = .ok (.iload_n 0, 1) := by decide +kernel
theorem dX4_placeOf_1 : decode cX4_placeOf 1 = .ok (.ifCond .lt 33, 3) := by decide +kernel
theorem dX4_placeOf_4 : decode cX4_placeOf 4 = .ok (.iload_n 0, 1) := by decide +kernel
theorem dX4_placeOf_5 : decode cX4_placeOf 5 = .ok (.bipush 6, 2) := by decide +kernel
theorem dX4_placeOf_7 : decode cX4_placeOf 7 = .ok (.if_icmp .ge 27, 3) := by decide +kernel
theorem dX4_placeOf_10 : decode cX4_placeOf 10 = .ok (.iload_n 1, 1) := by decide +kernel
theorem dX4_placeOf_11 : decode cX4_placeOf 11 = .ok (.ifCond .lt 23, 3) := by decide +kernel
theorem dX4_placeOf_14 : decode cX4_placeOf 14 = .ok (.iload_n 1, 1) := by decide +kernel
theorem dX4_placeOf_15 : decode cX4_placeOf 15 = .ok (.bipush 96, 2) := by decide +kernel
theorem dX4_placeOf_17 : decode cX4_placeOf 17 = .ok (.if_icmp .ge 17, 3) := by decide +kernel
theorem dX4_placeOf_20 : decode cX4_placeOf 20 = .ok (.iload_n 2, 1) := by decide +kernel
theorem dX4_placeOf_21 : decode cX4_placeOf 21 = .ok (.ifCond .lt 13, 3) := by decide +kernel
theorem dX4_placeOf_24 : decode cX4_placeOf 24 = .ok (.iload_n 2, 1) := by decide +kernel
theorem dX4_placeOf_25 : decode cX4_placeOf 25 = .ok (.bipush 8, 2) := by decide +kernel
theorem dX4_placeOf_27 : decode cX4_placeOf 27 = .ok (.if_icmp .ge 7, 3) := by decide +kernel
theorem dX4_placeOf_30 : decode cX4_placeOf 30 = .ok (.iconst 1, 1) := by decide +kernel
theorem dX4_placeOf_31 : decode cX4_placeOf 31 = .ok (.goto 4, 3) := by decide +kernel
theorem dX4_placeOf_34 : decode cX4_placeOf 34 = .ok (.iconst 0, 1) := by decide +kernel
theorem dX4_placeOf_35 : decode cX4_placeOf 35 = .ok (.istore_n 3, 1) := by decide +kernel
theorem dX4_placeOf_36 : decode cX4_placeOf 36 = .ok (.iload_n 3, 1) := by decide +kernel
theorem dX4_placeOf_37 : decode cX4_placeOf 37 = .ok (.ifCond .eq 17, 3) := by decide +kernel
theorem dX4_placeOf_40 : decode cX4_placeOf 40 = .ok (.iload_n 0, 1) := by decide +kernel
theorem dX4_placeOf_41 : decode cX4_placeOf 41 = .ok (.bipush 96, 2) := by decide +kernel
theorem dX4_placeOf_43 : decode cX4_placeOf 43 = .ok (.imul, 1) := by decide +kernel
theorem dX4_placeOf_44 : decode cX4_placeOf 44 = .ok (.iload_n 1, 1) := by decide +kernel
theorem dX4_placeOf_45 : decode cX4_placeOf 45 = .ok (.iadd, 1) := by decide +kernel
theorem dX4_placeOf_46 : decode cX4_placeOf 46 = .ok (.bipush 8, 2) := by decide +kernel
theorem dX4_placeOf_48 : decode cX4_placeOf 48 = .ok (.imul, 1) := by decide +kernel
theorem dX4_placeOf_49 : decode cX4_placeOf 49 = .ok (.iload_n 2, 1) := by decide +kernel
theorem dX4_placeOf_50 : decode cX4_placeOf 50 = .ok (.iadd, 1) := by decide +kernel
theorem dX4_placeOf_51 : decode cX4_placeOf 51 = .ok (.goto 4, 3) := by decide +kernel
theorem dX4_placeOf_54 : decode cX4_placeOf 54 = .ok (.iconst (-1), 1) := by decide +kernel
theorem dX4_placeOf_55 : decode cX4_placeOf 55 = .ok (.ireturn, 1) := by decide +kernel
theorem dX4_of_0 : decode cX4_of 0 = .ok (.iload_n 1, 1) := by decide +kernel
theorem dX4_of_1 : decode cX4_of 1 = .ok (.iload_n 2, 1) := by decide +kernel
theorem dX4_of_2 : decode cX4_of 2 = .ok (.iload_n 3, 1) := by decide +kernel
theorem dX4_of_3 : decode cX4_of 3 = .ok (.invokestatic 31, 3) := by decide +kernel
theorem dX4_of_6 : decode cX4_of 6 = .ok (.istore 4, 2) := by decide +kernel
theorem dX4_of_8 : decode cX4_of 8 = .ok (.iload 4, 2) := by decide +kernel
theorem dX4_of_10 : decode cX4_of 10 = .ok (.ifCond .lt 23, 3) := by decide +kernel
theorem dX4_of_13 : decode cX4_of 13 = .ok (.iload 4, 2) := by decide +kernel
theorem dX4_of_15 : decode cX4_of 15 = .ok (.aload_n 0, 1) := by decide +kernel
theorem dX4_of_16 : decode cX4_of 16 = .ok (.getfield 11, 3) := by decide +kernel
theorem dX4_of_19 : decode cX4_of 19 = .ok (.arraylength, 1) := by decide +kernel
theorem dX4_of_20 : decode cX4_of 20 = .ok (.if_icmp .ge 13, 3) := by decide +kernel
theorem dX4_of_23 : decode cX4_of 23 = .ok (.aload_n 0, 1) := by decide +kernel
theorem dX4_of_24 : decode cX4_of 24 = .ok (.getfield 11, 3) := by decide +kernel
theorem dX4_of_27 : decode cX4_of 27 = .ok (.iload 4, 2) := by decide +kernel
theorem dX4_of_29 : decode cX4_of 29 = .ok (.iaload, 1) := by decide +kernel
theorem dX4_of_30 : decode cX4_of 30 = .ok (.goto 4, 3) := by decide +kernel
theorem dX4_of_33 : decode cX4_of 33 = .ok (.iconst (-1), 1) := by decide +kernel
theorem dX4_of_34 : decode cX4_of 34 = .ok (.ireturn, 1) := by decide +kernel
theorem dX4_has_0 : decode cX4_has 0 = .ok (.aload_n 0, 1) := by decide +kernel
theorem dX4_has_1 : decode cX4_has 1 = .ok (.iload_n 1, 1) := by decide +kernel
theorem dX4_has_2 : decode cX4_has 2 = .ok (.iload_n 2, 1) := by decide +kernel
theorem dX4_has_3 : decode cX4_has 3 = .ok (.iload_n 3, 1) := by decide +kernel
theorem dX4_has_4 : decode cX4_has 4 = .ok (.invokevirtual 35, 3) := by decide +kernel
theorem dX4_has_7 : decode cX4_has 7 = .ok (.ifCond .lt 7, 3) := by decide +kernel
theorem dX4_has_10 : decode cX4_has 10 = .ok (.iconst 1, 1) := by decide +kernel
theorem dX4_has_11 : decode cX4_has 11 = .ok (.goto 4, 3) := by decide +kernel
theorem dX4_has_14 : decode cX4_has 14 = .ok (.iconst 0, 1) := by decide +kernel
theorem dX4_has_15 : decode cX4_has 15 = .ok (.ireturn, 1) := by decide +kernel
theorem dX4_change_0 : decode cX4_change 0 = .ok (.iload_n 1, 1) := by decide +kernel
theorem dX4_change_1 : decode cX4_change 1 = .ok (.iload_n 2, 1) := by decide +kernel
theorem dX4_change_2 : decode cX4_change 2 = .ok (.iload_n 3, 1) := by decide +kernel
theorem dX4_change_3 : decode cX4_change 3 = .ok (.invokestatic 31, 3) := by decide +kernel
theorem dX4_change_6 : decode cX4_change 6 = .ok (.istore 5, 2) := by decide +kernel
theorem dX4_change_8 : decode cX4_change 8 = .ok (.iload 5, 2) := by decide +kernel
theorem dX4_change_10 : decode cX4_change 10 = .ok (.ifCond .lt 22, 3) := by decide +kernel
theorem dX4_change_13 : decode cX4_change 13 = .ok (.iload 5, 2) := by decide +kernel
theorem dX4_change_15 : decode cX4_change 15 = .ok (.aload_n 0, 1) := by decide +kernel
theorem dX4_change_16 : decode cX4_change 16 = .ok (.getfield 11, 3) := by decide +kernel
theorem dX4_change_19 : decode cX4_change 19 = .ok (.arraylength, 1) := by decide +kernel
theorem dX4_change_20 : decode cX4_change 20 = .ok (.if_icmp .ge 12, 3) := by decide +kernel
theorem dX4_change_23 : decode cX4_change 23 = .ok (.aload_n 0, 1) := by decide +kernel
theorem dX4_change_24 : decode cX4_change 24 = .ok (.getfield 11, 3) := by decide +kernel
theorem dX4_change_27 : decode cX4_change 27 = .ok (.iload 5, 2) := by decide +kernel
theorem dX4_change_29 : decode cX4_change 29 = .ok (.iload 4, 2) := by decide +kernel
theorem dX4_change_31 : decode cX4_change 31 = .ok (.iastore, 1) := by decide +kernel
theorem dX4_change_32 : decode cX4_change 32 = .ok (.return_, 1) := by decide +kernel
theorem dX4_addToBag_0 : decode cX4_addToBag 0 = .ok (.iconst 0, 1) := by decide +kernel
theorem dX4_addToBag_1 : decode cX4_addToBag 1 = .ok (.aload_n 0, 1) := by decide +kernel
theorem dX4_addToBag_2 : decode cX4_addToBag 2 = .ok (.iconst 0, 1) := by decide +kernel
theorem dX4_addToBag_3 : decode cX4_addToBag 3 = .ok (.iload_n 1, 1) := by decide +kernel
theorem dX4_addToBag_4 : decode cX4_addToBag 4 = .ok (.iload_n 2, 1) := by decide +kernel
theorem dX4_addToBag_5 : decode cX4_addToBag 5 = .ok (.invokevirtual 35, 3) := by decide +kernel
theorem dX4_addToBag_8 : decode cX4_addToBag 8 = .ok (.invokestatic 38, 3) := by decide +kernel
theorem dX4_addToBag_11 : decode cX4_addToBag 11 = .ok (.istore 4, 2) := by decide +kernel
theorem dX4_addToBag_13 : decode cX4_addToBag 13 = .ok (.aload_n 0, 1) := by decide +kernel
theorem dX4_addToBag_14 : decode cX4_addToBag 14 = .ok (.iconst 0, 1) := by decide +kernel
theorem dX4_addToBag_15 : decode cX4_addToBag 15 = .ok (.iload_n 1, 1) := by decide +kernel
theorem dX4_addToBag_16 : decode cX4_addToBag 16 = .ok (.iload_n 2, 1) := by decide +kernel
theorem dX4_addToBag_17 : decode cX4_addToBag 17 = .ok (.sipush 999, 3) := by decide +kernel
theorem dX4_addToBag_20 : decode cX4_addToBag 20 = .ok (.iload 4, 2) := by decide +kernel
theorem dX4_addToBag_22 : decode cX4_addToBag 22 = .ok (.iload_n 3, 1) := by decide +kernel
theorem dX4_addToBag_23 : decode cX4_addToBag 23 = .ok (.iadd, 1) := by decide +kernel
theorem dX4_addToBag_24 : decode cX4_addToBag 24 = .ok (.invokestatic 44, 3) := by decide +kernel
theorem dX4_addToBag_27 : decode cX4_addToBag 27 = .ok (.invokevirtual 47, 3) := by decide +kernel
theorem dX4_addToBag_30 : decode cX4_addToBag 30 = .ok (.return_, 1) := by decide +kernel
theorem dX4_draw_0 : decode cX4_draw 0 = .ok (.aload_n 0, 1) := by decide +kernel
theorem dX4_draw_1 : decode cX4_draw 1 = .ok (.aload_n 0, 1) := by decide +kernel
theorem dX4_draw_2 : decode cX4_draw 2 = .ok (.getfield 27, 3) := by decide +kernel
theorem dX4_draw_5 : decode cX4_draw 5 = .ok (.ldc 51, 2) := by decide +kernel
theorem dX4_draw_7 : decode cX4_draw 7 = .ok (.imul, 1) := by decide +kernel
theorem dX4_draw_8 : decode cX4_draw 8 = .ok (.sipush 12345, 3) := by decide +kernel
theorem dX4_draw_11 : decode cX4_draw 11 = .ok (.iadd, 1) := by decide +kernel
theorem dX4_draw_12 : decode cX4_draw 12 = .ok (.putfield 27, 3) := by decide +kernel
theorem dX4_draw_15 : decode cX4_draw 15 = .ok (.iload_n 1, 1) := by decide +kernel
theorem dX4_draw_16 : decode cX4_draw 16 = .ok (.ifCond .le 15, 3) := by decide +kernel
theorem dX4_draw_19 : decode cX4_draw 19 = .ok (.aload_n 0, 1) := by decide +kernel
theorem dX4_draw_20 : decode cX4_draw 20 = .ok (.getfield 27, 3) := by decide +kernel
theorem dX4_draw_23 : decode cX4_draw 23 = .ok (.bipush 16, 2) := by decide +kernel
theorem dX4_draw_25 : decode cX4_draw 25 = .ok (.iushr, 1) := by decide +kernel
theorem dX4_draw_26 : decode cX4_draw 26 = .ok (.iload_n 1, 1) := by decide +kernel
theorem dX4_draw_27 : decode cX4_draw 27 = .ok (.irem, 1) := by decide +kernel
theorem dX4_draw_28 : decode cX4_draw 28 = .ok (.goto 4, 3) := by decide +kernel
theorem dX4_draw_31 : decode cX4_draw 31 = .ok (.iconst 0, 1) := by decide +kernel
theorem dX4_draw_32 : decode cX4_draw 32 = .ok (.ireturn, 1) := by decide +kernel
theorem dX4_reseed_0 : decode cX4_reseed 0 = .ok (.aload_n 0, 1) := by decide +kernel
theorem dX4_reseed_1 : decode cX4_reseed 1 = .ok (.getfield 27, 3) := by decide +kernel
theorem dX4_reseed_4 : decode cX4_reseed 4 = .ok (.istore_n 2, 1) := by decide +kernel
theorem dX4_reseed_5 : decode cX4_reseed 5 = .ok (.aload_n 0, 1) := by decide +kernel
theorem dX4_reseed_6 : decode cX4_reseed 6 = .ok (.iload_n 1, 1) := by decide +kernel
theorem dX4_reseed_7 : decode cX4_reseed 7 = .ok (.putfield 27, 3) := by decide +kernel
theorem dX4_reseed_10 : decode cX4_reseed 10 = .ok (.iload_n 2, 1) := by decide +kernel
theorem dX4_reseed_11 : decode cX4_reseed 11 = .ok (.ireturn, 1) := by decide +kernel
theorem dX4_store_0 : decode cX4_store 0 = .ok (.iload_n 1, 1) := by decide +kernel
theorem dX4_store_1 : decode cX4_store 1 = .ok (.ifCond .lt 8, 3) := by decide +kernel
theorem dX4_store_4 : decode cX4_store 4 = .ok (.iload_n 1, 1) := by decide +kernel
theorem dX4_store_5 : decode cX4_store 5 = .ok (.iconst 3, 1) := by decide +kernel
theorem dX4_store_6 : decode cX4_store 6 = .ok (.if_icmp .lt 5, 3) := by decide +kernel
theorem dX4_store_9 : decode cX4_store 9 = .ok (.iconst 0, 1) := by decide +kernel
theorem dX4_store_10 : decode cX4_store 10 = .ok (.ireturn, 1) := by decide +kernel
theorem dX4_store_11 : decode cX4_store 11 = .ok (.aload_n 0, 1) := by decide +kernel
theorem dX4_store_12 : decode cX4_store 12 = .ok (.getfield 11, 3) := by decide +kernel
theorem dX4_store_15 : decode cX4_store 15 = .ok (.iconst 0, 1) := by decide +kernel
theorem dX4_store_16 : decode cX4_store 16 = .ok (.aload_n 0, 1) := by decide +kernel
theorem dX4_store_17 : decode cX4_store 17 = .ok (.getfield 17, 3) := by decide +kernel
theorem dX4_store_20 : decode cX4_store 20 = .ok (.iload_n 1, 1) := by decide +kernel
theorem dX4_store_21 : decode cX4_store 21 = .ok (.aaload, 1) := by decide +kernel
theorem dX4_store_22 : decode cX4_store 22 = .ok (.iconst 0, 1) := by decide +kernel
theorem dX4_store_23 : decode cX4_store 23 = .ok (.sipush 4608, 3) := by decide +kernel
theorem dX4_store_26 : decode cX4_store 26 = .ok (.invokestatic 52, 3) := by decide +kernel
theorem dX4_store_29 : decode cX4_store 29 = .ok (.aload_n 0, 1) := by decide +kernel
theorem dX4_store_30 : decode cX4_store 30 = .ok (.getfield 20, 3) := by decide +kernel
theorem dX4_store_33 : decode cX4_store 33 = .ok (.iload_n 1, 1) := by decide +kernel
theorem dX4_store_34 : decode cX4_store 34 = .ok (.aload_n 0, 1) := by decide +kernel
theorem dX4_store_35 : decode cX4_store 35 = .ok (.getfield 27, 3) := by decide +kernel
theorem dX4_store_38 : decode cX4_store 38 = .ok (.iastore, 1) := by decide +kernel
theorem dX4_store_39 : decode cX4_store 39 = .ok (.aload_n 0, 1) := by decide +kernel
theorem dX4_store_40 : decode cX4_store 40 = .ok (.getfield 23, 3) := by decide +kernel
theorem dX4_store_43 : decode cX4_store 43 = .ok (.iload_n 1, 1) := by decide +kernel
theorem dX4_store_44 : decode cX4_store 44 = .ok (.iconst 1, 1) := by decide +kernel
theorem dX4_store_45 : decode cX4_store 45 = .ok (.bastore, 1) := by decide +kernel
theorem dX4_store_46 : decode cX4_store 46 = .ok (.iconst 1, 1) := by decide +kernel
theorem dX4_store_47 : decode cX4_store 47 = .ok (.ireturn, 1) := by decide +kernel
theorem dX4_restore_0 : decode cX4_restore 0 = .ok (.iload_n 1, 1) := by decide +kernel
theorem dX4_restore_1 : decode cX4_restore 1 = .ok (.ifCond .lt 17, 3) := by decide +kernel
theorem dX4_restore_4 : decode cX4_restore 4 = .ok (.iload_n 1, 1) := by decide +kernel
theorem dX4_restore_5 : decode cX4_restore 5 = .ok (.iconst 3, 1) := by decide +kernel
theorem dX4_restore_6 : decode cX4_restore 6 = .ok (.if_icmp .ge 12, 3) := by decide +kernel
theorem dX4_restore_9 : decode cX4_restore 9 = .ok (.aload_n 0, 1) := by decide +kernel
theorem dX4_restore_10 : decode cX4_restore 10 = .ok (.getfield 23, 3) := by decide +kernel
theorem dX4_restore_13 : decode cX4_restore 13 = .ok (.iload_n 1, 1) := by decide +kernel
theorem dX4_restore_14 : decode cX4_restore 14 = .ok (.baload, 1) := by decide +kernel
theorem dX4_restore_15 : decode cX4_restore 15 = .ok (.ifCond .ne 5, 3) := by decide +kernel
theorem dX4_restore_18 : decode cX4_restore 18 = .ok (.iconst 0, 1) := by decide +kernel
theorem dX4_restore_19 : decode cX4_restore 19 = .ok (.ireturn, 1) := by decide +kernel
theorem dX4_restore_20 : decode cX4_restore 20 = .ok (.aload_n 0, 1) := by decide +kernel
theorem dX4_restore_21 : decode cX4_restore 21 = .ok (.getfield 17, 3) := by decide +kernel
theorem dX4_restore_24 : decode cX4_restore 24 = .ok (.iload_n 1, 1) := by decide +kernel
theorem dX4_restore_25 : decode cX4_restore 25 = .ok (.aaload, 1) := by decide +kernel
theorem dX4_restore_26 : decode cX4_restore 26 = .ok (.iconst 0, 1) := by decide +kernel
theorem dX4_restore_27 : decode cX4_restore 27 = .ok (.aload_n 0, 1) := by decide +kernel
theorem dX4_restore_28 : decode cX4_restore 28 = .ok (.getfield 11, 3) := by decide +kernel
theorem dX4_restore_31 : decode cX4_restore 31 = .ok (.iconst 0, 1) := by decide +kernel
theorem dX4_restore_32 : decode cX4_restore 32 = .ok (.sipush 4608, 3) := by decide +kernel
theorem dX4_restore_35 : decode cX4_restore 35 = .ok (.invokestatic 52, 3) := by decide +kernel
theorem dX4_restore_38 : decode cX4_restore 38 = .ok (.aload_n 0, 1) := by decide +kernel
theorem dX4_restore_39 : decode cX4_restore 39 = .ok (.aload_n 0, 1) := by decide +kernel
theorem dX4_restore_40 : decode cX4_restore 40 = .ok (.getfield 20, 3) := by decide +kernel
theorem dX4_restore_43 : decode cX4_restore 43 = .ok (.iload_n 1, 1) := by decide +kernel
theorem dX4_restore_44 : decode cX4_restore 44 = .ok (.iaload, 1) := by decide +kernel
theorem dX4_restore_45 : decode cX4_restore 45 = .ok (.putfield 27, 3) := by decide +kernel
theorem dX4_restore_48 : decode cX4_restore 48 = .ok (.iconst 1, 1) := by decide +kernel
theorem dX4_restore_49 : decode cX4_restore 49 = .ok (.ireturn, 1) := by decide +kernel
theorem dX4_size_0 : decode cX4_size 0 = .ok (.iconst 0, 1) := by decide +kernel
theorem dX4_size_1 : decode cX4_size 1 = .ok (.istore_n 1, 1) := by decide +kernel
theorem dX4_size_2 : decode cX4_size 2 = .ok (.iconst 0, 1) := by decide +kernel
theorem dX4_size_3 : decode cX4_size 3 = .ok (.istore_n 2, 1) := by decide +kernel
theorem dX4_size_4 : decode cX4_size 4 = .ok (.iload_n 2, 1) := by decide +kernel
theorem dX4_size_5 : decode cX4_size 5 = .ok (.sipush 4608, 3) := by decide +kernel
theorem dX4_size_8 : decode cX4_size 8 = .ok (.if_icmp .ge 21, 3) := by decide +kernel
theorem dX4_size_11 : decode cX4_size 11 = .ok (.aload_n 0, 1) := by decide +kernel
theorem dX4_size_12 : decode cX4_size 12 = .ok (.getfield 11, 3) := by decide +kernel
theorem dX4_size_15 : decode cX4_size 15 = .ok (.iload_n 2, 1) := by decide +kernel
theorem dX4_size_16 : decode cX4_size 16 = .ok (.iaload, 1) := by decide +kernel
theorem dX4_size_17 : decode cX4_size 17 = .ok (.ifCond .lt 6, 3) := by decide +kernel
theorem dX4_size_20 : decode cX4_size 20 = .ok (.iinc 1 1, 3) := by decide +kernel
theorem dX4_size_23 : decode cX4_size 23 = .ok (.iinc 2 1, 3) := by decide +kernel
theorem dX4_size_26 : decode cX4_size 26 = .ok (.goto (-22), 3) := by decide +kernel
theorem dX4_size_29 : decode cX4_size 29 = .ok (.iload_n 1, 1) := by decide +kernel
theorem dX4_size_30 : decode cX4_size 30 = .ok (.ireturn, 1) := by decide +kernel
theorem dX5_init_0 : decode cX5_init 0 = .ok (.aload_n 0, 1) := by decide +kernel
theorem dX5_init_1 : decode cX5_init 1 = .ok (.invokespecial 3, 3) := by decide +kernel
theorem dX5_init_4 : decode cX5_init 4 = .ok (.aload_n 0, 1) := by decide +kernel
theorem dX5_init_5 : decode cX5_init 5 = .ok (.bipush 8, 2) := by decide +kernel
theorem dX5_init_7 : decode cX5_init 7 = .ok (.newarray .long, 2) := by decide +kernel
theorem dX5_init_9 : decode cX5_init 9 = .ok (.putfield 9, 3) := by decide +kernel
theorem dX5_init_12 : decode cX5_init 12 = .ok (.return_, 1) := by decide +kernel
theorem dX5_clear_0 : decode cX5_clear 0 = .ok (.aload_n 0, 1) := by decide +kernel
theorem dX5_clear_1 : decode cX5_clear 1 = .ok (.iconst 0, 1) := by decide +kernel
theorem dX5_clear_2 : decode cX5_clear 2 = .ok (.putfield 15, 3) := by decide +kernel
theorem dX5_clear_5 : decode cX5_clear 5 = .ok (.aload_n 0, 1) := by decide +kernel
theorem dX5_clear_6 : decode cX5_clear 6 = .ok (.areturn, 1) := by decide +kernel
theorem dX5_add_0 : decode cX5_add 0 = .ok (.aload_n 0, 1) := by decide +kernel
theorem dX5_add_1 : decode cX5_add 1 = .ok (.getfield 15, 3) := by decide +kernel
theorem dX5_add_4 : decode cX5_add 4 = .ok (.aload_n 0, 1) := by decide +kernel
theorem dX5_add_5 : decode cX5_add 5 = .ok (.getfield 9, 3) := by decide +kernel
theorem dX5_add_8 : decode cX5_add 8 = .ok (.arraylength, 1) := by decide +kernel
theorem dX5_add_9 : decode cX5_add 9 = .ok (.if_icmp .ge 23, 3) := by decide +kernel
theorem dX5_add_12 : decode cX5_add 12 = .ok (.aload_n 0, 1) := by decide +kernel
theorem dX5_add_13 : decode cX5_add 13 = .ok (.getfield 9, 3) := by decide +kernel
theorem dX5_add_16 : decode cX5_add 16 = .ok (.aload_n 0, 1) := by decide +kernel
theorem dX5_add_17 : decode cX5_add 17 = .ok (.getfield 15, 3) := by decide +kernel
theorem dX5_add_20 : decode cX5_add 20 = .ok (.lload_n 1, 1) := by decide +kernel
theorem dX5_add_21 : decode cX5_add 21 = .ok (.lastore, 1) := by decide +kernel
theorem dX5_add_22 : decode cX5_add 22 = .ok (.aload_n 0, 1) := by decide +kernel
theorem dX5_add_23 : decode cX5_add 23 = .ok (.dup, 1) := by decide +kernel
theorem dX5_add_24 : decode cX5_add 24 = .ok (.getfield 15, 3) := by decide +kernel
theorem dX5_add_27 : decode cX5_add 27 = .ok (.iconst 1, 1) := by decide +kernel
theorem dX5_add_28 : decode cX5_add 28 = .ok (.iadd, 1) := by decide +kernel
theorem dX5_add_29 : decode cX5_add 29 = .ok (.putfield 15, 3) := by decide +kernel
theorem dX5_add_32 : decode cX5_add 32 = .ok (.aload_n 0, 1) := by decide +kernel
theorem dX5_add_33 : decode cX5_add 33 = .ok (.areturn, 1) := by decide +kernel
theorem dX5_addFraction_0 : decode cX5_addFraction 0 = .ok (.lload_n 1, 1) := by decide +kernel
theorem dX5_addFraction_1 : decode cX5_addFraction 1 = .ok (.lload_n 3, 1) := by decide +kernel
theorem dX5_addFraction_2 : decode cX5_addFraction 2 = .ok (.invokestatic 19, 3) := by decide +kernel
theorem dX5_addFraction_5 : decode cX5_addFraction 5 = .ok (.lstore 5, 2) := by decide +kernel
theorem dX5_addFraction_7 : decode cX5_addFraction 7 = .ok (.lload 5, 2) := by decide +kernel
theorem dX5_addFraction_9 : decode cX5_addFraction 9 = .ok (.lconst 0, 1) := by decide +kernel
theorem dX5_addFraction_10 : decode cX5_addFraction 10 = .ok (.lcmp, 1) := by decide +kernel
theorem dX5_addFraction_11 : decode cX5_addFraction 11 = .ok (.ifCond .ne 5, 3) := by decide +kernel
theorem dX5_addFraction_14 : decode cX5_addFraction 14 = .ok (.aload_n 0, 1) := by decide +kernel
theorem dX5_addFraction_15 : decode cX5_addFraction 15 = .ok (.areturn, 1) := by decide +kernel
theorem dX5_addFraction_16 : decode cX5_addFraction 16 = .ok (.lload_n 3, 1) := by decide +kernel
theorem dX5_addFraction_17 : decode cX5_addFraction 17 = .ok (.lconst 0, 1) := by decide +kernel
theorem dX5_addFraction_18 : decode cX5_addFraction 18 = .ok (.lcmp, 1) := by decide +kernel
theorem dX5_addFraction_19 : decode cX5_addFraction 19 = .ok (.ifCond .ge 9, 3) := by decide +kernel
theorem dX5_addFraction_22 : decode cX5_addFraction 22 = .ok (.lload 5, 2) := by decide +kernel
theorem dX5_addFraction_24 : decode cX5_addFraction 24 = .ok (.lneg, 1) := by decide +kernel
theorem dX5_addFraction_25 : decode cX5_addFraction 25 = .ok (.goto 5, 3) := by decide +kernel
theorem dX5_addFraction_28 : decode cX5_addFraction 28 = .ok (.lload 5, 2) := by decide +kernel
theorem dX5_addFraction_30 : decode cX5_addFraction 30 = .ok (.lstore 7, 2) := by decide +kernel
theorem dX5_addFraction_32 : decode cX5_addFraction 32 = .ok (.aload_n 0, 1) := by decide +kernel
theorem dX5_addFraction_33 : decode cX5_addFraction 33 = .ok (.lload_n 1, 1) := by decide +kernel
theorem dX5_addFraction_34 : decode cX5_addFraction 34 = .ok (.lload 7, 2) := by decide +kernel
theorem dX5_addFraction_36 : decode cX5_addFraction 36 = .ok (.ldiv, 1) := by decide +kernel
theorem dX5_addFraction_37 : decode cX5_addFraction 37 = .ok (.invokevirtual 23, 3) := by decide +kernel
theorem dX5_addFraction_40 : decode cX5_addFraction 40 = .ok (.lload_n 3, 1) := by decide +kernel
theorem dX5_addFraction_41 : decode cX5_addFraction 41 = .ok (.lload 7, 2) := by decide +kernel
theorem dX5_addFraction_43 : decode cX5_addFraction 43 = .ok (.ldiv, 1) := by decide +kernel
theorem dX5_addFraction_44 : decode cX5_addFraction 44 = .ok (.invokevirtual 23, 3) := by decide +kernel
theorem dX5_addFraction_47 : decode cX5_addFraction 47 = .ok (.areturn, 1) := by decide +kernel
theorem dX5_has_0 : decode cX5_has 0 = .ok (.iload_n 1, 1) := by decide +kernel
theorem dX5_has_1 : decode cX5_has 1 = .ok (.ifCond .lt 15, 3) := by decide +kernel
theorem dX5_has_4 : decode cX5_has 4 = .ok (.iload_n 1, 1) := by decide +kernel
theorem dX5_has_5 : decode cX5_has 5 = .ok (.aload_n 0, 1) := by decide +kernel
theorem dX5_has_6 : decode cX5_has 6 = .ok (.getfield 15, 3) := by decide +kernel
theorem dX5_has_9 : decode cX5_has 9 = .ok (.if_icmp .ge 7, 3) := by decide +kernel
theorem dX5_has_12 : decode cX5_has 12 = .ok (.iconst 1, 1) := by decide +kernel
theorem dX5_has_13 : decode cX5_has 13 = .ok (.goto 4, 3) := by decide +kernel
theorem dX5_has_16 : decode cX5_has 16 = .ok (.iconst 0, 1) := by decide +kernel
theorem dX5_has_17 : decode cX5_has 17 = .ok (.ireturn, 1) := by decide +kernel
theorem dX5_at_0 : decode cX5_at 0 = .ok (.aload_n 0, 1) := by decide +kernel
theorem dX5_at_1 : decode cX5_at 1 = .ok (.iload_n 1, 1) := by decide +kernel
theorem dX5_at_2 : decode cX5_at 2 = .ok (.invokevirtual 27, 3) := by decide +kernel
theorem dX5_at_5 : decode cX5_at 5 = .ok (.ifCond .eq 12, 3) := by decide +kernel
theorem dX5_at_8 : decode cX5_at 8 = .ok (.aload_n 0, 1) := by decide +kernel
theorem dX5_at_9 : decode cX5_at 9 = .ok (.getfield 9, 3) := by decide +kernel
theorem dX5_at_12 : decode cX5_at 12 = .ok (.iload_n 1, 1) := by decide +kernel
theorem dX5_at_13 : decode cX5_at 13 = .ok (.laload, 1) := by decide +kernel
theorem dX5_at_14 : decode cX5_at 14 = .ok (.goto 4, 3) := by decide +kernel
theorem dX5_at_17 : decode cX5_at 17 = .ok (.lconst 0, 1) := by decide +kernel
theorem dX5_at_18 : decode cX5_at 18 = .ok (.lreturn, 1) := by decide +kernel
theorem dX5_size_0 : decode cX5_size 0 = .ok (.aload_n 0, 1) := by decide +kernel
theorem dX5_size_1 : decode cX5_size 1 = .ok (.getfield 15, 3) := by decide +kernel
theorem dX5_size_4 : decode cX5_size 4 = .ok (.ireturn, 1) := by decide +kernel
theorem dX6_init_0 : decode cX6_init 0 = .ok (.aload_n 0, 1) := by decide +kernel
theorem dX6_init_1 : decode cX6_init 1 = .ok (.invokespecial 3, 3) := by decide +kernel
theorem dX6_init_4 : decode cX6_init 4 = .ok (.aload_n 0, 1) := by decide +kernel
theorem dX6_init_5 : decode cX6_init 5 = .ok (.bipush 12, 2) := by decide +kernel
theorem dX6_init_7 : decode cX6_init 7 = .ok (.newarray .int, 2) := by decide +kernel
theorem dX6_init_9 : decode cX6_init 9 = .ok (.putfield 9, 3) := by decide +kernel
theorem dX6_init_12 : decode cX6_init 12 = .ok (.aload_n 0, 1) := by decide +kernel
theorem dX6_init_13 : decode cX6_init 13 = .ok (.bipush 12, 2) := by decide +kernel
theorem dX6_init_15 : decode cX6_init 15 = .ok (.newarray .int, 2) := by decide +kernel
theorem dX6_init_17 : decode cX6_init 17 = .ok (.putfield 15, 3) := by decide +kernel
theorem dX6_init_20 : decode cX6_init 20 = .ok (.aload_n 0, 1) := by decide +kernel
theorem dX6_init_21 : decode cX6_init 21 = .ok (.bipush 12, 2) := by decide +kernel
theorem dX6_init_23 : decode cX6_init 23 = .ok (.newarray .long, 2) := by decide +kernel
theorem dX6_init_25 : decode cX6_init 25 = .ok (.putfield 18, 3) := by decide +kernel
theorem dX6_init_28 : decode cX6_init 28 = .ok (.aload_n 0, 1) := by decide +kernel
theorem dX6_init_29 : decode cX6_init 29 = .ok (.bipush 13, 2) := by decide +kernel
theorem dX6_init_31 : decode cX6_init 31 = .ok (.newarray .int, 2) := by decide +kernel
theorem dX6_init_33 : decode cX6_init 33 = .ok (.putfield 22, 3) := by decide +kernel
theorem dX6_init_36 : decode cX6_init 36 = .ok (.aload_n 0, 1) := by decide +kernel
theorem dX6_init_37 : decode cX6_init 37 = .ok (.bipush 13, 2) := by decide +kernel
theorem dX6_init_39 : decode cX6_init 39 = .ok (.newarray .int, 2) := by decide +kernel
theorem dX6_init_41 : decode cX6_init 41 = .ok (.putfield 25, 3) := by decide +kernel
theorem dX6_init_44 : decode cX6_init 44 = .ok (.aload_n 0, 1) := by decide +kernel
theorem dX6_init_45 : decode cX6_init 45 = .ok (.iconst 4, 1) := by decide +kernel
theorem dX6_init_46 : decode cX6_init 46 = .ok (.newarray .long, 2) := by decide +kernel
theorem dX6_init_48 : decode cX6_init 48 = .ok (.putfield 28, 3) := by decide +kernel
theorem dX6_init_51 : decode cX6_init 51 = .ok (.aload_n 0, 1) := by decide +kernel
theorem dX6_init_52 : decode cX6_init 52 = .ok (.iconst 4, 1) := by decide +kernel
theorem dX6_init_53 : decode cX6_init 53 = .ok (.newarray .long, 2) := by decide +kernel
theorem dX6_init_55 : decode cX6_init 55 = .ok (.putfield 31, 3) := by decide +kernel
theorem dX6_init_58 : decode cX6_init 58 = .ok (.aload_n 0, 1) := by decide +kernel
theorem dX6_init_59 : decode cX6_init 59 = .ok (.aload_n 1, 1) := by decide +kernel
theorem dX6_init_60 : decode cX6_init 60 = .ok (.putfield 34, 3) := by decide +kernel
theorem dX6_init_63 : decode cX6_init 63 = .ok (.aload_n 0, 1) := by decide +kernel
theorem dX6_init_64 : decode cX6_init 64 = .ok (.aload_n 2, 1) := by decide +kernel
theorem dX6_init_65 : decode cX6_init 65 = .ok (.putfield 38, 3) := by decide +kernel
theorem dX6_init_68 : decode cX6_init 68 = .ok (.aload_n 0, 1) := by decide +kernel
theorem dX6_init_69 : decode cX6_init 69 = .ok (.aload_n 3, 1) := by decide +kernel
theorem dX6_init_70 : decode cX6_init 70 = .ok (.putfield 42, 3) := by decide +kernel
theorem dX6_init_73 : decode cX6_init 73 = .ok (.return_, 1) := by decide +kernel
theorem dX6_cameAndWent_0 : decode cX6_cameAndWent 0 = .ok (.aload_n 0, 1) := by decide +kernel
theorem dX6_cameAndWent_1 : decode cX6_cameAndWent 1 = .ok (.getfield 34, 3) := by decide +kernel
theorem dX6_cameAndWent_4 : decode cX6_cameAndWent 4 = .ok (.iload_n 1, 1) := by decide +kernel
theorem dX6_cameAndWent_5 : decode cX6_cameAndWent 5 = .ok (.invokevirtual 46, 3) := by decide +kernel
theorem dX6_cameAndWent_8 : decode cX6_cameAndWent 8 = .ok (.ifCond .eq 10, 3) := by decide +kernel
theorem dX6_cameAndWent_11 : decode cX6_cameAndWent 11 = .ok (.iload_n 2, 1) := by decide +kernel
theorem dX6_cameAndWent_12 : decode cX6_cameAndWent 12 = .ok (.invokestatic 52, 3) := by decide +kernel
theorem dX6_cameAndWent_15 : decode cX6_cameAndWent 15 = .ok (.ifCond .ne 5, 3) := by decide +kernel
theorem dX6_cameAndWent_18 : decode cX6_cameAndWent 18 = .ok (.iconst (-1), 1) := by decide +kernel
theorem dX6_cameAndWent_19 : decode cX6_cameAndWent 19 = .ok (.ireturn, 1) := by decide +kernel
theorem dX6_cameAndWent_20 : decode cX6_cameAndWent 20 = .ok (.iconst 0, 1) := by decide +kernel
theorem dX6_cameAndWent_21 : decode cX6_cameAndWent 21 = .ok (.istore_n 3, 1) := by decide +kernel
theorem dX6_cameAndWent_22 : decode cX6_cameAndWent 22 = .ok (.iconst 0, 1) := by decide +kernel
theorem dX6_cameAndWent_23 : decode cX6_cameAndWent 23 = .ok (.istore 4, 2) := by decide +kernel
theorem dX6_cameAndWent_25 : decode cX6_cameAndWent 25 = .ok (.iconst 0, 1) := by decide +kernel
theorem dX6_cameAndWent_26 : decode cX6_cameAndWent 26 = .ok (.istore 5, 2) := by decide +kernel
theorem dX6_cameAndWent_28 : decode cX6_cameAndWent 28 = .ok (.iconst 0, 1) := by decide +kernel
theorem dX6_cameAndWent_29 : decode cX6_cameAndWent 29 = .ok (.istore 6, 2) := by decide +kernel
theorem dX6_cameAndWent_31 : decode cX6_cameAndWent 31 = .ok (.iconst 0, 1) := by decide +kernel
theorem dX6_cameAndWent_32 : decode cX6_cameAndWent 32 = .ok (.istore 7, 2) := by decide +kernel
theorem dX6_cameAndWent_34 : decode cX6_cameAndWent 34 = .ok (.iload 7, 2) := by decide +kernel
theorem dX6_cameAndWent_36 : decode cX6_cameAndWent 36 = .ok (.aload_n 0, 1) := by decide +kernel
theorem dX6_cameAndWent_37 : decode cX6_cameAndWent 37 = .ok (.getfield 34, 3) := by decide +kernel
theorem dX6_cameAndWent_40 : decode cX6_cameAndWent 40 = .ok (.invokevirtual 55, 3) := by decide +kernel
theorem dX6_cameAndWent_43 : decode cX6_cameAndWent 43 = .ok (.if_icmp .ge 168, 3) := by decide +kernel
theorem dX6_cameAndWent_46 : decode cX6_cameAndWent 46 = .ok (.bipush 12, 2) := by decide +kernel
theorem dX6_cameAndWent_48 : decode cX6_cameAndWent 48 = .ok (.iload 7, 2) := by decide +kernel
theorem dX6_cameAndWent_50 : decode cX6_cameAndWent 50 = .ok (.imul, 1) := by decide +kernel
theorem dX6_cameAndWent_51 : decode cX6_cameAndWent 51 = .ok (.iload_n 2, 1) := by decide +kernel
theorem dX6_cameAndWent_52 : decode cX6_cameAndWent 52 = .ok (.iadd, 1) := by decide +kernel
theorem dX6_cameAndWent_53 : decode cX6_cameAndWent 53 = .ok (.istore 8, 2) := by decide +kernel
theorem dX6_cameAndWent_55 : decode cX6_cameAndWent 55 = .ok (.aload_n 0, 1) := by decide +kernel
theorem dX6_cameAndWent_56 : decode cX6_cameAndWent 56 = .ok (.getfield 38, 3) := by decide +kernel
theorem dX6_cameAndWent_59 : decode cX6_cameAndWent 59 = .ok (.iconst 0, 1) := by decide +kernel
theorem dX6_cameAndWent_60 : decode cX6_cameAndWent 60 = .ok (.iload 8, 2) := by decide +kernel
theorem dX6_cameAndWent_62 : decode cX6_cameAndWent 62 = .ok (.iload_n 1, 1) := by decide +kernel
theorem dX6_cameAndWent_63 : decode cX6_cameAndWent 63 = .ok (.invokevirtual 59, 3) := by decide +kernel
theorem dX6_cameAndWent_66 : decode cX6_cameAndWent 66 = .ok (.ifCond .eq 139, 3) := by decide +kernel
theorem dX6_cameAndWent_69 : decode cX6_cameAndWent 69 = .ok (.aload_n 0, 1) := by decide +kernel
theorem dX6_cameAndWent_70 : decode cX6_cameAndWent 70 = .ok (.getfield 38, 3) := by decide +kernel
theorem dX6_cameAndWent_73 : decode cX6_cameAndWent 73 = .ok (.iconst 1, 1) := by decide +kernel
theorem dX6_cameAndWent_74 : decode cX6_cameAndWent 74 = .ok (.iload 8, 2) := by decide +kernel
theorem dX6_cameAndWent_76 : decode cX6_cameAndWent 76 = .ok (.iload_n 1, 1) := by decide +kernel
theorem dX6_cameAndWent_77 : decode cX6_cameAndWent 77 = .ok (.invokevirtual 59, 3) := by decide +kernel
theorem dX6_cameAndWent_80 : decode cX6_cameAndWent 80 = .ok (.ifCond .eq 125, 3) := by decide +kernel
theorem dX6_cameAndWent_83 : decode cX6_cameAndWent 83 = .ok (.aload_n 0, 1) := by decide +kernel
theorem dX6_cameAndWent_84 : decode cX6_cameAndWent 84 = .ok (.getfield 38, 3) := by decide +kernel
theorem dX6_cameAndWent_87 : decode cX6_cameAndWent 87 = .ok (.iconst 0, 1) := by decide +kernel
theorem dX6_cameAndWent_88 : decode cX6_cameAndWent 88 = .ok (.iload 8, 2) := by decide +kernel
theorem dX6_cameAndWent_90 : decode cX6_cameAndWent 90 = .ok (.iload_n 1, 1) := by decide +kernel
theorem dX6_cameAndWent_91 : decode cX6_cameAndWent 91 = .ok (.invokevirtual 65, 3) := by decide +kernel
theorem dX6_cameAndWent_94 : decode cX6_cameAndWent 94 = .ok (.istore 9, 2) := by decide +kernel
theorem dX6_cameAndWent_96 : decode cX6_cameAndWent 96 = .ok (.aload_n 0, 1) := by decide +kernel
theorem dX6_cameAndWent_97 : decode cX6_cameAndWent 97 = .ok (.getfield 38, 3) := by decide +kernel
theorem dX6_cameAndWent_100 : decode cX6_cameAndWent 100 = .ok (.iconst 1, 1) := by decide +kernel
theorem dX6_cameAndWent_101 : decode cX6_cameAndWent 101 = .ok (.iload 8, 2) := by decide +kernel
theorem dX6_cameAndWent_103 : decode cX6_cameAndWent 103 = .ok (.iload_n 1, 1) := by decide +kernel
theorem dX6_cameAndWent_104 : decode cX6_cameAndWent 104 = .ok (.invokevirtual 65, 3) := by decide +kernel
theorem dX6_cameAndWent_107 : decode cX6_cameAndWent 107 = .ok (.istore 10, 2) := by decide +kernel
theorem dX6_cameAndWent_109 : decode cX6_cameAndWent 109 = .ok (.iload 10, 2) := by decide +kernel
theorem dX6_cameAndWent_111 : decode cX6_cameAndWent 111 = .ok (.aload_n 0, 1) := by decide +kernel
theorem dX6_cameAndWent_112 : decode cX6_cameAndWent 112 = .ok (.getfield 34, 3) := by decide +kernel
theorem dX6_cameAndWent_115 : decode cX6_cameAndWent 115 = .ok (.iload_n 1, 1) := by decide +kernel
theorem dX6_cameAndWent_116 : decode cX6_cameAndWent 116 = .ok (.invokevirtual 69, 3) := by decide +kernel
theorem dX6_cameAndWent_119 : decode cX6_cameAndWent 119 = .ok (.imul, 1) := by decide +kernel
theorem dX6_cameAndWent_120 : decode cX6_cameAndWent 120 = .ok (.bipush 100, 2) := by decide +kernel
theorem dX6_cameAndWent_122 : decode cX6_cameAndWent 122 = .ok (.idiv, 1) := by decide +kernel
theorem dX6_cameAndWent_123 : decode cX6_cameAndWent 123 = .ok (.istore 11, 2) := by decide +kernel
theorem dX6_cameAndWent_125 : decode cX6_cameAndWent 125 = .ok (.iload_n 3, 1) := by decide +kernel
theorem dX6_cameAndWent_126 : decode cX6_cameAndWent 126 = .ok (.iload 9, 2) := by decide +kernel
theorem dX6_cameAndWent_128 : decode cX6_cameAndWent 128 = .ok (.iload 10, 2) := by decide +kernel
theorem dX6_cameAndWent_130 : decode cX6_cameAndWent 130 = .ok (.if_icmp .le 11, 3) := by decide +kernel
theorem dX6_cameAndWent_133 : decode cX6_cameAndWent 133 = .ok (.iload 9, 2) := by decide +kernel
theorem dX6_cameAndWent_135 : decode cX6_cameAndWent 135 = .ok (.iload 10, 2) := by decide +kernel
theorem dX6_cameAndWent_137 : decode cX6_cameAndWent 137 = .ok (.isub, 1) := by decide +kernel
theorem dX6_cameAndWent_138 : decode cX6_cameAndWent 138 = .ok (.goto 4, 3) := by decide +kernel
theorem dX6_cameAndWent_141 : decode cX6_cameAndWent 141 = .ok (.iconst 0, 1) := by decide +kernel
theorem dX6_cameAndWent_142 : decode cX6_cameAndWent 142 = .ok (.iadd, 1) := by decide +kernel
theorem dX6_cameAndWent_143 : decode cX6_cameAndWent 143 = .ok (.istore_n 3, 1) := by decide +kernel
theorem dX6_cameAndWent_144 : decode cX6_cameAndWent 144 = .ok (.iload 5, 2) := by decide +kernel
theorem dX6_cameAndWent_146 : decode cX6_cameAndWent 146 = .ok (.iload 9, 2) := by decide +kernel
theorem dX6_cameAndWent_148 : decode cX6_cameAndWent 148 = .ok (.iload 10, 2) := by decide +kernel
theorem dX6_cameAndWent_150 : decode cX6_cameAndWent 150 = .ok (.if_icmp .le 10, 3) := by decide +kernel
theorem dX6_cameAndWent_153 : decode cX6_cameAndWent 153 = .ok (.iconst 1, 1) := by decide +kernel
theorem dX6_cameAndWent_154 : decode cX6_cameAndWent 154 = .ok (.iload 7, 2) := by decide +kernel
theorem dX6_cameAndWent_156 : decode cX6_cameAndWent 156 = .ok (.ishl, 1) := by decide +kernel
theorem dX6_cameAndWent_157 : decode cX6_cameAndWent 157 = .ok (.goto 4, 3) := by decide +kernel
theorem dX6_cameAndWent_160 : decode cX6_cameAndWent 160 = .ok (.iconst 0, 1) := by decide +kernel
theorem dX6_cameAndWent_161 : decode cX6_cameAndWent 161 = .ok (.ior, 1) := by decide +kernel
theorem dX6_cameAndWent_162 : decode cX6_cameAndWent 162 = .ok (.istore 5, 2) := by decide +kernel
theorem dX6_cameAndWent_164 : decode cX6_cameAndWent 164 = .ok (.iload 4, 2) := by decide +kernel
theorem dX6_cameAndWent_166 : decode cX6_cameAndWent 166 = .ok (.iload 9, 2) := by decide +kernel
theorem dX6_cameAndWent_168 : decode cX6_cameAndWent 168 = .ok (.iload 11, 2) := by decide +kernel
theorem dX6_cameAndWent_170 : decode cX6_cameAndWent 170 = .ok (.if_icmp .ge 11, 3) := by decide +kernel
theorem dX6_cameAndWent_173 : decode cX6_cameAndWent 173 = .ok (.iload 11, 2) := by decide +kernel
theorem dX6_cameAndWent_175 : decode cX6_cameAndWent 175 = .ok (.iload 9, 2) := by decide +kernel
theorem dX6_cameAndWent_177 : decode cX6_cameAndWent 177 = .ok (.isub, 1) := by decide +kernel
theorem dX6_cameAndWent_178 : decode cX6_cameAndWent 178 = .ok (.goto 4, 3) := by decide +kernel
theorem dX6_cameAndWent_181 : decode cX6_cameAndWent 181 = .ok (.iconst 0, 1) := by decide +kernel
theorem dX6_cameAndWent_182 : decode cX6_cameAndWent 182 = .ok (.iadd, 1) := by decide +kernel
theorem dX6_cameAndWent_183 : decode cX6_cameAndWent 183 = .ok (.istore 4, 2) := by decide +kernel
theorem dX6_cameAndWent_185 : decode cX6_cameAndWent 185 = .ok (.iload 6, 2) := by decide +kernel
theorem dX6_cameAndWent_187 : decode cX6_cameAndWent 187 = .ok (.iload 9, 2) := by decide +kernel
theorem dX6_cameAndWent_189 : decode cX6_cameAndWent 189 = .ok (.iload 11, 2) := by decide +kernel
theorem dX6_cameAndWent_191 : decode cX6_cameAndWent 191 = .ok (.if_icmp .ge 10, 3) := by decide +kernel
theorem dX6_cameAndWent_194 : decode cX6_cameAndWent 194 = .ok (.iconst 1, 1) := by decide +kernel
theorem dX6_cameAndWent_195 : decode cX6_cameAndWent 195 = .ok (.iload 7, 2) := by decide +kernel
theorem dX6_cameAndWent_197 : decode cX6_cameAndWent 197 = .ok (.ishl, 1) := by decide +kernel
theorem dX6_cameAndWent_198 : decode cX6_cameAndWent 198 = .ok (.goto 4, 3) := by decide +kernel
theorem dX6_cameAndWent_201 : decode cX6_cameAndWent 201 = .ok (.iconst 0, 1) := by decide +kernel
theorem dX6_cameAndWent_202 : decode cX6_cameAndWent 202 = .ok (.ior, 1) := by decide +kernel
theorem dX6_cameAndWent_203 : decode cX6_cameAndWent 203 = .ok (.istore 6, 2) := by decide +kernel
theorem dX6_cameAndWent_205 : decode cX6_cameAndWent 205 = .ok (.iinc 7 1, 3) := by decide +kernel
theorem dX6_cameAndWent_208 : decode cX6_cameAndWent 208 = .ok (.goto (-174), 3) := by decide +kernel
theorem dX6_cameAndWent_211 : decode cX6_cameAndWent 211 = .ok (.aload_n 0, 1) := by decide +kernel
theorem dX6_cameAndWent_212 : decode cX6_cameAndWent 212 = .ok (.getfield 42, 3) := by decide +kernel
theorem dX6_cameAndWent_215 : decode cX6_cameAndWent 215 = .ok (.invokevirtual 73, 3) := by decide +kernel
theorem dX6_cameAndWent_218 : decode cX6_cameAndWent 218 = .ok (.iload 4, 2) := by decide +kernel
theorem dX6_cameAndWent_220 : decode cX6_cameAndWent 220 = .ok (.i2l, 1) := by decide +kernel
theorem dX6_cameAndWent_221 : decode cX6_cameAndWent 221 = .ok (.invokevirtual 79, 3) := by decide +kernel
theorem dX6_cameAndWent_224 : decode cX6_cameAndWent 224 = .ok (.iload 5, 2) := by decide +kernel
theorem dX6_cameAndWent_226 : decode cX6_cameAndWent 226 = .ok (.i2l, 1) := by decide +kernel
theorem dX6_cameAndWent_227 : decode cX6_cameAndWent 227 = .ok (.invokevirtual 79, 3) := by decide +kernel
theorem dX6_cameAndWent_230 : decode cX6_cameAndWent 230 = .ok (.iload 6, 2) := by decide +kernel
theorem dX6_cameAndWent_232 : decode cX6_cameAndWent 232 = .ok (.i2l, 1) := by decide +kernel
theorem dX6_cameAndWent_233 : decode cX6_cameAndWent 233 = .ok (.invokevirtual 79, 3) := by decide +kernel
theorem dX6_cameAndWent_236 : decode cX6_cameAndWent 236 = .ok (.pop, 1) := by decide +kernel
theorem dX6_cameAndWent_237 : decode cX6_cameAndWent 237 = .ok (.iload_n 3, 1) := by decide +kernel
theorem dX6_cameAndWent_238 : decode cX6_cameAndWent 238 = .ok (.ireturn, 1) := by decide +kernel
theorem dX6_feastWeeks_0 : decode cX6_feastWeeks 0 = .ok (.aload_n 0, 1) := by decide +kernel
theorem dX6_feastWeeks_1 : decode cX6_feastWeeks 1 = .ok (.getfield 34, 3) := by decide +kernel
theorem dX6_feastWeeks_4 : decode cX6_feastWeeks 4 = .ok (.iload_n 1, 1) := by decide +kernel
theorem dX6_feastWeeks_5 : decode cX6_feastWeeks 5 = .ok (.invokevirtual 83, 3) := by decide +kernel
theorem dX6_feastWeeks_8 : decode cX6_feastWeeks 8 = .ok (.ifCond .ne 5, 3) := by decide +kernel
theorem dX6_feastWeeks_11 : decode cX6_feastWeeks 11 = .ok (.iconst (-1), 1) := by decide +kernel
theorem dX6_feastWeeks_12 : decode cX6_feastWeeks 12 = .ok (.ireturn, 1) := by decide +kernel
theorem dX6_feastWeeks_13 : decode cX6_feastWeeks 13 = .ok (.iconst 0, 1) := by decide +kernel
theorem dX6_feastWeeks_14 : decode cX6_feastWeeks 14 = .ok (.istore_n 2, 1) := by decide +kernel
theorem dX6_feastWeeks_15 : decode cX6_feastWeeks 15 = .ok (.iconst 0, 1) := by decide +kernel
theorem dX6_feastWeeks_16 : decode cX6_feastWeeks 16 = .ok (.istore_n 3, 1) := by decide +kernel
theorem dX6_feastWeeks_17 : decode cX6_feastWeeks 17 = .ok (.iload_n 3, 1) := by decide +kernel
theorem dX6_feastWeeks_18 : decode cX6_feastWeeks 18 = .ok (.bipush 12, 2) := by decide +kernel
theorem dX6_feastWeeks_20 : decode cX6_feastWeeks 20 = .ok (.if_icmp .ge 48, 3) := by decide +kernel
theorem dX6_feastWeeks_23 : decode cX6_feastWeeks 23 = .ok (.aload_n 0, 1) := by decide +kernel
theorem dX6_feastWeeks_24 : decode cX6_feastWeeks 24 = .ok (.getfield 9, 3) := by decide +kernel
theorem dX6_feastWeeks_27 : decode cX6_feastWeeks 27 = .ok (.iload_n 3, 1) := by decide +kernel
theorem dX6_feastWeeks_28 : decode cX6_feastWeeks 28 = .ok (.aload_n 0, 1) := by decide +kernel
theorem dX6_feastWeeks_29 : decode cX6_feastWeeks 29 = .ok (.bipush 12, 2) := by decide +kernel
theorem dX6_feastWeeks_31 : decode cX6_feastWeeks 31 = .ok (.iload_n 1, 1) := by decide +kernel
theorem dX6_feastWeeks_32 : decode cX6_feastWeeks 32 = .ok (.imul, 1) := by decide +kernel
theorem dX6_feastWeeks_33 : decode cX6_feastWeeks 33 = .ok (.iload_n 3, 1) := by decide +kernel
theorem dX6_feastWeeks_34 : decode cX6_feastWeeks 34 = .ok (.iadd, 1) := by decide +kernel
theorem dX6_feastWeeks_35 : decode cX6_feastWeeks 35 = .ok (.invokevirtual 86, 3) := by decide +kernel
theorem dX6_feastWeeks_38 : decode cX6_feastWeeks 38 = .ok (.iastore, 1) := by decide +kernel
theorem dX6_feastWeeks_39 : decode cX6_feastWeeks 39 = .ok (.aload_n 0, 1) := by decide +kernel
theorem dX6_feastWeeks_40 : decode cX6_feastWeeks 40 = .ok (.getfield 9, 3) := by decide +kernel
theorem dX6_feastWeeks_43 : decode cX6_feastWeeks 43 = .ok (.iload_n 3, 1) := by decide +kernel
theorem dX6_feastWeeks_44 : decode cX6_feastWeeks 44 = .ok (.iaload, 1) := by decide +kernel
theorem dX6_feastWeeks_45 : decode cX6_feastWeeks 45 = .ok (.ifCond .lt 17, 3) := by decide +kernel
theorem dX6_feastWeeks_48 : decode cX6_feastWeeks 48 = .ok (.aload_n 0, 1) := by decide +kernel
theorem dX6_feastWeeks_49 : decode cX6_feastWeeks 49 = .ok (.iload_n 2, 1) := by decide +kernel
theorem dX6_feastWeeks_50 : decode cX6_feastWeeks 50 = .ok (.aload_n 0, 1) := by decide +kernel
theorem dX6_feastWeeks_51 : decode cX6_feastWeeks 51 = .ok (.getfield 9, 3) := by decide +kernel
theorem dX6_feastWeeks_54 : decode cX6_feastWeeks 54 = .ok (.iload_n 3, 1) := by decide +kernel
theorem dX6_feastWeeks_55 : decode cX6_feastWeeks 55 = .ok (.iaload, 1) := by decide +kernel
theorem dX6_feastWeeks_56 : decode cX6_feastWeeks 56 = .ok (.invokevirtual 89, 3) := by decide +kernel
theorem dX6_feastWeeks_59 : decode cX6_feastWeeks 59 = .ok (.iinc 2 1, 3) := by decide +kernel
theorem dX6_feastWeeks_62 : decode cX6_feastWeeks 62 = .ok (.iinc 3 1, 3) := by decide +kernel
theorem dX6_feastWeeks_65 : decode cX6_feastWeeks 65 = .ok (.goto (-48), 3) := by decide +kernel
theorem dX6_feastWeeks_68 : decode cX6_feastWeeks 68 = .ok (.iload_n 2, 1) := by decide +kernel
theorem dX6_feastWeeks_69 : decode cX6_feastWeeks 69 = .ok (.ifCond .ne 5, 3) := by decide +kernel
theorem dX6_feastWeeks_72 : decode cX6_feastWeeks 72 = .ok (.iconst 0, 1) := by decide +kernel
theorem dX6_feastWeeks_73 : decode cX6_feastWeeks 73 = .ok (.ireturn, 1) := by decide +kernel
theorem dX6_feastWeeks_74 : decode cX6_feastWeeks 74 = .ok (.aload_n 0, 1) := by decide +kernel
theorem dX6_feastWeeks_75 : decode cX6_feastWeeks 75 = .ok (.getfield 15, 3) := by decide +kernel
theorem dX6_feastWeeks_78 : decode cX6_feastWeeks 78 = .ok (.iload_n 2, 1) := by decide +kernel
theorem dX6_feastWeeks_79 : decode cX6_feastWeeks 79 = .ok (.iconst 1, 1) := by decide +kernel
theorem dX6_feastWeeks_80 : decode cX6_feastWeeks 80 = .ok (.isub, 1) := by decide +kernel
theorem dX6_feastWeeks_81 : decode cX6_feastWeeks 81 = .ok (.iconst 2, 1) := by decide +kernel
theorem dX6_feastWeeks_82 : decode cX6_feastWeeks 82 = .ok (.idiv, 1) := by decide +kernel
theorem dX6_feastWeeks_83 : decode cX6_feastWeeks 83 = .ok (.iaload, 1) := by decide +kernel
theorem dX6_feastWeeks_84 : decode cX6_feastWeeks 84 = .ok (.istore_n 3, 1) := by decide +kernel
theorem dX6_feastWeeks_85 : decode cX6_feastWeeks 85 = .ok (.iconst 0, 1) := by decide +kernel
theorem dX6_feastWeeks_86 : decode cX6_feastWeeks 86 = .ok (.istore 4, 2) := by decide +kernel
theorem dX6_feastWeeks_88 : decode cX6_feastWeeks 88 = .ok (.iconst 0, 1) := by decide +kernel
theorem dX6_feastWeeks_89 : decode cX6_feastWeeks 89 = .ok (.istore 5, 2) := by decide +kernel
theorem dX6_feastWeeks_91 : decode cX6_feastWeeks 91 = .ok (.iload 5, 2) := by decide +kernel
theorem dX6_feastWeeks_93 : decode cX6_feastWeeks 93 = .ok (.bipush 12, 2) := by decide +kernel
theorem dX6_feastWeeks_95 : decode cX6_feastWeeks 95 = .ok (.if_icmp .ge 35, 3) := by decide +kernel
theorem dX6_feastWeeks_98 : decode cX6_feastWeeks 98 = .ok (.iload 4, 2) := by decide +kernel
theorem dX6_feastWeeks_100 : decode cX6_feastWeeks 100 = .ok (.aload_n 0, 1) := by decide +kernel
theorem dX6_feastWeeks_101 : decode cX6_feastWeeks 101 = .ok (.getfield 9, 3) := by decide +kernel
theorem dX6_feastWeeks_104 : decode cX6_feastWeeks 104 = .ok (.iload 5, 2) := by decide +kernel
theorem dX6_feastWeeks_106 : decode cX6_feastWeeks 106 = .ok (.iaload, 1) := by decide +kernel
theorem dX6_feastWeeks_107 : decode cX6_feastWeeks 107 = .ok (.iconst 2, 1) := by decide +kernel
theorem dX6_feastWeeks_108 : decode cX6_feastWeeks 108 = .ok (.iload_n 3, 1) := by decide +kernel
theorem dX6_feastWeeks_109 : decode cX6_feastWeeks 109 = .ok (.imul, 1) := by decide +kernel
theorem dX6_feastWeeks_110 : decode cX6_feastWeeks 110 = .ok (.if_icmp .le 10, 3) := by decide +kernel
theorem dX6_feastWeeks_113 : decode cX6_feastWeeks 113 = .ok (.iconst 1, 1) := by decide +kernel
theorem dX6_feastWeeks_114 : decode cX6_feastWeeks 114 = .ok (.iload 5, 2) := by decide +kernel
theorem dX6_feastWeeks_116 : decode cX6_feastWeeks 116 = .ok (.ishl, 1) := by decide +kernel
theorem dX6_feastWeeks_117 : decode cX6_feastWeeks 117 = .ok (.goto 4, 3) := by decide +kernel
theorem dX6_feastWeeks_120 : decode cX6_feastWeeks 120 = .ok (.iconst 0, 1) := by decide +kernel
theorem dX6_feastWeeks_121 : decode cX6_feastWeeks 121 = .ok (.ior, 1) := by decide +kernel
theorem dX6_feastWeeks_122 : decode cX6_feastWeeks 122 = .ok (.istore 4, 2) := by decide +kernel
theorem dX6_feastWeeks_124 : decode cX6_feastWeeks 124 = .ok (.iinc 5 1, 3) := by decide +kernel
theorem dX6_feastWeeks_127 : decode cX6_feastWeeks 127 = .ok (.goto (-36), 3) := by decide +kernel
theorem dX6_feastWeeks_130 : decode cX6_feastWeeks 130 = .ok (.iload 4, 2) := by decide +kernel
theorem dX6_feastWeeks_132 : decode cX6_feastWeeks 132 = .ok (.ireturn, 1) := by decide +kernel
theorem dX6_bagsOf_0 : decode cX6_bagsOf 0 = .ok (.iconst (-1), 1) := by decide +kernel
theorem dX6_bagsOf_1 : decode cX6_bagsOf 1 = .ok (.istore_n 2, 1) := by decide +kernel
theorem dX6_bagsOf_2 : decode cX6_bagsOf 2 = .ok (.iconst 0, 1) := by decide +kernel
theorem dX6_bagsOf_3 : decode cX6_bagsOf 3 = .ok (.istore_n 3, 1) := by decide +kernel
theorem dX6_bagsOf_4 : decode cX6_bagsOf 4 = .ok (.iload_n 3, 1) := by decide +kernel
theorem dX6_bagsOf_5 : decode cX6_bagsOf 5 = .ok (.aload_n 0, 1) := by decide +kernel
theorem dX6_bagsOf_6 : decode cX6_bagsOf 6 = .ok (.getfield 34, 3) := by decide +kernel
theorem dX6_bagsOf_9 : decode cX6_bagsOf 9 = .ok (.invokevirtual 93, 3) := by decide +kernel
theorem dX6_bagsOf_12 : decode cX6_bagsOf 12 = .ok (.if_icmp .ge 43, 3) := by decide +kernel
theorem dX6_bagsOf_15 : decode cX6_bagsOf 15 = .ok (.aload_n 0, 1) := by decide +kernel
theorem dX6_bagsOf_16 : decode cX6_bagsOf 16 = .ok (.getfield 38, 3) := by decide +kernel
theorem dX6_bagsOf_19 : decode cX6_bagsOf 19 = .ok (.iconst 0, 1) := by decide +kernel
theorem dX6_bagsOf_20 : decode cX6_bagsOf 20 = .ok (.iload_n 1, 1) := by decide +kernel
theorem dX6_bagsOf_21 : decode cX6_bagsOf 21 = .ok (.iload_n 3, 1) := by decide +kernel
theorem dX6_bagsOf_22 : decode cX6_bagsOf 22 = .ok (.invokevirtual 59, 3) := by decide +kernel
theorem dX6_bagsOf_25 : decode cX6_bagsOf 25 = .ok (.ifCond .eq 24, 3) := by decide +kernel
theorem dX6_bagsOf_28 : decode cX6_bagsOf 28 = .ok (.iload_n 2, 1) := by decide +kernel
theorem dX6_bagsOf_29 : decode cX6_bagsOf 29 = .ok (.ifCond .ge 7, 3) := by decide +kernel
theorem dX6_bagsOf_32 : decode cX6_bagsOf 32 = .ok (.iconst 0, 1) := by decide +kernel
theorem dX6_bagsOf_33 : decode cX6_bagsOf 33 = .ok (.goto 4, 3) := by decide +kernel
theorem dX6_bagsOf_36 : decode cX6_bagsOf 36 = .ok (.iload_n 2, 1) := by decide +kernel
theorem dX6_bagsOf_37 : decode cX6_bagsOf 37 = .ok (.aload_n 0, 1) := by decide +kernel
theorem dX6_bagsOf_38 : decode cX6_bagsOf 38 = .ok (.getfield 38, 3) := by decide +kernel
theorem dX6_bagsOf_41 : decode cX6_bagsOf 41 = .ok (.iconst 0, 1) := by decide +kernel
theorem dX6_bagsOf_42 : decode cX6_bagsOf 42 = .ok (.iload_n 1, 1) := by decide +kernel
theorem dX6_bagsOf_43 : decode cX6_bagsOf 43 = .ok (.iload_n 3, 1) := by decide +kernel
theorem dX6_bagsOf_44 : decode cX6_bagsOf 44 = .ok (.invokevirtual 65, 3) := by decide +kernel
theorem dX6_bagsOf_47 : decode cX6_bagsOf 47 = .ok (.iadd, 1) := by decide +kernel
theorem dX6_bagsOf_48 : decode cX6_bagsOf 48 = .ok (.istore_n 2, 1) := by decide +kernel
theorem dX6_bagsOf_49 : decode cX6_bagsOf 49 = .ok (.iinc 3 1, 3) := by decide +kernel
theorem dX6_bagsOf_52 : decode cX6_bagsOf 52 = .ok (.goto (-48), 3) := by decide +kernel
theorem dX6_bagsOf_55 : decode cX6_bagsOf 55 = .ok (.iload_n 2, 1) := by decide +kernel
theorem dX6_bagsOf_56 : decode cX6_bagsOf 56 = .ok (.ireturn, 1) := by decide +kernel
theorem dX6_insert_0 : decode cX6_insert 0 = .ok (.iload_n 1, 1) := by decide +kernel
theorem dX6_insert_1 : decode cX6_insert 1 = .ok (.istore_n 3, 1) := by decide +kernel
theorem dX6_insert_2 : decode cX6_insert 2 = .ok (.iload_n 3, 1) := by decide +kernel
theorem dX6_insert_3 : decode cX6_insert 3 = .ok (.ifCond .le 41, 3) := by decide +kernel
theorem dX6_insert_6 : decode cX6_insert 6 = .ok (.iload_n 3, 1) := by decide +kernel
theorem dX6_insert_7 : decode cX6_insert 7 = .ok (.bipush 12, 2) := by decide +kernel
theorem dX6_insert_9 : decode cX6_insert 9 = .ok (.if_icmp .ge 35, 3) := by decide +kernel
theorem dX6_insert_12 : decode cX6_insert 12 = .ok (.aload_n 0, 1) := by decide +kernel
theorem dX6_insert_13 : decode cX6_insert 13 = .ok (.getfield 15, 3) := by decide +kernel
theorem dX6_insert_16 : decode cX6_insert 16 = .ok (.iload_n 3, 1) := by decide +kernel
theorem dX6_insert_17 : decode cX6_insert 17 = .ok (.iconst 1, 1) := by decide +kernel
theorem dX6_insert_18 : decode cX6_insert 18 = .ok (.isub, 1) := by decide +kernel
theorem dX6_insert_19 : decode cX6_insert 19 = .ok (.iaload, 1) := by decide +kernel
theorem dX6_insert_20 : decode cX6_insert 20 = .ok (.iload_n 2, 1) := by decide +kernel
theorem dX6_insert_21 : decode cX6_insert 21 = .ok (.if_icmp .le 23, 3) := by decide +kernel
theorem dX6_insert_24 : decode cX6_insert 24 = .ok (.aload_n 0, 1) := by decide +kernel
theorem dX6_insert_25 : decode cX6_insert 25 = .ok (.getfield 15, 3) := by decide +kernel
theorem dX6_insert_28 : decode cX6_insert 28 = .ok (.iload_n 3, 1) := by decide +kernel
theorem dX6_insert_29 : decode cX6_insert 29 = .ok (.aload_n 0, 1) := by decide +kernel
theorem dX6_insert_30 : decode cX6_insert 30 = .ok (.getfield 15, 3) := by decide +kernel
theorem dX6_insert_33 : decode cX6_insert 33 = .ok (.iload_n 3, 1) := by decide +kernel
theorem dX6_insert_34 : decode cX6_insert 34 = .ok (.iconst 1, 1) := by decide +kernel
theorem dX6_insert_35 : decode cX6_insert 35 = .ok (.isub, 1) := by decide +kernel
theorem dX6_insert_36 : decode cX6_insert 36 = .ok (.iaload, 1) := by decide +kernel
theorem dX6_insert_37 : decode cX6_insert 37 = .ok (.iastore, 1) := by decide +kernel
theorem dX6_insert_38 : decode cX6_insert 38 = .ok (.iinc 3 (-1), 3) := by decide +kernel
theorem dX6_insert_41 : decode cX6_insert 41 = .ok (.goto (-39), 3) := by decide +kernel
theorem dX6_insert_44 : decode cX6_insert 44 = .ok (.iload_n 3, 1) := by decide +kernel
theorem dX6_insert_45 : decode cX6_insert 45 = .ok (.ifCond .lt 16, 3) := by decide +kernel
theorem dX6_insert_48 : decode cX6_insert 48 = .ok (.iload_n 3, 1) := by decide +kernel
theorem dX6_insert_49 : decode cX6_insert 49 = .ok (.bipush 12, 2) := by decide +kernel
theorem dX6_insert_51 : decode cX6_insert 51 = .ok (.if_icmp .ge 10, 3) := by decide +kernel
theorem dX6_insert_54 : decode cX6_insert 54 = .ok (.aload_n 0, 1) := by decide +kernel
theorem dX6_insert_55 : decode cX6_insert 55 = .ok (.getfield 15, 3) := by decide +kernel
theorem dX6_insert_58 : decode cX6_insert 58 = .ok (.iload_n 3, 1) := by decide +kernel
theorem dX6_insert_59 : decode cX6_insert 59 = .ok (.iload_n 2, 1) := by decide +kernel
theorem dX6_insert_60 : decode cX6_insert 60 = .ok (.iastore, 1) := by decide +kernel
theorem dX6_insert_61 : decode cX6_insert 61 = .ok (.return_, 1) := by decide +kernel
theorem dX6_fewest_0 : decode cX6_fewest 0 = .ok (.iload_n 3, 1) := by decide +kernel
theorem dX6_fewest_1 : decode cX6_fewest 1 = .ok (.iconst 0, 1) := by decide +kernel
theorem dX6_fewest_2 : decode cX6_fewest 2 = .ok (.sipush 999, 3) := by decide +kernel
theorem dX6_fewest_5 : decode cX6_fewest 5 = .ok (.invokestatic 96, 3) := by decide +kernel
theorem dX6_fewest_8 : decode cX6_fewest 8 = .ok (.ifCond .eq 18, 3) := by decide +kernel
theorem dX6_fewest_11 : decode cX6_fewest 11 = .ok (.iload 4, 2) := by decide +kernel
theorem dX6_fewest_13 : decode cX6_fewest 13 = .ok (.iconst 1, 1) := by decide +kernel
theorem dX6_fewest_14 : decode cX6_fewest 14 = .ok (.bipush 100, 2) := by decide +kernel
theorem dX6_fewest_16 : decode cX6_fewest 16 = .ok (.invokestatic 96, 3) := by decide +kernel
theorem dX6_fewest_19 : decode cX6_fewest 19 = .ok (.ifCond .eq 7, 3) := by decide +kernel
theorem dX6_fewest_22 : decode cX6_fewest 22 = .ok (.iconst 1, 1) := by decide +kernel
theorem dX6_fewest_23 : decode cX6_fewest 23 = .ok (.goto 4, 3) := by decide +kernel
theorem dX6_fewest_26 : decode cX6_fewest 26 = .ok (.iconst 0, 1) := by decide +kernel
theorem dX6_fewest_27 : decode cX6_fewest 27 = .ok (.istore 6, 2) := by decide +kernel
theorem dX6_fewest_29 : decode cX6_fewest 29 = .ok (.iload_n 1, 1) := by decide +kernel
theorem dX6_fewest_30 : decode cX6_fewest 30 = .ok (.invokestatic 99, 3) := by decide +kernel
theorem dX6_fewest_33 : decode cX6_fewest 33 = .ok (.ifCond .eq 19, 3) := by decide +kernel
theorem dX6_fewest_36 : decode cX6_fewest 36 = .ok (.aload_n 0, 1) := by decide +kernel
theorem dX6_fewest_37 : decode cX6_fewest 37 = .ok (.getfield 34, 3) := by decide +kernel
theorem dX6_fewest_40 : decode cX6_fewest 40 = .ok (.iload_n 2, 1) := by decide +kernel
theorem dX6_fewest_41 : decode cX6_fewest 41 = .ok (.invokevirtual 46, 3) := by decide +kernel
theorem dX6_fewest_44 : decode cX6_fewest 44 = .ok (.ifCond .eq 8, 3) := by decide +kernel
theorem dX6_fewest_47 : decode cX6_fewest 47 = .ok (.iload 6, 2) := by decide +kernel
theorem dX6_fewest_49 : decode cX6_fewest 49 = .ok (.ifCond .ne 5, 3) := by decide +kernel
theorem dX6_fewest_52 : decode cX6_fewest 52 = .ok (.iconst (-1), 1) := by decide +kernel
theorem dX6_fewest_53 : decode cX6_fewest 53 = .ok (.ireturn, 1) := by decide +kernel
theorem dX6_fewest_54 : decode cX6_fewest 54 = .ok (.aload_n 0, 1) := by decide +kernel
theorem dX6_fewest_55 : decode cX6_fewest 55 = .ok (.iload_n 1, 1) := by decide +kernel
theorem dX6_fewest_56 : decode cX6_fewest 56 = .ok (.iload_n 2, 1) := by decide +kernel
theorem dX6_fewest_57 : decode cX6_fewest 57 = .ok (.iload 5, 2) := by decide +kernel
theorem dX6_fewest_59 : decode cX6_fewest 59 = .ok (.invokevirtual 102, 3) := by decide +kernel
theorem dX6_fewest_62 : decode cX6_fewest 62 = .ok (.aload_n 0, 1) := by decide +kernel
theorem dX6_fewest_63 : decode cX6_fewest 63 = .ok (.iload_n 3, 1) := by decide +kernel
theorem dX6_fewest_64 : decode cX6_fewest 64 = .ok (.invokevirtual 106, 3) := by decide +kernel
theorem dX6_fewest_67 : decode cX6_fewest 67 = .ok (.iconst 1, 1) := by decide +kernel
theorem dX6_fewest_68 : decode cX6_fewest 68 = .ok (.istore 7, 2) := by decide +kernel
theorem dX6_fewest_70 : decode cX6_fewest 70 = .ok (.iload 7, 2) := by decide +kernel
theorem dX6_fewest_72 : decode cX6_fewest 72 = .ok (.aload_n 0, 1) := by decide +kernel
theorem dX6_fewest_73 : decode cX6_fewest 73 = .ok (.getfield 110, 3) := by decide +kernel
theorem dX6_fewest_76 : decode cX6_fewest 76 = .ok (.if_icmp .gt 72, 3) := by decide +kernel
theorem dX6_fewest_79 : decode cX6_fewest 79 = .ok (.iload 7, 2) := by decide +kernel
theorem dX6_fewest_81 : decode cX6_fewest 81 = .ok (.bipush 12, 2) := by decide +kernel
theorem dX6_fewest_83 : decode cX6_fewest 83 = .ok (.if_icmp .gt 65, 3) := by decide +kernel
theorem dX6_fewest_86 : decode cX6_fewest 86 = .ok (.aload_n 0, 1) := by decide +kernel
theorem dX6_fewest_87 : decode cX6_fewest 87 = .ok (.getfield 25, 3) := by decide +kernel
theorem dX6_fewest_90 : decode cX6_fewest 90 = .ok (.iload 7, 2) := by decide +kernel
theorem dX6_fewest_92 : decode cX6_fewest 92 = .ok (.iaload, 1) := by decide +kernel
theorem dX6_fewest_93 : decode cX6_fewest 93 = .ok (.bipush 100, 2) := by decide +kernel
theorem dX6_fewest_95 : decode cX6_fewest 95 = .ok (.imul, 1) := by decide +kernel
theorem dX6_fewest_96 : decode cX6_fewest 96 = .ok (.iload 4, 2) := by decide +kernel
theorem dX6_fewest_98 : decode cX6_fewest 98 = .ok (.aload_n 0, 1) := by decide +kernel
theorem dX6_fewest_99 : decode cX6_fewest 99 = .ok (.getfield 22, 3) := by decide +kernel
theorem dX6_fewest_102 : decode cX6_fewest 102 = .ok (.iload 7, 2) := by decide +kernel
theorem dX6_fewest_104 : decode cX6_fewest 104 = .ok (.iaload, 1) := by decide +kernel
theorem dX6_fewest_105 : decode cX6_fewest 105 = .ok (.imul, 1) := by decide +kernel
theorem dX6_fewest_106 : decode cX6_fewest 106 = .ok (.if_icmp .lt 36, 3) := by decide +kernel
theorem dX6_fewest_109 : decode cX6_fewest 109 = .ok (.aload_n 0, 1) := by decide +kernel
theorem dX6_fewest_110 : decode cX6_fewest 110 = .ok (.getfield 42, 3) := by decide +kernel
theorem dX6_fewest_113 : decode cX6_fewest 113 = .ok (.invokevirtual 73, 3) := by decide +kernel
theorem dX6_fewest_116 : decode cX6_fewest 116 = .ok (.aload_n 0, 1) := by decide +kernel
theorem dX6_fewest_117 : decode cX6_fewest 117 = .ok (.getfield 25, 3) := by decide +kernel
theorem dX6_fewest_120 : decode cX6_fewest 120 = .ok (.iload 7, 2) := by decide +kernel
theorem dX6_fewest_122 : decode cX6_fewest 122 = .ok (.iaload, 1) := by decide +kernel
theorem dX6_fewest_123 : decode cX6_fewest 123 = .ok (.i2l, 1) := by decide +kernel
theorem dX6_fewest_124 : decode cX6_fewest 124 = .ok (.invokevirtual 79, 3) := by decide +kernel
theorem dX6_fewest_127 : decode cX6_fewest 127 = .ok (.aload_n 0, 1) := by decide +kernel
theorem dX6_fewest_128 : decode cX6_fewest 128 = .ok (.getfield 22, 3) := by decide +kernel
theorem dX6_fewest_131 : decode cX6_fewest 131 = .ok (.iload 7, 2) := by decide +kernel
theorem dX6_fewest_133 : decode cX6_fewest 133 = .ok (.iaload, 1) := by decide +kernel
theorem dX6_fewest_134 : decode cX6_fewest 134 = .ok (.i2l, 1) := by decide +kernel
theorem dX6_fewest_135 : decode cX6_fewest 135 = .ok (.invokevirtual 79, 3) := by decide +kernel
theorem dX6_fewest_138 : decode cX6_fewest 138 = .ok (.pop, 1) := by decide +kernel
theorem dX6_fewest_139 : decode cX6_fewest 139 = .ok (.iload 7, 2) := by decide +kernel
theorem dX6_fewest_141 : decode cX6_fewest 141 = .ok (.ireturn, 1) := by decide +kernel
theorem dX6_fewest_142 : decode cX6_fewest 142 = .ok (.iinc 7 1, 3) := by decide +kernel
theorem dX6_fewest_145 : decode cX6_fewest 145 = .ok (.goto (-75), 3) := by decide +kernel
theorem dX6_fewest_148 : decode cX6_fewest 148 = .ok (.bipush (-2), 2) := by decide +kernel
theorem dX6_fewest_150 : decode cX6_fewest 150 = .ok (.ireturn, 1) := by decide +kernel
theorem dX6_gatherMeans_0 : decode cX6_gatherMeans 0 = .ok (.aload_n 0, 1) := by decide +kernel
theorem dX6_gatherMeans_1 : decode cX6_gatherMeans 1 = .ok (.iconst 0, 1) := by decide +kernel
theorem dX6_gatherMeans_2 : decode cX6_gatherMeans 2 = .ok (.putfield 110, 3) := by decide +kernel
theorem dX6_gatherMeans_5 : decode cX6_gatherMeans 5 = .ok (.iload_n 3, 1) := by decide +kernel
theorem dX6_gatherMeans_6 : decode cX6_gatherMeans 6 = .ok (.ifCond .eq 8, 3) := by decide +kernel
theorem dX6_gatherMeans_9 : decode cX6_gatherMeans 9 = .ok (.bipush 12, 2) := by decide +kernel
theorem dX6_gatherMeans_11 : decode cX6_gatherMeans 11 = .ok (.goto 10, 3) := by decide +kernel
theorem dX6_gatherMeans_14 : decode cX6_gatherMeans 14 = .ok (.aload_n 0, 1) := by decide +kernel
theorem dX6_gatherMeans_15 : decode cX6_gatherMeans 15 = .ok (.getfield 34, 3) := by decide +kernel
theorem dX6_gatherMeans_18 : decode cX6_gatherMeans 18 = .ok (.invokevirtual 55, 3) := by decide +kernel
theorem dX6_gatherMeans_21 : decode cX6_gatherMeans 21 = .ok (.istore 4, 2) := by decide +kernel
theorem dX6_gatherMeans_23 : decode cX6_gatherMeans 23 = .ok (.iload_n 3, 1) := by decide +kernel
theorem dX6_gatherMeans_24 : decode cX6_gatherMeans 24 = .ok (.ifCond .eq 13, 3) := by decide +kernel
theorem dX6_gatherMeans_27 : decode cX6_gatherMeans 27 = .ok (.aload_n 0, 1) := by decide +kernel
theorem dX6_gatherMeans_28 : decode cX6_gatherMeans 28 = .ok (.getfield 34, 3) := by decide +kernel
theorem dX6_gatherMeans_31 : decode cX6_gatherMeans 31 = .ok (.invokevirtual 55, 3) := by decide +kernel
theorem dX6_gatherMeans_34 : decode cX6_gatherMeans 34 = .ok (.goto 5, 3) := by decide +kernel
theorem dX6_gatherMeans_37 : decode cX6_gatherMeans 37 = .ok (.bipush 12, 2) := by decide +kernel
theorem dX6_gatherMeans_39 : decode cX6_gatherMeans 39 = .ok (.istore 5, 2) := by decide +kernel
theorem dX6_gatherMeans_41 : decode cX6_gatherMeans 41 = .ok (.iconst 0, 1) := by decide +kernel
theorem dX6_gatherMeans_42 : decode cX6_gatherMeans 42 = .ok (.istore 6, 2) := by decide +kernel
theorem dX6_gatherMeans_44 : decode cX6_gatherMeans 44 = .ok (.iload 6, 2) := by decide +kernel
theorem dX6_gatherMeans_46 : decode cX6_gatherMeans 46 = .ok (.iload 4, 2) := by decide +kernel
theorem dX6_gatherMeans_48 : decode cX6_gatherMeans 48 = .ok (.if_icmp .ge 140, 3) := by decide +kernel
theorem dX6_gatherMeans_51 : decode cX6_gatherMeans 51 = .ok (.iload 6, 2) := by decide +kernel
theorem dX6_gatherMeans_53 : decode cX6_gatherMeans 53 = .ok (.bipush 12, 2) := by decide +kernel
theorem dX6_gatherMeans_55 : decode cX6_gatherMeans 55 = .ok (.if_icmp .ge 133, 3) := by decide +kernel
theorem dX6_gatherMeans_58 : decode cX6_gatherMeans 58 = .ok (.lconst 0, 1) := by decide +kernel
theorem dX6_gatherMeans_59 : decode cX6_gatherMeans 59 = .ok (.lstore 7, 2) := by decide +kernel
theorem dX6_gatherMeans_61 : decode cX6_gatherMeans 61 = .ok (.iconst 0, 1) := by decide +kernel
theorem dX6_gatherMeans_62 : decode cX6_gatherMeans 62 = .ok (.istore 9, 2) := by decide +kernel
theorem dX6_gatherMeans_64 : decode cX6_gatherMeans 64 = .ok (.iconst 0, 1) := by decide +kernel
theorem dX6_gatherMeans_65 : decode cX6_gatherMeans 65 = .ok (.istore 10, 2) := by decide +kernel
theorem dX6_gatherMeans_67 : decode cX6_gatherMeans 67 = .ok (.iload 10, 2) := by decide +kernel
theorem dX6_gatherMeans_69 : decode cX6_gatherMeans 69 = .ok (.iload 5, 2) := by decide +kernel
theorem dX6_gatherMeans_71 : decode cX6_gatherMeans 71 = .ok (.if_icmp .ge 68, 3) := by decide +kernel
theorem dX6_gatherMeans_74 : decode cX6_gatherMeans 74 = .ok (.iload_n 3, 1) := by decide +kernel
theorem dX6_gatherMeans_75 : decode cX6_gatherMeans 75 = .ok (.ifCond .eq 14, 3) := by decide +kernel
theorem dX6_gatherMeans_78 : decode cX6_gatherMeans 78 = .ok (.bipush 12, 2) := by decide +kernel
theorem dX6_gatherMeans_80 : decode cX6_gatherMeans 80 = .ok (.iload 10, 2) := by decide +kernel
theorem dX6_gatherMeans_82 : decode cX6_gatherMeans 82 = .ok (.imul, 1) := by decide +kernel
theorem dX6_gatherMeans_83 : decode cX6_gatherMeans 83 = .ok (.iload 6, 2) := by decide +kernel
theorem dX6_gatherMeans_85 : decode cX6_gatherMeans 85 = .ok (.iadd, 1) := by decide +kernel
theorem dX6_gatherMeans_86 : decode cX6_gatherMeans 86 = .ok (.goto 11, 3) := by decide +kernel
theorem dX6_gatherMeans_89 : decode cX6_gatherMeans 89 = .ok (.bipush 12, 2) := by decide +kernel
theorem dX6_gatherMeans_91 : decode cX6_gatherMeans 91 = .ok (.iload 6, 2) := by decide +kernel
theorem dX6_gatherMeans_93 : decode cX6_gatherMeans 93 = .ok (.imul, 1) := by decide +kernel
theorem dX6_gatherMeans_94 : decode cX6_gatherMeans 94 = .ok (.iload 10, 2) := by decide +kernel
theorem dX6_gatherMeans_96 : decode cX6_gatherMeans 96 = .ok (.iadd, 1) := by decide +kernel
theorem dX6_gatherMeans_97 : decode cX6_gatherMeans 97 = .ok (.istore 11, 2) := by decide +kernel
theorem dX6_gatherMeans_99 : decode cX6_gatherMeans 99 = .ok (.aload_n 0, 1) := by decide +kernel
theorem dX6_gatherMeans_100 : decode cX6_gatherMeans 100 = .ok (.getfield 38, 3) := by decide +kernel
theorem dX6_gatherMeans_103 : decode cX6_gatherMeans 103 = .ok (.iload_n 1, 1) := by decide +kernel
theorem dX6_gatherMeans_104 : decode cX6_gatherMeans 104 = .ok (.iload 11, 2) := by decide +kernel
theorem dX6_gatherMeans_106 : decode cX6_gatherMeans 106 = .ok (.iload_n 2, 1) := by decide +kernel
theorem dX6_gatherMeans_107 : decode cX6_gatherMeans 107 = .ok (.invokevirtual 59, 3) := by decide +kernel
theorem dX6_gatherMeans_110 : decode cX6_gatherMeans 110 = .ok (.ifCond .eq 23, 3) := by decide +kernel
theorem dX6_gatherMeans_113 : decode cX6_gatherMeans 113 = .ok (.lload 7, 2) := by decide +kernel
theorem dX6_gatherMeans_115 : decode cX6_gatherMeans 115 = .ok (.aload_n 0, 1) := by decide +kernel
theorem dX6_gatherMeans_116 : decode cX6_gatherMeans 116 = .ok (.getfield 38, 3) := by decide +kernel
theorem dX6_gatherMeans_119 : decode cX6_gatherMeans 119 = .ok (.iload_n 1, 1) := by decide +kernel
theorem dX6_gatherMeans_120 : decode cX6_gatherMeans 120 = .ok (.iload 11, 2) := by decide +kernel
theorem dX6_gatherMeans_122 : decode cX6_gatherMeans 122 = .ok (.iload_n 2, 1) := by decide +kernel
theorem dX6_gatherMeans_123 : decode cX6_gatherMeans 123 = .ok (.invokevirtual 65, 3) := by decide +kernel
theorem dX6_gatherMeans_126 : decode cX6_gatherMeans 126 = .ok (.i2l, 1) := by decide +kernel
theorem dX6_gatherMeans_127 : decode cX6_gatherMeans 127 = .ok (.ladd, 1) := by decide +kernel
theorem dX6_gatherMeans_128 : decode cX6_gatherMeans 128 = .ok (.lstore 7, 2) := by decide +kernel
theorem dX6_gatherMeans_130 : decode cX6_gatherMeans 130 = .ok (.iinc 9 1, 3) := by decide +kernel
theorem dX6_gatherMeans_133 : decode cX6_gatherMeans 133 = .ok (.iinc 10 1, 3) := by decide +kernel
theorem dX6_gatherMeans_136 : decode cX6_gatherMeans 136 = .ok (.goto (-69), 3) := by decide +kernel
theorem dX6_gatherMeans_139 : decode cX6_gatherMeans 139 = .ok (.iload 9, 2) := by decide +kernel
theorem dX6_gatherMeans_141 : decode cX6_gatherMeans 141 = .ok (.ifCond .le 41, 3) := by decide +kernel
theorem dX6_gatherMeans_144 : decode cX6_gatherMeans 144 = .ok (.aload_n 0, 1) := by decide +kernel
theorem dX6_gatherMeans_145 : decode cX6_gatherMeans 145 = .ok (.getfield 110, 3) := by decide +kernel
theorem dX6_gatherMeans_148 : decode cX6_gatherMeans 148 = .ok (.bipush 12, 2) := by decide +kernel
theorem dX6_gatherMeans_150 : decode cX6_gatherMeans 150 = .ok (.if_icmp .ge 32, 3) := by decide +kernel
theorem dX6_gatherMeans_153 : decode cX6_gatherMeans 153 = .ok (.aload_n 0, 1) := by decide +kernel
theorem dX6_gatherMeans_154 : decode cX6_gatherMeans 154 = .ok (.getfield 18, 3) := by decide +kernel
theorem dX6_gatherMeans_157 : decode cX6_gatherMeans 157 = .ok (.aload_n 0, 1) := by decide +kernel
theorem dX6_gatherMeans_158 : decode cX6_gatherMeans 158 = .ok (.getfield 110, 3) := by decide +kernel
theorem dX6_gatherMeans_161 : decode cX6_gatherMeans 161 = .ok (.lload 7, 2) := by decide +kernel
theorem dX6_gatherMeans_163 : decode cX6_gatherMeans 163 = .ok (.ldc2_w 114, 3) := by decide +kernel
theorem dX6_gatherMeans_166 : decode cX6_gatherMeans 166 = .ok (.lmul, 1) := by decide +kernel
theorem dX6_gatherMeans_167 : decode cX6_gatherMeans 167 = .ok (.iload 9, 2) := by decide +kernel
theorem dX6_gatherMeans_169 : decode cX6_gatherMeans 169 = .ok (.i2l, 1) := by decide +kernel
theorem dX6_gatherMeans_170 : decode cX6_gatherMeans 170 = .ok (.ldiv, 1) := by decide +kernel
theorem dX6_gatherMeans_171 : decode cX6_gatherMeans 171 = .ok (.lastore, 1) := by decide +kernel
theorem dX6_gatherMeans_172 : decode cX6_gatherMeans 172 = .ok (.aload_n 0, 1) := by decide +kernel
theorem dX6_gatherMeans_173 : decode cX6_gatherMeans 173 = .ok (.dup, 1) := by decide +kernel
theorem dX6_gatherMeans_174 : decode cX6_gatherMeans 174 = .ok (.getfield 110, 3) := by decide +kernel
theorem dX6_gatherMeans_177 : decode cX6_gatherMeans 177 = .ok (.iconst 1, 1) := by decide +kernel
theorem dX6_gatherMeans_178 : decode cX6_gatherMeans 178 = .ok (.iadd, 1) := by decide +kernel
theorem dX6_gatherMeans_179 : decode cX6_gatherMeans 179 = .ok (.putfield 110, 3) := by decide +kernel
theorem dX6_gatherMeans_182 : decode cX6_gatherMeans 182 = .ok (.iinc 6 1, 3) := by decide +kernel
theorem dX6_gatherMeans_185 : decode cX6_gatherMeans 185 = .ok (.goto (-141), 3) := by decide +kernel
theorem dX6_gatherMeans_188 : decode cX6_gatherMeans 188 = .ok (.return_, 1) := by decide +kernel
theorem dX6_countWays_0 : decode cX6_countWays 0 = .ok (.aload_n 0, 1) := by decide +kernel
theorem dX6_countWays_1 : decode cX6_countWays 1 = .ok (.getfield 22, 3) := by decide +kernel
theorem dX6_countWays_4 : decode cX6_countWays 4 = .ok (.iconst 0, 1) := by decide +kernel
theorem dX6_countWays_5 : decode cX6_countWays 5 = .ok (.invokestatic 116, 3) := by decide +kernel
theorem dX6_countWays_8 : decode cX6_countWays 8 = .ok (.aload_n 0, 1) := by decide +kernel
theorem dX6_countWays_9 : decode cX6_countWays 9 = .ok (.getfield 25, 3) := by decide +kernel
theorem dX6_countWays_12 : decode cX6_countWays 12 = .ok (.iconst 0, 1) := by decide +kernel
theorem dX6_countWays_13 : decode cX6_countWays 13 = .ok (.invokestatic 116, 3) := by decide +kernel
theorem dX6_countWays_16 : decode cX6_countWays 16 = .ok (.lconst 0, 1) := by decide +kernel
theorem dX6_countWays_17 : decode cX6_countWays 17 = .ok (.lstore_n 2, 1) := by decide +kernel
theorem dX6_countWays_18 : decode cX6_countWays 18 = .ok (.iconst 0, 1) := by decide +kernel
theorem dX6_countWays_19 : decode cX6_countWays 19 = .ok (.istore 4, 2) := by decide +kernel
theorem dX6_countWays_21 : decode cX6_countWays 21 = .ok (.iload 4, 2) := by decide +kernel
theorem dX6_countWays_23 : decode cX6_countWays 23 = .ok (.aload_n 0, 1) := by decide +kernel
theorem dX6_countWays_24 : decode cX6_countWays 24 = .ok (.getfield 110, 3) := by decide +kernel
theorem dX6_countWays_27 : decode cX6_countWays 27 = .ok (.if_icmp .ge 26, 3) := by decide +kernel
theorem dX6_countWays_30 : decode cX6_countWays 30 = .ok (.iload 4, 2) := by decide +kernel
theorem dX6_countWays_32 : decode cX6_countWays 32 = .ok (.bipush 12, 2) := by decide +kernel
theorem dX6_countWays_34 : decode cX6_countWays 34 = .ok (.if_icmp .ge 19, 3) := by decide +kernel
theorem dX6_countWays_37 : decode cX6_countWays 37 = .ok (.lload_n 2, 1) := by decide +kernel
theorem dX6_countWays_38 : decode cX6_countWays 38 = .ok (.aload_n 0, 1) := by decide +kernel
theorem dX6_countWays_39 : decode cX6_countWays 39 = .ok (.getfield 18, 3) := by decide +kernel
theorem dX6_countWays_42 : decode cX6_countWays 42 = .ok (.iload 4, 2) := by decide +kernel
theorem dX6_countWays_44 : decode cX6_countWays 44 = .ok (.laload, 1) := by decide +kernel
theorem dX6_countWays_45 : decode cX6_countWays 45 = .ok (.ladd, 1) := by decide +kernel
theorem dX6_countWays_46 : decode cX6_countWays 46 = .ok (.lstore_n 2, 1) := by decide +kernel
theorem dX6_countWays_47 : decode cX6_countWays 47 = .ok (.iinc 4 1, 3) := by decide +kernel
theorem dX6_countWays_50 : decode cX6_countWays 50 = .ok (.goto (-29), 3) := by decide +kernel
theorem dX6_countWays_53 : decode cX6_countWays 53 = .ok (.iconst 0, 1) := by decide +kernel
theorem dX6_countWays_54 : decode cX6_countWays 54 = .ok (.istore 4, 2) := by decide +kernel
theorem dX6_countWays_56 : decode cX6_countWays 56 = .ok (.lconst 0, 1) := by decide +kernel
theorem dX6_countWays_57 : decode cX6_countWays 57 = .ok (.lstore 5, 2) := by decide +kernel
theorem dX6_countWays_59 : decode cX6_countWays 59 = .ok (.iconst 1, 1) := by decide +kernel
theorem dX6_countWays_60 : decode cX6_countWays 60 = .ok (.istore 7, 2) := by decide +kernel
theorem dX6_countWays_62 : decode cX6_countWays 62 = .ok (.iload 7, 2) := by decide +kernel
theorem dX6_countWays_64 : decode cX6_countWays 64 = .ok (.iconst 1, 1) := by decide +kernel
theorem dX6_countWays_65 : decode cX6_countWays 65 = .ok (.aload_n 0, 1) := by decide +kernel
theorem dX6_countWays_66 : decode cX6_countWays 66 = .ok (.getfield 110, 3) := by decide +kernel
theorem dX6_countWays_69 : decode cX6_countWays 69 = .ok (.ishl, 1) := by decide +kernel
theorem dX6_countWays_70 : decode cX6_countWays 70 = .ok (.if_icmp .ge 146, 3) := by decide +kernel
theorem dX6_countWays_73 : decode cX6_countWays 73 = .ok (.iload 7, 2) := by decide +kernel
theorem dX6_countWays_75 : decode cX6_countWays 75 = .ok (.invokestatic 122, 3) := by decide +kernel
theorem dX6_countWays_78 : decode cX6_countWays 78 = .ok (.istore 8, 2) := by decide +kernel
theorem dX6_countWays_80 : decode cX6_countWays 80 = .ok (.iload 4, 2) := by decide +kernel
theorem dX6_countWays_82 : decode cX6_countWays 82 = .ok (.iconst 1, 1) := by decide +kernel
theorem dX6_countWays_83 : decode cX6_countWays 83 = .ok (.iload 8, 2) := by decide +kernel
theorem dX6_countWays_85 : decode cX6_countWays 85 = .ok (.ishl, 1) := by decide +kernel
theorem dX6_countWays_86 : decode cX6_countWays 86 = .ok (.ixor, 1) := by decide +kernel
theorem dX6_countWays_87 : decode cX6_countWays 87 = .ok (.istore 4, 2) := by decide +kernel
theorem dX6_countWays_89 : decode cX6_countWays 89 = .ok (.lload 5, 2) := by decide +kernel
theorem dX6_countWays_91 : decode cX6_countWays 91 = .ok (.iload 8, 2) := by decide +kernel
theorem dX6_countWays_93 : decode cX6_countWays 93 = .ok (.bipush 12, 2) := by decide +kernel
theorem dX6_countWays_95 : decode cX6_countWays 95 = .ok (.if_icmp .lt 7, 3) := by decide +kernel
theorem dX6_countWays_98 : decode cX6_countWays 98 = .ok (.lconst 0, 1) := by decide +kernel
theorem dX6_countWays_99 : decode cX6_countWays 99 = .ok (.goto 31, 3) := by decide +kernel
theorem dX6_countWays_102 : decode cX6_countWays 102 = .ok (.iload 4, 2) := by decide +kernel
theorem dX6_countWays_104 : decode cX6_countWays 104 = .ok (.iload 8, 2) := by decide +kernel
theorem dX6_countWays_106 : decode cX6_countWays 106 = .ok (.invokestatic 127, 3) := by decide +kernel
theorem dX6_countWays_109 : decode cX6_countWays 109 = .ok (.ifCond .eq 13, 3) := by decide +kernel
theorem dX6_countWays_112 : decode cX6_countWays 112 = .ok (.aload_n 0, 1) := by decide +kernel
theorem dX6_countWays_113 : decode cX6_countWays 113 = .ok (.getfield 18, 3) := by decide +kernel
theorem dX6_countWays_116 : decode cX6_countWays 116 = .ok (.iload 8, 2) := by decide +kernel
theorem dX6_countWays_118 : decode cX6_countWays 118 = .ok (.laload, 1) := by decide +kernel
theorem dX6_countWays_119 : decode cX6_countWays 119 = .ok (.goto 11, 3) := by decide +kernel
theorem dX6_countWays_122 : decode cX6_countWays 122 = .ok (.aload_n 0, 1) := by decide +kernel
theorem dX6_countWays_123 : decode cX6_countWays 123 = .ok (.getfield 18, 3) := by decide +kernel
theorem dX6_countWays_126 : decode cX6_countWays 126 = .ok (.iload 8, 2) := by decide +kernel
theorem dX6_countWays_128 : decode cX6_countWays 128 = .ok (.laload, 1) := by decide +kernel
theorem dX6_countWays_129 : decode cX6_countWays 129 = .ok (.lneg, 1) := by decide +kernel
theorem dX6_countWays_130 : decode cX6_countWays 130 = .ok (.ladd, 1) := by decide +kernel
theorem dX6_countWays_131 : decode cX6_countWays 131 = .ok (.lstore 5, 2) := by decide +kernel
theorem dX6_countWays_133 : decode cX6_countWays 133 = .ok (.iload 4, 2) := by decide +kernel
theorem dX6_countWays_135 : decode cX6_countWays 135 = .ok (.invokestatic 131, 3) := by decide +kernel
theorem dX6_countWays_138 : decode cX6_countWays 138 = .ok (.istore 9, 2) := by decide +kernel
theorem dX6_countWays_140 : decode cX6_countWays 140 = .ok (.iload 9, 2) := by decide +kernel
theorem dX6_countWays_142 : decode cX6_countWays 142 = .ok (.bipush 12, 2) := by decide +kernel
theorem dX6_countWays_144 : decode cX6_countWays 144 = .ok (.if_icmp .gt 66, 3) := by decide +kernel
theorem dX6_countWays_147 : decode cX6_countWays 147 = .ok (.aload_n 0, 1) := by decide +kernel
theorem dX6_countWays_148 : decode cX6_countWays 148 = .ok (.getfield 22, 3) := by decide +kernel
theorem dX6_countWays_151 : decode cX6_countWays 151 = .ok (.iload 9, 2) := by decide +kernel
theorem dX6_countWays_153 : decode cX6_countWays 153 = .ok (.dup2, 1) := by decide +kernel
theorem dX6_countWays_154 : decode cX6_countWays 154 = .ok (.iaload, 1) := by decide +kernel
theorem dX6_countWays_155 : decode cX6_countWays 155 = .ok (.iconst 1, 1) := by decide +kernel
theorem dX6_countWays_156 : decode cX6_countWays 156 = .ok (.iadd, 1) := by decide +kernel
theorem dX6_countWays_157 : decode cX6_countWays 157 = .ok (.iastore, 1) := by decide +kernel
theorem dX6_countWays_158 : decode cX6_countWays 158 = .ok (.aload_n 0, 1) := by decide +kernel
theorem dX6_countWays_159 : decode cX6_countWays 159 = .ok (.getfield 25, 3) := by decide +kernel
theorem dX6_countWays_162 : decode cX6_countWays 162 = .ok (.iload 9, 2) := by decide +kernel
theorem dX6_countWays_164 : decode cX6_countWays 164 = .ok (.dup2, 1) := by decide +kernel
theorem dX6_countWays_165 : decode cX6_countWays 165 = .ok (.iaload, 1) := by decide +kernel
theorem dX6_countWays_166 : decode cX6_countWays 166 = .ok (.lload 5, 2) := by decide +kernel
theorem dX6_countWays_168 : decode cX6_countWays 168 = .ok (.aload_n 0, 1) := by decide +kernel
theorem dX6_countWays_169 : decode cX6_countWays 169 = .ok (.getfield 110, 3) := by decide +kernel
theorem dX6_countWays_172 : decode cX6_countWays 172 = .ok (.i2l, 1) := by decide +kernel
theorem dX6_countWays_173 : decode cX6_countWays 173 = .ok (.lmul, 1) := by decide +kernel
theorem dX6_countWays_174 : decode cX6_countWays 174 = .ok (.lload_n 2, 1) := by decide +kernel
theorem dX6_countWays_175 : decode cX6_countWays 175 = .ok (.iload 9, 2) := by decide +kernel
theorem dX6_countWays_177 : decode cX6_countWays 177 = .ok (.i2l, 1) := by decide +kernel
theorem dX6_countWays_178 : decode cX6_countWays 178 = .ok (.lmul, 1) := by decide +kernel
theorem dX6_countWays_179 : decode cX6_countWays 179 = .ok (.lsub, 1) := by decide +kernel
theorem dX6_countWays_180 : decode cX6_countWays 180 = .ok (.invokestatic 134, 3) := by decide +kernel
theorem dX6_countWays_183 : decode cX6_countWays 183 = .ok (.iload_n 1, 1) := by decide +kernel
theorem dX6_countWays_184 : decode cX6_countWays 184 = .ok (.i2l, 1) := by decide +kernel
theorem dX6_countWays_185 : decode cX6_countWays 185 = .ok (.ldc2_w 114, 3) := by decide +kernel
theorem dX6_countWays_188 : decode cX6_countWays 188 = .ok (.lmul, 1) := by decide +kernel
theorem dX6_countWays_189 : decode cX6_countWays 189 = .ok (.aload_n 0, 1) := by decide +kernel
theorem dX6_countWays_190 : decode cX6_countWays 190 = .ok (.getfield 110, 3) := by decide +kernel
theorem dX6_countWays_193 : decode cX6_countWays 193 = .ok (.i2l, 1) := by decide +kernel
theorem dX6_countWays_194 : decode cX6_countWays 194 = .ok (.lmul, 1) := by decide +kernel
theorem dX6_countWays_195 : decode cX6_countWays 195 = .ok (.iload 9, 2) := by decide +kernel
theorem dX6_countWays_197 : decode cX6_countWays 197 = .ok (.i2l, 1) := by decide +kernel
theorem dX6_countWays_198 : decode cX6_countWays 198 = .ok (.lmul, 1) := by decide +kernel
theorem dX6_countWays_199 : decode cX6_countWays 199 = .ok (.lcmp, 1) := by decide +kernel
theorem dX6_countWays_200 : decode cX6_countWays 200 = .ok (.ifCond .gt 7, 3) := by decide +kernel
theorem dX6_countWays_203 : decode cX6_countWays 203 = .ok (.iconst 1, 1) := by decide +kernel
theorem dX6_countWays_204 : decode cX6_countWays 204 = .ok (.goto 4, 3) := by decide +kernel
theorem dX6_countWays_207 : decode cX6_countWays 207 = .ok (.iconst 0, 1) := by decide +kernel
theorem dX6_countWays_208 : decode cX6_countWays 208 = .ok (.iadd, 1) := by decide +kernel
theorem dX6_countWays_209 : decode cX6_countWays 209 = .ok (.iastore, 1) := by decide +kernel
theorem dX6_countWays_210 : decode cX6_countWays 210 = .ok (.iinc 7 1, 3) := by decide +kernel
theorem dX6_countWays_213 : decode cX6_countWays 213 = .ok (.goto (-151), 3) := by decide +kernel
theorem dX6_countWays_216 : decode cX6_countWays 216 = .ok (.return_, 1) := by decide +kernel
theorem dX6_effect_0 : decode cX6_effect 0 = .ok (.iload_n 1, 1) := by decide +kernel
theorem dX6_effect_1 : decode cX6_effect 1 = .ok (.invokestatic 99, 3) := by decide +kernel
theorem dX6_effect_4 : decode cX6_effect 4 = .ok (.ifCond .eq 24, 3) := by decide +kernel
theorem dX6_effect_7 : decode cX6_effect 7 = .ok (.aload_n 0, 1) := by decide +kernel
theorem dX6_effect_8 : decode cX6_effect 8 = .ok (.getfield 34, 3) := by decide +kernel
theorem dX6_effect_11 : decode cX6_effect 11 = .ok (.iload_n 2, 1) := by decide +kernel
theorem dX6_effect_12 : decode cX6_effect 12 = .ok (.invokevirtual 46, 3) := by decide +kernel
theorem dX6_effect_15 : decode cX6_effect 15 = .ok (.ifCond .eq 13, 3) := by decide +kernel
theorem dX6_effect_18 : decode cX6_effect 18 = .ok (.iload_n 3, 1) := by decide +kernel
theorem dX6_effect_19 : decode cX6_effect 19 = .ok (.iconst 1, 1) := by decide +kernel
theorem dX6_effect_20 : decode cX6_effect 20 = .ok (.bipush 11, 2) := by decide +kernel
theorem dX6_effect_22 : decode cX6_effect 22 = .ok (.invokestatic 96, 3) := by decide +kernel
theorem dX6_effect_25 : decode cX6_effect 25 = .ok (.ifCond .ne 5, 3) := by decide +kernel
theorem dX6_effect_28 : decode cX6_effect 28 = .ok (.iconst (-1), 1) := by decide +kernel
theorem dX6_effect_29 : decode cX6_effect 29 = .ok (.ireturn, 1) := by decide +kernel
theorem dX6_effect_30 : decode cX6_effect 30 = .ok (.aload_n 0, 1) := by decide +kernel
theorem dX6_effect_31 : decode cX6_effect 31 = .ok (.iload_n 1, 1) := by decide +kernel
theorem dX6_effect_32 : decode cX6_effect 32 = .ok (.iload_n 2, 1) := by decide +kernel
theorem dX6_effect_33 : decode cX6_effect 33 = .ok (.iload_n 3, 1) := by decide +kernel
theorem dX6_effect_34 : decode cX6_effect 34 = .ok (.invokevirtual 140, 3) := by decide +kernel
theorem dX6_effect_37 : decode cX6_effect 37 = .ok (.aload_n 0, 1) := by decide +kernel
theorem dX6_effect_38 : decode cX6_effect 38 = .ok (.getfield 31, 3) := by decide +kernel
theorem dX6_effect_41 : decode cX6_effect 41 = .ok (.iconst 0, 1) := by decide +kernel
theorem dX6_effect_42 : decode cX6_effect 42 = .ok (.laload, 1) := by decide +kernel
theorem dX6_effect_43 : decode cX6_effect 43 = .ok (.lconst 0, 1) := by decide +kernel
theorem dX6_effect_44 : decode cX6_effect 44 = .ok (.lcmp, 1) := by decide +kernel
theorem dX6_effect_45 : decode cX6_effect 45 = .ok (.ifCond .eq 36, 3) := by decide +kernel
theorem dX6_effect_48 : decode cX6_effect 48 = .ok (.aload_n 0, 1) := by decide +kernel
theorem dX6_effect_49 : decode cX6_effect 49 = .ok (.getfield 31, 3) := by decide +kernel
theorem dX6_effect_52 : decode cX6_effect 52 = .ok (.iconst 1, 1) := by decide +kernel
theorem dX6_effect_53 : decode cX6_effect 53 = .ok (.laload, 1) := by decide +kernel
theorem dX6_effect_54 : decode cX6_effect 54 = .ok (.lconst 0, 1) := by decide +kernel
theorem dX6_effect_55 : decode cX6_effect 55 = .ok (.lcmp, 1) := by decide +kernel
theorem dX6_effect_56 : decode cX6_effect 56 = .ok (.ifCond .eq 25, 3) := by decide +kernel
theorem dX6_effect_59 : decode cX6_effect 59 = .ok (.aload_n 0, 1) := by decide +kernel
theorem dX6_effect_60 : decode cX6_effect 60 = .ok (.getfield 31, 3) := by decide +kernel
theorem dX6_effect_63 : decode cX6_effect 63 = .ok (.iconst 2, 1) := by decide +kernel
theorem dX6_effect_64 : decode cX6_effect 64 = .ok (.laload, 1) := by decide +kernel
theorem dX6_effect_65 : decode cX6_effect 65 = .ok (.lconst 0, 1) := by decide +kernel
theorem dX6_effect_66 : decode cX6_effect 66 = .ok (.lcmp, 1) := by decide +kernel
theorem dX6_effect_67 : decode cX6_effect 67 = .ok (.ifCond .eq 14, 3) := by decide +kernel
theorem dX6_effect_70 : decode cX6_effect 70 = .ok (.aload_n 0, 1) := by decide +kernel
theorem dX6_effect_71 : decode cX6_effect 71 = .ok (.getfield 31, 3) := by decide +kernel
theorem dX6_effect_74 : decode cX6_effect 74 = .ok (.iconst 3, 1) := by decide +kernel
theorem dX6_effect_75 : decode cX6_effect 75 = .ok (.laload, 1) := by decide +kernel
theorem dX6_effect_76 : decode cX6_effect 76 = .ok (.lconst 0, 1) := by decide +kernel
theorem dX6_effect_77 : decode cX6_effect 77 = .ok (.lcmp, 1) := by decide +kernel
theorem dX6_effect_78 : decode cX6_effect 78 = .ok (.ifCond .ne 6, 3) := by decide +kernel
theorem dX6_effect_81 : decode cX6_effect 81 = .ok (.bipush (-2), 2) := by decide +kernel
theorem dX6_effect_83 : decode cX6_effect 83 = .ok (.ireturn, 1) := by decide +kernel
theorem dX6_effect_84 : decode cX6_effect 84 = .ok (.aload_n 0, 1) := by decide +kernel
theorem dX6_effect_85 : decode cX6_effect 85 = .ok (.getfield 28, 3) := by decide +kernel
theorem dX6_effect_88 : decode cX6_effect 88 = .ok (.iconst 1, 1) := by decide +kernel
theorem dX6_effect_89 : decode cX6_effect 89 = .ok (.laload, 1) := by decide +kernel
theorem dX6_effect_90 : decode cX6_effect 90 = .ok (.aload_n 0, 1) := by decide +kernel
theorem dX6_effect_91 : decode cX6_effect 91 = .ok (.getfield 31, 3) := by decide +kernel
theorem dX6_effect_94 : decode cX6_effect 94 = .ok (.iconst 0, 1) := by decide +kernel
theorem dX6_effect_95 : decode cX6_effect 95 = .ok (.laload, 1) := by decide +kernel
theorem dX6_effect_96 : decode cX6_effect 96 = .ok (.lmul, 1) := by decide +kernel
theorem dX6_effect_97 : decode cX6_effect 97 = .ok (.aload_n 0, 1) := by decide +kernel
theorem dX6_effect_98 : decode cX6_effect 98 = .ok (.getfield 28, 3) := by decide +kernel
theorem dX6_effect_101 : decode cX6_effect 101 = .ok (.iconst 0, 1) := by decide +kernel
theorem dX6_effect_102 : decode cX6_effect 102 = .ok (.laload, 1) := by decide +kernel
theorem dX6_effect_103 : decode cX6_effect 103 = .ok (.aload_n 0, 1) := by decide +kernel
theorem dX6_effect_104 : decode cX6_effect 104 = .ok (.getfield 31, 3) := by decide +kernel
theorem dX6_effect_107 : decode cX6_effect 107 = .ok (.iconst 1, 1) := by decide +kernel
theorem dX6_effect_108 : decode cX6_effect 108 = .ok (.laload, 1) := by decide +kernel
theorem dX6_effect_109 : decode cX6_effect 109 = .ok (.lmul, 1) := by decide +kernel
theorem dX6_effect_110 : decode cX6_effect 110 = .ok (.lsub, 1) := by decide +kernel
theorem dX6_effect_111 : decode cX6_effect 111 = .ok (.lstore 4, 2) := by decide +kernel
theorem dX6_effect_113 : decode cX6_effect 113 = .ok (.aload_n 0, 1) := by decide +kernel
theorem dX6_effect_114 : decode cX6_effect 114 = .ok (.getfield 28, 3) := by decide +kernel
theorem dX6_effect_117 : decode cX6_effect 117 = .ok (.iconst 3, 1) := by decide +kernel
theorem dX6_effect_118 : decode cX6_effect 118 = .ok (.laload, 1) := by decide +kernel
theorem dX6_effect_119 : decode cX6_effect 119 = .ok (.aload_n 0, 1) := by decide +kernel
theorem dX6_effect_120 : decode cX6_effect 120 = .ok (.getfield 31, 3) := by decide +kernel
theorem dX6_effect_123 : decode cX6_effect 123 = .ok (.iconst 2, 1) := by decide +kernel
theorem dX6_effect_124 : decode cX6_effect 124 = .ok (.laload, 1) := by decide +kernel
theorem dX6_effect_125 : decode cX6_effect 125 = .ok (.lmul, 1) := by decide +kernel
theorem dX6_effect_126 : decode cX6_effect 126 = .ok (.aload_n 0, 1) := by decide +kernel
theorem dX6_effect_127 : decode cX6_effect 127 = .ok (.getfield 28, 3) := by decide +kernel
theorem dX6_effect_130 : decode cX6_effect 130 = .ok (.iconst 2, 1) := by decide +kernel
theorem dX6_effect_131 : decode cX6_effect 131 = .ok (.laload, 1) := by decide +kernel
theorem dX6_effect_132 : decode cX6_effect 132 = .ok (.aload_n 0, 1) := by decide +kernel
theorem dX6_effect_133 : decode cX6_effect 133 = .ok (.getfield 31, 3) := by decide +kernel
theorem dX6_effect_136 : decode cX6_effect 136 = .ok (.iconst 3, 1) := by decide +kernel
theorem dX6_effect_137 : decode cX6_effect 137 = .ok (.laload, 1) := by decide +kernel
theorem dX6_effect_138 : decode cX6_effect 138 = .ok (.lmul, 1) := by decide +kernel
theorem dX6_effect_139 : decode cX6_effect 139 = .ok (.lsub, 1) := by decide +kernel
theorem dX6_effect_140 : decode cX6_effect 140 = .ok (.lstore 6, 2) := by decide +kernel
theorem dX6_effect_142 : decode cX6_effect 142 = .ok (.lload 4, 2) := by decide +kernel
theorem dX6_effect_144 : decode cX6_effect 144 = .ok (.aload_n 0, 1) := by decide +kernel
theorem dX6_effect_145 : decode cX6_effect 145 = .ok (.getfield 31, 3) := by decide +kernel
theorem dX6_effect_148 : decode cX6_effect 148 = .ok (.iconst 2, 1) := by decide +kernel
theorem dX6_effect_149 : decode cX6_effect 149 = .ok (.laload, 1) := by decide +kernel
theorem dX6_effect_150 : decode cX6_effect 150 = .ok (.lmul, 1) := by decide +kernel
theorem dX6_effect_151 : decode cX6_effect 151 = .ok (.aload_n 0, 1) := by decide +kernel
theorem dX6_effect_152 : decode cX6_effect 152 = .ok (.getfield 31, 3) := by decide +kernel
theorem dX6_effect_155 : decode cX6_effect 155 = .ok (.iconst 3, 1) := by decide +kernel
theorem dX6_effect_156 : decode cX6_effect 156 = .ok (.laload, 1) := by decide +kernel
theorem dX6_effect_157 : decode cX6_effect 157 = .ok (.lmul, 1) := by decide +kernel
theorem dX6_effect_158 : decode cX6_effect 158 = .ok (.lload 6, 2) := by decide +kernel
theorem dX6_effect_160 : decode cX6_effect 160 = .ok (.aload_n 0, 1) := by decide +kernel
theorem dX6_effect_161 : decode cX6_effect 161 = .ok (.getfield 31, 3) := by decide +kernel
theorem dX6_effect_164 : decode cX6_effect 164 = .ok (.iconst 0, 1) := by decide +kernel
theorem dX6_effect_165 : decode cX6_effect 165 = .ok (.laload, 1) := by decide +kernel
theorem dX6_effect_166 : decode cX6_effect 166 = .ok (.lmul, 1) := by decide +kernel
theorem dX6_effect_167 : decode cX6_effect 167 = .ok (.aload_n 0, 1) := by decide +kernel
theorem dX6_effect_168 : decode cX6_effect 168 = .ok (.getfield 31, 3) := by decide +kernel
theorem dX6_effect_171 : decode cX6_effect 171 = .ok (.iconst 1, 1) := by decide +kernel
theorem dX6_effect_172 : decode cX6_effect 172 = .ok (.laload, 1) := by decide +kernel
theorem dX6_effect_173 : decode cX6_effect 173 = .ok (.lmul, 1) := by decide +kernel
theorem dX6_effect_174 : decode cX6_effect 174 = .ok (.lsub, 1) := by decide +kernel
theorem dX6_effect_175 : decode cX6_effect 175 = .ok (.lstore 8, 2) := by decide +kernel
theorem dX6_effect_177 : decode cX6_effect 177 = .ok (.aload_n 0, 1) := by decide +kernel
theorem dX6_effect_178 : decode cX6_effect 178 = .ok (.getfield 42, 3) := by decide +kernel
theorem dX6_effect_181 : decode cX6_effect 181 = .ok (.invokevirtual 73, 3) := by decide +kernel
theorem dX6_effect_184 : decode cX6_effect 184 = .ok (.lload 8, 2) := by decide +kernel
theorem dX6_effect_186 : decode cX6_effect 186 = .ok (.aload_n 0, 1) := by decide +kernel
theorem dX6_effect_187 : decode cX6_effect 187 = .ok (.getfield 31, 3) := by decide +kernel
theorem dX6_effect_190 : decode cX6_effect 190 = .ok (.iconst 0, 1) := by decide +kernel
theorem dX6_effect_191 : decode cX6_effect 191 = .ok (.laload, 1) := by decide +kernel
theorem dX6_effect_192 : decode cX6_effect 192 = .ok (.aload_n 0, 1) := by decide +kernel
theorem dX6_effect_193 : decode cX6_effect 193 = .ok (.getfield 31, 3) := by decide +kernel
theorem dX6_effect_196 : decode cX6_effect 196 = .ok (.iconst 1, 1) := by decide +kernel
theorem dX6_effect_197 : decode cX6_effect 197 = .ok (.laload, 1) := by decide +kernel
theorem dX6_effect_198 : decode cX6_effect 198 = .ok (.lmul, 1) := by decide +kernel
theorem dX6_effect_199 : decode cX6_effect 199 = .ok (.aload_n 0, 1) := by decide +kernel
theorem dX6_effect_200 : decode cX6_effect 200 = .ok (.getfield 31, 3) := by decide +kernel
theorem dX6_effect_203 : decode cX6_effect 203 = .ok (.iconst 2, 1) := by decide +kernel
theorem dX6_effect_204 : decode cX6_effect 204 = .ok (.laload, 1) := by decide +kernel
theorem dX6_effect_205 : decode cX6_effect 205 = .ok (.lmul, 1) := by decide +kernel
theorem dX6_effect_206 : decode cX6_effect 206 = .ok (.aload_n 0, 1) := by decide +kernel
theorem dX6_effect_207 : decode cX6_effect 207 = .ok (.getfield 31, 3) := by decide +kernel
theorem dX6_effect_210 : decode cX6_effect 210 = .ok (.iconst 3, 1) := by decide +kernel
theorem dX6_effect_211 : decode cX6_effect 211 = .ok (.laload, 1) := by decide +kernel
theorem dX6_effect_212 : decode cX6_effect 212 = .ok (.lmul, 1) := by decide +kernel
theorem dX6_effect_213 : decode cX6_effect 213 = .ok (.invokevirtual 144, 3) := by decide +kernel
theorem dX6_effect_216 : decode cX6_effect 216 = .ok (.pop, 1) := by decide +kernel
theorem dX6_effect_217 : decode cX6_effect 217 = .ok (.lload 8, 2) := by decide +kernel
theorem dX6_effect_219 : decode cX6_effect 219 = .ok (.lconst 0, 1) := by decide +kernel
theorem dX6_effect_220 : decode cX6_effect 220 = .ok (.lcmp, 1) := by decide +kernel
theorem dX6_effect_221 : decode cX6_effect 221 = .ok (.ifCond .le 7, 3) := by decide +kernel
theorem dX6_effect_224 : decode cX6_effect 224 = .ok (.iconst 1, 1) := by decide +kernel
theorem dX6_effect_225 : decode cX6_effect 225 = .ok (.goto 15, 3) := by decide +kernel
theorem dX6_effect_228 : decode cX6_effect 228 = .ok (.lload 8, 2) := by decide +kernel
theorem dX6_effect_230 : decode cX6_effect 230 = .ok (.lconst 0, 1) := by decide +kernel
theorem dX6_effect_231 : decode cX6_effect 231 = .ok (.lcmp, 1) := by decide +kernel
theorem dX6_effect_232 : decode cX6_effect 232 = .ok (.ifCond .ge 7, 3) := by decide +kernel
theorem dX6_effect_235 : decode cX6_effect 235 = .ok (.iconst 2, 1) := by decide +kernel
theorem dX6_effect_236 : decode cX6_effect 236 = .ok (.goto 4, 3) := by decide +kernel
theorem dX6_effect_239 : decode cX6_effect 239 = .ok (.iconst 0, 1) := by decide +kernel
theorem dX6_effect_240 : decode cX6_effect 240 = .ok (.ireturn, 1) := by decide +kernel
theorem dX6_gatherGroups_0 : decode cX6_gatherGroups 0 = .ok (.aload_n 0, 1) := by decide +kernel
theorem dX6_gatherGroups_1 : decode cX6_gatherGroups 1 = .ok (.getfield 28, 3) := by decide +kernel
theorem dX6_gatherGroups_4 : decode cX6_gatherGroups 4 = .ok (.lconst 0, 1) := by decide +kernel
theorem dX6_gatherGroups_5 : decode cX6_gatherGroups 5 = .ok (.invokestatic 148, 3) := by decide +kernel
theorem dX6_gatherGroups_8 : decode cX6_gatherGroups 8 = .ok (.aload_n 0, 1) := by decide +kernel
theorem dX6_gatherGroups_9 : decode cX6_gatherGroups 9 = .ok (.getfield 31, 3) := by decide +kernel
theorem dX6_gatherGroups_12 : decode cX6_gatherGroups 12 = .ok (.lconst 0, 1) := by decide +kernel
theorem dX6_gatherGroups_13 : decode cX6_gatherGroups 13 = .ok (.invokestatic 148, 3) := by decide +kernel
theorem dX6_gatherGroups_16 : decode cX6_gatherGroups 16 = .ok (.iconst 0, 1) := by decide +kernel
theorem dX6_gatherGroups_17 : decode cX6_gatherGroups 17 = .ok (.istore 4, 2) := by decide +kernel
theorem dX6_gatherGroups_19 : decode cX6_gatherGroups 19 = .ok (.iload 4, 2) := by decide +kernel
theorem dX6_gatherGroups_21 : decode cX6_gatherGroups 21 = .ok (.aload_n 0, 1) := by decide +kernel
theorem dX6_gatherGroups_22 : decode cX6_gatherGroups 22 = .ok (.getfield 34, 3) := by decide +kernel
theorem dX6_gatherGroups_25 : decode cX6_gatherGroups 25 = .ok (.invokevirtual 151, 3) := by decide +kernel
theorem dX6_gatherGroups_28 : decode cX6_gatherGroups 28 = .ok (.if_icmp .ge 104, 3) := by decide +kernel
theorem dX6_gatherGroups_31 : decode cX6_gatherGroups 31 = .ok (.aload_n 0, 1) := by decide +kernel
theorem dX6_gatherGroups_32 : decode cX6_gatherGroups 32 = .ok (.getfield 34, 3) := by decide +kernel
theorem dX6_gatherGroups_35 : decode cX6_gatherGroups 35 = .ok (.iload 4, 2) := by decide +kernel
theorem dX6_gatherGroups_37 : decode cX6_gatherGroups 37 = .ok (.bipush 12, 2) := by decide +kernel
theorem dX6_gatherGroups_39 : decode cX6_gatherGroups 39 = .ok (.idiv, 1) := by decide +kernel
theorem dX6_gatherGroups_40 : decode cX6_gatherGroups 40 = .ok (.invokevirtual 154, 3) := by decide +kernel
theorem dX6_gatherGroups_43 : decode cX6_gatherGroups 43 = .ok (.istore 5, 2) := by decide +kernel
theorem dX6_gatherGroups_45 : decode cX6_gatherGroups 45 = .ok (.iload 5, 2) := by decide +kernel
theorem dX6_gatherGroups_47 : decode cX6_gatherGroups 47 = .ok (.iload_n 3, 1) := by decide +kernel
theorem dX6_gatherGroups_48 : decode cX6_gatherGroups 48 = .ok (.if_icmp .gt 78, 3) := by decide +kernel
theorem dX6_gatherGroups_51 : decode cX6_gatherGroups 51 = .ok (.aload_n 0, 1) := by decide +kernel
theorem dX6_gatherGroups_52 : decode cX6_gatherGroups 52 = .ok (.getfield 38, 3) := by decide +kernel
theorem dX6_gatherGroups_55 : decode cX6_gatherGroups 55 = .ok (.iload_n 1, 1) := by decide +kernel
theorem dX6_gatherGroups_56 : decode cX6_gatherGroups 56 = .ok (.iload 4, 2) := by decide +kernel
theorem dX6_gatherGroups_58 : decode cX6_gatherGroups 58 = .ok (.iload_n 2, 1) := by decide +kernel
theorem dX6_gatherGroups_59 : decode cX6_gatherGroups 59 = .ok (.invokevirtual 59, 3) := by decide +kernel
theorem dX6_gatherGroups_62 : decode cX6_gatherGroups 62 = .ok (.ifCond .eq 64, 3) := by decide +kernel
theorem dX6_gatherGroups_65 : decode cX6_gatherGroups 65 = .ok (.iload 5, 2) := by decide +kernel
theorem dX6_gatherGroups_67 : decode cX6_gatherGroups 67 = .ok (.iconst (-1), 1) := by decide +kernel
theorem dX6_gatherGroups_68 : decode cX6_gatherGroups 68 = .ok (.if_icmp .ne 7, 3) := by decide +kernel
theorem dX6_gatherGroups_71 : decode cX6_gatherGroups 71 = .ok (.iconst 2, 1) := by decide +kernel
theorem dX6_gatherGroups_72 : decode cX6_gatherGroups 72 = .ok (.goto 4, 3) := by decide +kernel
theorem dX6_gatherGroups_75 : decode cX6_gatherGroups 75 = .ok (.iconst 0, 1) := by decide +kernel
theorem dX6_gatherGroups_76 : decode cX6_gatherGroups 76 = .ok (.iload 4, 2) := by decide +kernel
theorem dX6_gatherGroups_78 : decode cX6_gatherGroups 78 = .ok (.bipush 12, 2) := by decide +kernel
theorem dX6_gatherGroups_80 : decode cX6_gatherGroups 80 = .ok (.irem, 1) := by decide +kernel
theorem dX6_gatherGroups_81 : decode cX6_gatherGroups 81 = .ok (.iload_n 3, 1) := by decide +kernel
theorem dX6_gatherGroups_82 : decode cX6_gatherGroups 82 = .ok (.if_icmp .ge 7, 3) := by decide +kernel
theorem dX6_gatherGroups_85 : decode cX6_gatherGroups 85 = .ok (.iconst 0, 1) := by decide +kernel
theorem dX6_gatherGroups_86 : decode cX6_gatherGroups 86 = .ok (.goto 4, 3) := by decide +kernel
theorem dX6_gatherGroups_89 : decode cX6_gatherGroups 89 = .ok (.iconst 1, 1) := by decide +kernel
theorem dX6_gatherGroups_90 : decode cX6_gatherGroups 90 = .ok (.iadd, 1) := by decide +kernel
theorem dX6_gatherGroups_91 : decode cX6_gatherGroups 91 = .ok (.istore 6, 2) := by decide +kernel
theorem dX6_gatherGroups_93 : decode cX6_gatherGroups 93 = .ok (.aload_n 0, 1) := by decide +kernel
theorem dX6_gatherGroups_94 : decode cX6_gatherGroups 94 = .ok (.getfield 28, 3) := by decide +kernel
theorem dX6_gatherGroups_97 : decode cX6_gatherGroups 97 = .ok (.iload 6, 2) := by decide +kernel
theorem dX6_gatherGroups_99 : decode cX6_gatherGroups 99 = .ok (.dup2, 1) := by decide +kernel
theorem dX6_gatherGroups_100 : decode cX6_gatherGroups 100 = .ok (.laload, 1) := by decide +kernel
theorem dX6_gatherGroups_101 : decode cX6_gatherGroups 101 = .ok (.aload_n 0, 1) := by decide +kernel
theorem dX6_gatherGroups_102 : decode cX6_gatherGroups 102 = .ok (.getfield 38, 3) := by decide +kernel
theorem dX6_gatherGroups_105 : decode cX6_gatherGroups 105 = .ok (.iload_n 1, 1) := by decide +kernel
theorem dX6_gatherGroups_106 : decode cX6_gatherGroups 106 = .ok (.iload 4, 2) := by decide +kernel
theorem dX6_gatherGroups_108 : decode cX6_gatherGroups 108 = .ok (.iload_n 2, 1) := by decide +kernel
theorem dX6_gatherGroups_109 : decode cX6_gatherGroups 109 = .ok (.invokevirtual 65, 3) := by decide +kernel
theorem dX6_gatherGroups_112 : decode cX6_gatherGroups 112 = .ok (.i2l, 1) := by decide +kernel
theorem dX6_gatherGroups_113 : decode cX6_gatherGroups 113 = .ok (.ladd, 1) := by decide +kernel
theorem dX6_gatherGroups_114 : decode cX6_gatherGroups 114 = .ok (.lastore, 1) := by decide +kernel
theorem dX6_gatherGroups_115 : decode cX6_gatherGroups 115 = .ok (.aload_n 0, 1) := by decide +kernel
theorem dX6_gatherGroups_116 : decode cX6_gatherGroups 116 = .ok (.getfield 31, 3) := by decide +kernel
theorem dX6_gatherGroups_119 : decode cX6_gatherGroups 119 = .ok (.iload 6, 2) := by decide +kernel
theorem dX6_gatherGroups_121 : decode cX6_gatherGroups 121 = .ok (.dup2, 1) := by decide +kernel
theorem dX6_gatherGroups_122 : decode cX6_gatherGroups 122 = .ok (.laload, 1) := by decide +kernel
theorem dX6_gatherGroups_123 : decode cX6_gatherGroups 123 = .ok (.lconst 1, 1) := by decide +kernel
theorem dX6_gatherGroups_124 : decode cX6_gatherGroups 124 = .ok (.ladd, 1) := by decide +kernel
theorem dX6_gatherGroups_125 : decode cX6_gatherGroups 125 = .ok (.lastore, 1) := by decide +kernel
theorem dX6_gatherGroups_126 : decode cX6_gatherGroups 126 = .ok (.iinc 4 1, 3) := by decide +kernel
theorem dX6_gatherGroups_129 : decode cX6_gatherGroups 129 = .ok (.goto (-110), 3) := by decide +kernel
theorem dX6_gatherGroups_132 : decode cX6_gatherGroups 132 = .ok (.return_, 1) := by decide +kernel
theorem dX7_init_0 : decode cX7_init 0 = .ok (.aload_n 0, 1) := by decide +kernel
theorem dX7_init_1 : decode cX7_init 1 = .ok (.invokespecial 3, 3) := by decide +kernel
theorem dX7_init_4 : decode cX7_init 4 = .ok (.aload_n 0, 1) := by decide +kernel
theorem dX7_init_5 : decode cX7_init 5 = .ok (.bipush 64, 2) := by decide +kernel
theorem dX7_init_7 : decode cX7_init 7 = .ok (.newarray .int, 2) := by decide +kernel
theorem dX7_init_9 : decode cX7_init 9 = .ok (.putfield 9, 3) := by decide +kernel
theorem dX7_init_12 : decode cX7_init 12 = .ok (.aload_n 0, 1) := by decide +kernel
theorem dX7_init_13 : decode cX7_init 13 = .ok (.aload_n 1, 1) := by decide +kernel
theorem dX7_init_14 : decode cX7_init 14 = .ok (.putfield 15, 3) := by decide +kernel
theorem dX7_init_17 : decode cX7_init 17 = .ok (.aload_n 0, 1) := by decide +kernel
theorem dX7_init_18 : decode cX7_init 18 = .ok (.aload_n 2, 1) := by decide +kernel
theorem dX7_init_19 : decode cX7_init 19 = .ok (.putfield 19, 3) := by decide +kernel
theorem dX7_init_22 : decode cX7_init 22 = .ok (.aload_n 0, 1) := by decide +kernel
theorem dX7_init_23 : decode cX7_init 23 = .ok (.aload_n 3, 1) := by decide +kernel
theorem dX7_init_24 : decode cX7_init 24 = .ok (.putfield 23, 3) := by decide +kernel
theorem dX7_init_27 : decode cX7_init 27 = .ok (.return_, 1) := by decide +kernel
theorem dX7_size_0 : decode cX7_size 0 = .ok (.aload_n 0, 1) := by decide +kernel
theorem dX7_size_1 : decode cX7_size 1 = .ok (.getfield 27, 3) := by decide +kernel
theorem dX7_size_4 : decode cX7_size 4 = .ok (.ireturn, 1) := by decide +kernel
theorem dX7_add_0 : decode cX7_add 0 = .ok (.aload_n 0, 1) := by decide +kernel
theorem dX7_add_1 : decode cX7_add 1 = .ok (.getfield 15, 3) := by decide +kernel
theorem dX7_add_4 : decode cX7_add 4 = .ok (.iload_n 1, 1) := by decide +kernel
theorem dX7_add_5 : decode cX7_add 5 = .ok (.invokevirtual 31, 3) := by decide +kernel
theorem dX7_add_8 : decode cX7_add 8 = .ok (.ifCond .eq 36, 3) := by decide +kernel
theorem dX7_add_11 : decode cX7_add 11 = .ok (.aload_n 0, 1) := by decide +kernel
theorem dX7_add_12 : decode cX7_add 12 = .ok (.getfield 15, 3) := by decide +kernel
theorem dX7_add_15 : decode cX7_add 15 = .ok (.iload_n 2, 1) := by decide +kernel
theorem dX7_add_16 : decode cX7_add 16 = .ok (.invokevirtual 31, 3) := by decide +kernel
theorem dX7_add_19 : decode cX7_add 19 = .ok (.ifCond .eq 25, 3) := by decide +kernel
theorem dX7_add_22 : decode cX7_add 22 = .ok (.iload_n 3, 1) := by decide +kernel
theorem dX7_add_23 : decode cX7_add 23 = .ok (.iconst 1, 1) := by decide +kernel
theorem dX7_add_24 : decode cX7_add 24 = .ok (.bipush 99, 2) := by decide +kernel
theorem dX7_add_26 : decode cX7_add 26 = .ok (.invokestatic 37, 3) := by decide +kernel
theorem dX7_add_29 : decode cX7_add 29 = .ok (.ifCond .eq 15, 3) := by decide +kernel
theorem dX7_add_32 : decode cX7_add 32 = .ok (.aload_n 0, 1) := by decide +kernel
theorem dX7_add_33 : decode cX7_add 33 = .ok (.getfield 27, 3) := by decide +kernel
theorem dX7_add_36 : decode cX7_add 36 = .ok (.iload_n 3, 1) := by decide +kernel
theorem dX7_add_37 : decode cX7_add 37 = .ok (.iadd, 1) := by decide +kernel
theorem dX7_add_38 : decode cX7_add 38 = .ok (.sipush 9999, 3) := by decide +kernel
theorem dX7_add_41 : decode cX7_add 41 = .ok (.if_icmp .le 5, 3) := by decide +kernel
theorem dX7_add_44 : decode cX7_add 44 = .ok (.iconst (-1), 1) := by decide +kernel
theorem dX7_add_45 : decode cX7_add 45 = .ok (.ireturn, 1) := by decide +kernel
theorem dX7_add_46 : decode cX7_add 46 = .ok (.aload_n 0, 1) := by decide +kernel
theorem dX7_add_47 : decode cX7_add 47 = .ok (.getfield 9, 3) := by decide +kernel
theorem dX7_add_50 : decode cX7_add 50 = .ok (.iload_n 1, 1) := by decide +kernel
theorem dX7_add_51 : decode cX7_add 51 = .ok (.bipush 8, 2) := by decide +kernel
theorem dX7_add_53 : decode cX7_add 53 = .ok (.imul, 1) := by decide +kernel
theorem dX7_add_54 : decode cX7_add 54 = .ok (.iload_n 2, 1) := by decide +kernel
theorem dX7_add_55 : decode cX7_add 55 = .ok (.iadd, 1) := by decide +kernel
theorem dX7_add_56 : decode cX7_add 56 = .ok (.dup2, 1) := by decide +kernel
theorem dX7_add_57 : decode cX7_add 57 = .ok (.iaload, 1) := by decide +kernel
theorem dX7_add_58 : decode cX7_add 58 = .ok (.iload_n 3, 1) := by decide +kernel
theorem dX7_add_59 : decode cX7_add 59 = .ok (.iadd, 1) := by decide +kernel
theorem dX7_add_60 : decode cX7_add 60 = .ok (.iastore, 1) := by decide +kernel
theorem dX7_add_61 : decode cX7_add 61 = .ok (.aload_n 0, 1) := by decide +kernel
theorem dX7_add_62 : decode cX7_add 62 = .ok (.dup, 1) := by decide +kernel
theorem dX7_add_63 : decode cX7_add 63 = .ok (.getfield 27, 3) := by decide +kernel
theorem dX7_add_66 : decode cX7_add 66 = .ok (.iload_n 3, 1) := by decide +kernel
theorem dX7_add_67 : decode cX7_add 67 = .ok (.iadd, 1) := by decide +kernel
theorem dX7_add_68 : decode cX7_add 68 = .ok (.putfield 27, 3) := by decide +kernel
theorem dX7_add_71 : decode cX7_add 71 = .ok (.aload_n 0, 1) := by decide +kernel
theorem dX7_add_72 : decode cX7_add 72 = .ok (.getfield 27, 3) := by decide +kernel
theorem dX7_add_75 : decode cX7_add 75 = .ok (.ireturn, 1) := by decide +kernel
theorem dX7_takenAs_0 : decode cX7_takenAs 0 = .ok (.aload_n 0, 1) := by decide +kernel
theorem dX7_takenAs_1 : decode cX7_takenAs 1 = .ok (.getfield 15, 3) := by decide +kernel
theorem dX7_takenAs_4 : decode cX7_takenAs 4 = .ok (.iload_n 1, 1) := by decide +kernel
theorem dX7_takenAs_5 : decode cX7_takenAs 5 = .ok (.invokevirtual 31, 3) := by decide +kernel
theorem dX7_takenAs_8 : decode cX7_takenAs 8 = .ok (.ifCond .eq 28, 3) := by decide +kernel
theorem dX7_takenAs_11 : decode cX7_takenAs 11 = .ok (.aload_n 0, 1) := by decide +kernel
theorem dX7_takenAs_12 : decode cX7_takenAs 12 = .ok (.getfield 15, 3) := by decide +kernel
theorem dX7_takenAs_15 : decode cX7_takenAs 15 = .ok (.iload_n 2, 1) := by decide +kernel
theorem dX7_takenAs_16 : decode cX7_takenAs 16 = .ok (.invokevirtual 31, 3) := by decide +kernel
theorem dX7_takenAs_19 : decode cX7_takenAs 19 = .ok (.ifCond .eq 17, 3) := by decide +kernel
theorem dX7_takenAs_22 : decode cX7_takenAs 22 = .ok (.aload_n 0, 1) := by decide +kernel
theorem dX7_takenAs_23 : decode cX7_takenAs 23 = .ok (.getfield 9, 3) := by decide +kernel
theorem dX7_takenAs_26 : decode cX7_takenAs 26 = .ok (.iload_n 1, 1) := by decide +kernel
theorem dX7_takenAs_27 : decode cX7_takenAs 27 = .ok (.bipush 8, 2) := by decide +kernel
theorem dX7_takenAs_29 : decode cX7_takenAs 29 = .ok (.imul, 1) := by decide +kernel
theorem dX7_takenAs_30 : decode cX7_takenAs 30 = .ok (.iload_n 2, 1) := by decide +kernel
theorem dX7_takenAs_31 : decode cX7_takenAs 31 = .ok (.iadd, 1) := by decide +kernel
theorem dX7_takenAs_32 : decode cX7_takenAs 32 = .ok (.iaload, 1) := by decide +kernel
theorem dX7_takenAs_33 : decode cX7_takenAs 33 = .ok (.goto 4, 3) := by decide +kernel
theorem dX7_takenAs_36 : decode cX7_takenAs 36 = .ok (.iconst 0, 1) := by decide +kernel
theorem dX7_takenAs_37 : decode cX7_takenAs 37 = .ok (.ireturn, 1) := by decide +kernel
theorem dX7_takenByFirst_0 : decode cX7_takenByFirst 0 = .ok (.iconst 0, 1) := by decide +kernel
theorem dX7_takenByFirst_1 : decode cX7_takenByFirst 1 = .ok (.istore_n 2, 1) := by decide +kernel
theorem dX7_takenByFirst_2 : decode cX7_takenByFirst 2 = .ok (.iconst 0, 1) := by decide +kernel
theorem dX7_takenByFirst_3 : decode cX7_takenByFirst 3 = .ok (.istore_n 3, 1) := by decide +kernel
theorem dX7_takenByFirst_4 : decode cX7_takenByFirst 4 = .ok (.iload_n 3, 1) := by decide +kernel
theorem dX7_takenByFirst_5 : decode cX7_takenByFirst 5 = .ok (.aload_n 0, 1) := by decide +kernel
theorem dX7_takenByFirst_6 : decode cX7_takenByFirst 6 = .ok (.getfield 15, 3) := by decide +kernel
theorem dX7_takenByFirst_9 : decode cX7_takenByFirst 9 = .ok (.invokevirtual 41, 3) := by decide +kernel
theorem dX7_takenByFirst_12 : decode cX7_takenByFirst 12 = .ok (.if_icmp .ge 18, 3) := by decide +kernel
theorem dX7_takenByFirst_15 : decode cX7_takenByFirst 15 = .ok (.iload_n 2, 1) := by decide +kernel
theorem dX7_takenByFirst_16 : decode cX7_takenByFirst 16 = .ok (.aload_n 0, 1) := by decide +kernel
theorem dX7_takenByFirst_17 : decode cX7_takenByFirst 17 = .ok (.iload_n 1, 1) := by decide +kernel
theorem dX7_takenByFirst_18 : decode cX7_takenByFirst 18 = .ok (.iload_n 3, 1) := by decide +kernel
theorem dX7_takenByFirst_19 : decode cX7_takenByFirst 19 = .ok (.invokevirtual 45, 3) := by decide +kernel
theorem dX7_takenByFirst_22 : decode cX7_takenByFirst 22 = .ok (.iadd, 1) := by decide +kernel
theorem dX7_takenByFirst_23 : decode cX7_takenByFirst 23 = .ok (.istore_n 2, 1) := by decide +kernel
theorem dX7_takenByFirst_24 : decode cX7_takenByFirst 24 = .ok (.iinc 3 1, 3) := by decide +kernel
theorem dX7_takenByFirst_27 : decode cX7_takenByFirst 27 = .ok (.goto (-23), 3) := by decide +kernel
theorem dX7_takenByFirst_30 : decode cX7_takenByFirst 30 = .ok (.iload_n 2, 1) := by decide +kernel
theorem dX7_takenByFirst_31 : decode cX7_takenByFirst 31 = .ok (.ireturn, 1) := by decide +kernel
theorem dX7_takenBySecond_0 : decode cX7_takenBySecond 0 = .ok (.iconst 0, 1) := by decide +kernel
theorem dX7_takenBySecond_1 : decode cX7_takenBySecond 1 = .ok (.istore_n 2, 1) := by decide +kernel
theorem dX7_takenBySecond_2 : decode cX7_takenBySecond 2 = .ok (.iconst 0, 1) := by decide +kernel
theorem dX7_takenBySecond_3 : decode cX7_takenBySecond 3 = .ok (.istore_n 3, 1) := by decide +kernel
theorem dX7_takenBySecond_4 : decode cX7_takenBySecond 4 = .ok (.iload_n 3, 1) := by decide +kernel
theorem dX7_takenBySecond_5 : decode cX7_takenBySecond 5 = .ok (.aload_n 0, 1) := by decide +kernel
theorem dX7_takenBySecond_6 : decode cX7_takenBySecond 6 = .ok (.getfield 15, 3) := by decide +kernel
theorem dX7_takenBySecond_9 : decode cX7_takenBySecond 9 = .ok (.invokevirtual 41, 3) := by decide +kernel
theorem dX7_takenBySecond_12 : decode cX7_takenBySecond 12 = .ok (.if_icmp .ge 18, 3) := by decide +kernel
theorem dX7_takenBySecond_15 : decode cX7_takenBySecond 15 = .ok (.iload_n 2, 1) := by decide +kernel
theorem dX7_takenBySecond_16 : decode cX7_takenBySecond 16 = .ok (.aload_n 0, 1) := by decide +kernel
theorem dX7_takenBySecond_17 : decode cX7_takenBySecond 17 = .ok (.iload_n 3, 1) := by decide +kernel
theorem dX7_takenBySecond_18 : decode cX7_takenBySecond 18 = .ok (.iload_n 1, 1) := by decide +kernel
theorem dX7_takenBySecond_19 : decode cX7_takenBySecond 19 = .ok (.invokevirtual 45, 3) := by decide +kernel
theorem dX7_takenBySecond_22 : decode cX7_takenBySecond 22 = .ok (.iadd, 1) := by decide +kernel
theorem dX7_takenBySecond_23 : decode cX7_takenBySecond 23 = .ok (.istore_n 2, 1) := by decide +kernel
theorem dX7_takenBySecond_24 : decode cX7_takenBySecond 24 = .ok (.iinc 3 1, 3) := by decide +kernel
theorem dX7_takenBySecond_27 : decode cX7_takenBySecond 27 = .ok (.goto (-23), 3) := by decide +kernel
theorem dX7_takenBySecond_30 : decode cX7_takenBySecond 30 = .ok (.iload_n 2, 1) := by decide +kernel
theorem dX7_takenBySecond_31 : decode cX7_takenBySecond 31 = .ok (.ireturn, 1) := by decide +kernel
theorem dX7_agreed_0 : decode cX7_agreed 0 = .ok (.iconst 0, 1) := by decide +kernel
theorem dX7_agreed_1 : decode cX7_agreed 1 = .ok (.istore_n 1, 1) := by decide +kernel
theorem dX7_agreed_2 : decode cX7_agreed 2 = .ok (.lconst 0, 1) := by decide +kernel
theorem dX7_agreed_3 : decode cX7_agreed 3 = .ok (.lstore_n 2, 1) := by decide +kernel
theorem dX7_agreed_4 : decode cX7_agreed 4 = .ok (.iconst 0, 1) := by decide +kernel
theorem dX7_agreed_5 : decode cX7_agreed 5 = .ok (.istore 4, 2) := by decide +kernel
theorem dX7_agreed_7 : decode cX7_agreed 7 = .ok (.iload 4, 2) := by decide +kernel
theorem dX7_agreed_9 : decode cX7_agreed 9 = .ok (.aload_n 0, 1) := by decide +kernel
theorem dX7_agreed_10 : decode cX7_agreed 10 = .ok (.getfield 15, 3) := by decide +kernel
theorem dX7_agreed_13 : decode cX7_agreed 13 = .ok (.invokevirtual 41, 3) := by decide +kernel
theorem dX7_agreed_16 : decode cX7_agreed 16 = .ok (.if_icmp .ge 38, 3) := by decide +kernel
theorem dX7_agreed_19 : decode cX7_agreed 19 = .ok (.iload_n 1, 1) := by decide +kernel
theorem dX7_agreed_20 : decode cX7_agreed 20 = .ok (.aload_n 0, 1) := by decide +kernel
theorem dX7_agreed_21 : decode cX7_agreed 21 = .ok (.iload 4, 2) := by decide +kernel
theorem dX7_agreed_23 : decode cX7_agreed 23 = .ok (.iload 4, 2) := by decide +kernel
theorem dX7_agreed_25 : decode cX7_agreed 25 = .ok (.invokevirtual 45, 3) := by decide +kernel
theorem dX7_agreed_28 : decode cX7_agreed 28 = .ok (.iadd, 1) := by decide +kernel
theorem dX7_agreed_29 : decode cX7_agreed 29 = .ok (.istore_n 1, 1) := by decide +kernel
theorem dX7_agreed_30 : decode cX7_agreed 30 = .ok (.lload_n 2, 1) := by decide +kernel
theorem dX7_agreed_31 : decode cX7_agreed 31 = .ok (.aload_n 0, 1) := by decide +kernel
theorem dX7_agreed_32 : decode cX7_agreed 32 = .ok (.iload 4, 2) := by decide +kernel
theorem dX7_agreed_34 : decode cX7_agreed 34 = .ok (.invokevirtual 49, 3) := by decide +kernel
theorem dX7_agreed_37 : decode cX7_agreed 37 = .ok (.i2l, 1) := by decide +kernel
theorem dX7_agreed_38 : decode cX7_agreed 38 = .ok (.aload_n 0, 1) := by decide +kernel
theorem dX7_agreed_39 : decode cX7_agreed 39 = .ok (.iload 4, 2) := by decide +kernel
theorem dX7_agreed_41 : decode cX7_agreed 41 = .ok (.invokevirtual 53, 3) := by decide +kernel
theorem dX7_agreed_44 : decode cX7_agreed 44 = .ok (.i2l, 1) := by decide +kernel
theorem dX7_agreed_45 : decode cX7_agreed 45 = .ok (.lmul, 1) := by decide +kernel
theorem dX7_agreed_46 : decode cX7_agreed 46 = .ok (.ladd, 1) := by decide +kernel
theorem dX7_agreed_47 : decode cX7_agreed 47 = .ok (.lstore_n 2, 1) := by decide +kernel
theorem dX7_agreed_48 : decode cX7_agreed 48 = .ok (.iinc 4 1, 3) := by decide +kernel
theorem dX7_agreed_51 : decode cX7_agreed 51 = .ok (.goto (-44), 3) := by decide +kernel
theorem dX7_agreed_54 : decode cX7_agreed 54 = .ok (.aload_n 0, 1) := by decide +kernel
theorem dX7_agreed_55 : decode cX7_agreed 55 = .ok (.getfield 27, 3) := by decide +kernel
theorem dX7_agreed_58 : decode cX7_agreed 58 = .ok (.i2l, 1) := by decide +kernel
theorem dX7_agreed_59 : decode cX7_agreed 59 = .ok (.aload_n 0, 1) := by decide +kernel
theorem dX7_agreed_60 : decode cX7_agreed 60 = .ok (.getfield 27, 3) := by decide +kernel
theorem dX7_agreed_63 : decode cX7_agreed 63 = .ok (.i2l, 1) := by decide +kernel
theorem dX7_agreed_64 : decode cX7_agreed 64 = .ok (.lmul, 1) := by decide +kernel
theorem dX7_agreed_65 : decode cX7_agreed 65 = .ok (.lload_n 2, 1) := by decide +kernel
theorem dX7_agreed_66 : decode cX7_agreed 66 = .ok (.lsub, 1) := by decide +kernel
theorem dX7_agreed_67 : decode cX7_agreed 67 = .ok (.lstore 4, 2) := by decide +kernel
theorem dX7_agreed_69 : decode cX7_agreed 69 = .ok (.lload 4, 2) := by decide +kernel
theorem dX7_agreed_71 : decode cX7_agreed 71 = .ok (.lconst 0, 1) := by decide +kernel
theorem dX7_agreed_72 : decode cX7_agreed 72 = .ok (.lcmp, 1) := by decide +kernel
theorem dX7_agreed_73 : decode cX7_agreed 73 = .ok (.ifCond .ne 6, 3) := by decide +kernel
theorem dX7_agreed_76 : decode cX7_agreed 76 = .ok (.bipush (-2), 2) := by decide +kernel
theorem dX7_agreed_78 : decode cX7_agreed 78 = .ok (.ireturn, 1) := by decide +kernel
theorem dX7_agreed_79 : decode cX7_agreed 79 = .ok (.aload_n 0, 1) := by decide +kernel
theorem dX7_agreed_80 : decode cX7_agreed 80 = .ok (.getfield 23, 3) := by decide +kernel
theorem dX7_agreed_83 : decode cX7_agreed 83 = .ok (.invokevirtual 56, 3) := by decide +kernel
theorem dX7_agreed_86 : decode cX7_agreed 86 = .ok (.aload_n 0, 1) := by decide +kernel
theorem dX7_agreed_87 : decode cX7_agreed 87 = .ok (.getfield 27, 3) := by decide +kernel
theorem dX7_agreed_90 : decode cX7_agreed 90 = .ok (.i2l, 1) := by decide +kernel
theorem dX7_agreed_91 : decode cX7_agreed 91 = .ok (.iload_n 1, 1) := by decide +kernel
theorem dX7_agreed_92 : decode cX7_agreed 92 = .ok (.i2l, 1) := by decide +kernel
theorem dX7_agreed_93 : decode cX7_agreed 93 = .ok (.lmul, 1) := by decide +kernel
theorem dX7_agreed_94 : decode cX7_agreed 94 = .ok (.lload_n 2, 1) := by decide +kernel
theorem dX7_agreed_95 : decode cX7_agreed 95 = .ok (.lsub, 1) := by decide +kernel
theorem dX7_agreed_96 : decode cX7_agreed 96 = .ok (.lload 4, 2) := by decide +kernel
theorem dX7_agreed_98 : decode cX7_agreed 98 = .ok (.invokevirtual 62, 3) := by decide +kernel
theorem dX7_agreed_101 : decode cX7_agreed 101 = .ok (.pop, 1) := by decide +kernel
theorem dX7_agreed_102 : decode cX7_agreed 102 = .ok (.iload_n 1, 1) := by decide +kernel
theorem dX7_agreed_103 : decode cX7_agreed 103 = .ok (.ireturn, 1) := by decide +kernel
theorem dX7_mostMixed_0 : decode cX7_mostMixed 0 = .ok (.iconst 0, 1) := by decide +kernel
theorem dX7_mostMixed_1 : decode cX7_mostMixed 1 = .ok (.istore_n 1, 1) := by decide +kernel
theorem dX7_mostMixed_2 : decode cX7_mostMixed 2 = .ok (.iconst 0, 1) := by decide +kernel
theorem dX7_mostMixed_3 : decode cX7_mostMixed 3 = .ok (.istore_n 2, 1) := by decide +kernel
theorem dX7_mostMixed_4 : decode cX7_mostMixed 4 = .ok (.iconst 0, 1) := by decide +kernel
theorem dX7_mostMixed_5 : decode cX7_mostMixed 5 = .ok (.istore_n 3, 1) := by decide +kernel
theorem dX7_mostMixed_6 : decode cX7_mostMixed 6 = .ok (.iconst 0, 1) := by decide +kernel
theorem dX7_mostMixed_7 : decode cX7_mostMixed 7 = .ok (.istore 4, 2) := by decide +kernel
theorem dX7_mostMixed_9 : decode cX7_mostMixed 9 = .ok (.iload 4, 2) := by decide +kernel
theorem dX7_mostMixed_11 : decode cX7_mostMixed 11 = .ok (.aload_n 0, 1) := by decide +kernel
theorem dX7_mostMixed_12 : decode cX7_mostMixed 12 = .ok (.getfield 15, 3) := by decide +kernel
theorem dX7_mostMixed_15 : decode cX7_mostMixed 15 = .ok (.invokevirtual 41, 3) := by decide +kernel
theorem dX7_mostMixed_18 : decode cX7_mostMixed 18 = .ok (.if_icmp .ge 67, 3) := by decide +kernel
theorem dX7_mostMixed_21 : decode cX7_mostMixed 21 = .ok (.iload 4, 2) := by decide +kernel
theorem dX7_mostMixed_23 : decode cX7_mostMixed 23 = .ok (.iconst 1, 1) := by decide +kernel
theorem dX7_mostMixed_24 : decode cX7_mostMixed 24 = .ok (.iadd, 1) := by decide +kernel
theorem dX7_mostMixed_25 : decode cX7_mostMixed 25 = .ok (.istore 5, 2) := by decide +kernel
theorem dX7_mostMixed_27 : decode cX7_mostMixed 27 = .ok (.iload 5, 2) := by decide +kernel
theorem dX7_mostMixed_29 : decode cX7_mostMixed 29 = .ok (.aload_n 0, 1) := by decide +kernel
theorem dX7_mostMixed_30 : decode cX7_mostMixed 30 = .ok (.getfield 15, 3) := by decide +kernel
theorem dX7_mostMixed_33 : decode cX7_mostMixed 33 = .ok (.invokevirtual 41, 3) := by decide +kernel
theorem dX7_mostMixed_36 : decode cX7_mostMixed 36 = .ok (.if_icmp .ge 43, 3) := by decide +kernel
theorem dX7_mostMixed_39 : decode cX7_mostMixed 39 = .ok (.aload_n 0, 1) := by decide +kernel
theorem dX7_mostMixed_40 : decode cX7_mostMixed 40 = .ok (.iload 4, 2) := by decide +kernel
theorem dX7_mostMixed_42 : decode cX7_mostMixed 42 = .ok (.iload 5, 2) := by decide +kernel
theorem dX7_mostMixed_44 : decode cX7_mostMixed 44 = .ok (.invokevirtual 45, 3) := by decide +kernel
theorem dX7_mostMixed_47 : decode cX7_mostMixed 47 = .ok (.aload_n 0, 1) := by decide +kernel
theorem dX7_mostMixed_48 : decode cX7_mostMixed 48 = .ok (.iload 5, 2) := by decide +kernel
theorem dX7_mostMixed_50 : decode cX7_mostMixed 50 = .ok (.iload 4, 2) := by decide +kernel
theorem dX7_mostMixed_52 : decode cX7_mostMixed 52 = .ok (.invokevirtual 45, 3) := by decide +kernel
theorem dX7_mostMixed_55 : decode cX7_mostMixed 55 = .ok (.iadd, 1) := by decide +kernel
theorem dX7_mostMixed_56 : decode cX7_mostMixed 56 = .ok (.istore 6, 2) := by decide +kernel
theorem dX7_mostMixed_58 : decode cX7_mostMixed 58 = .ok (.iload 6, 2) := by decide +kernel
theorem dX7_mostMixed_60 : decode cX7_mostMixed 60 = .ok (.iload_n 1, 1) := by decide +kernel
theorem dX7_mostMixed_61 : decode cX7_mostMixed 61 = .ok (.if_icmp .le 12, 3) := by decide +kernel
theorem dX7_mostMixed_64 : decode cX7_mostMixed 64 = .ok (.iload 6, 2) := by decide +kernel
theorem dX7_mostMixed_66 : decode cX7_mostMixed 66 = .ok (.istore_n 1, 1) := by decide +kernel
theorem dX7_mostMixed_67 : decode cX7_mostMixed 67 = .ok (.iload 4, 2) := by decide +kernel
theorem dX7_mostMixed_69 : decode cX7_mostMixed 69 = .ok (.istore_n 2, 1) := by decide +kernel
theorem dX7_mostMixed_70 : decode cX7_mostMixed 70 = .ok (.iload 5, 2) := by decide +kernel
theorem dX7_mostMixed_72 : decode cX7_mostMixed 72 = .ok (.istore_n 3, 1) := by decide +kernel
theorem dX7_mostMixed_73 : decode cX7_mostMixed 73 = .ok (.iinc 5 1, 3) := by decide +kernel
theorem dX7_mostMixed_76 : decode cX7_mostMixed 76 = .ok (.goto (-49), 3) := by decide +kernel
theorem dX7_mostMixed_79 : decode cX7_mostMixed 79 = .ok (.iinc 4 1, 3) := by decide +kernel
theorem dX7_mostMixed_82 : decode cX7_mostMixed 82 = .ok (.goto (-73), 3) := by decide +kernel
theorem dX7_mostMixed_85 : decode cX7_mostMixed 85 = .ok (.iload_n 1, 1) := by decide +kernel
theorem dX7_mostMixed_86 : decode cX7_mostMixed 86 = .ok (.ifCond .le 21, 3) := by decide +kernel
theorem dX7_mostMixed_89 : decode cX7_mostMixed 89 = .ok (.aload_n 0, 1) := by decide +kernel
theorem dX7_mostMixed_90 : decode cX7_mostMixed 90 = .ok (.getfield 23, 3) := by decide +kernel
theorem dX7_mostMixed_93 : decode cX7_mostMixed 93 = .ok (.invokevirtual 56, 3) := by decide +kernel
theorem dX7_mostMixed_96 : decode cX7_mostMixed 96 = .ok (.iload_n 2, 1) := by decide +kernel
theorem dX7_mostMixed_97 : decode cX7_mostMixed 97 = .ok (.i2l, 1) := by decide +kernel
theorem dX7_mostMixed_98 : decode cX7_mostMixed 98 = .ok (.invokevirtual 66, 3) := by decide +kernel
theorem dX7_mostMixed_101 : decode cX7_mostMixed 101 = .ok (.iload_n 3, 1) := by decide +kernel
theorem dX7_mostMixed_102 : decode cX7_mostMixed 102 = .ok (.i2l, 1) := by decide +kernel
theorem dX7_mostMixed_103 : decode cX7_mostMixed 103 = .ok (.invokevirtual 66, 3) := by decide +kernel
theorem dX7_mostMixed_106 : decode cX7_mostMixed 106 = .ok (.pop, 1) := by decide +kernel
theorem dX7_mostMixed_107 : decode cX7_mostMixed 107 = .ok (.iload_n 1, 1) := by decide +kernel
theorem dX7_mostMixed_108 : decode cX7_mostMixed 108 = .ok (.ireturn, 1) := by decide +kernel
theorem dX7_oftener_0 : decode cX7_oftener 0 = .ok (.aload_n 0, 1) := by decide +kernel
theorem dX7_oftener_1 : decode cX7_oftener 1 = .ok (.iload_n 1, 1) := by decide +kernel
theorem dX7_oftener_2 : decode cX7_oftener 2 = .ok (.invokevirtual 49, 3) := by decide +kernel
theorem dX7_oftener_5 : decode cX7_oftener 5 = .ok (.aload_n 0, 1) := by decide +kernel
theorem dX7_oftener_6 : decode cX7_oftener 6 = .ok (.iload_n 1, 1) := by decide +kernel
theorem dX7_oftener_7 : decode cX7_oftener 7 = .ok (.invokevirtual 53, 3) := by decide +kernel
theorem dX7_oftener_10 : decode cX7_oftener 10 = .ok (.isub, 1) := by decide +kernel
theorem dX7_oftener_11 : decode cX7_oftener 11 = .ok (.ireturn, 1) := by decide +kernel
theorem dX7_spread_0 : decode cX7_spread 0 = .ok (.aload_n 0, 1) := by decide +kernel
theorem dX7_spread_1 : decode cX7_spread 1 = .ok (.getfield 15, 3) := by decide +kernel
theorem dX7_spread_4 : decode cX7_spread 4 = .ok (.iload_n 1, 1) := by decide +kernel
theorem dX7_spread_5 : decode cX7_spread 5 = .ok (.invokevirtual 31, 3) := by decide +kernel
theorem dX7_spread_8 : decode cX7_spread 8 = .ok (.ifCond .eq 14, 3) := by decide +kernel
theorem dX7_spread_11 : decode cX7_spread 11 = .ok (.aload_n 0, 1) := by decide +kernel
theorem dX7_spread_12 : decode cX7_spread 12 = .ok (.getfield 15, 3) := by decide +kernel
theorem dX7_spread_15 : decode cX7_spread 15 = .ok (.iload_n 2, 1) := by decide +kernel
theorem dX7_spread_16 : decode cX7_spread 16 = .ok (.invokevirtual 70, 3) := by decide +kernel
theorem dX7_spread_19 : decode cX7_spread 19 = .ok (.ifCond .ne 5, 3) := by decide +kernel
theorem dX7_spread_22 : decode cX7_spread 22 = .ok (.iconst (-1), 1) := by decide +kernel
theorem dX7_spread_23 : decode cX7_spread 23 = .ok (.ireturn, 1) := by decide +kernel
theorem dX7_spread_24 : decode cX7_spread 24 = .ok (.aload_n 0, 1) := by decide +kernel
theorem dX7_spread_25 : decode cX7_spread 25 = .ok (.iload_n 1, 1) := by decide +kernel
theorem dX7_spread_26 : decode cX7_spread 26 = .ok (.invokevirtual 49, 3) := by decide +kernel
theorem dX7_spread_29 : decode cX7_spread 29 = .ok (.istore_n 3, 1) := by decide +kernel
theorem dX7_spread_30 : decode cX7_spread 30 = .ok (.aload_n 0, 1) := by decide +kernel
theorem dX7_spread_31 : decode cX7_spread 31 = .ok (.getfield 19, 3) := by decide +kernel
theorem dX7_spread_34 : decode cX7_spread 34 = .ok (.iconst 0, 1) := by decide +kernel
theorem dX7_spread_35 : decode cX7_spread 35 = .ok (.iload_n 2, 1) := by decide +kernel
theorem dX7_spread_36 : decode cX7_spread 36 = .ok (.iload_n 1, 1) := by decide +kernel
theorem dX7_spread_37 : decode cX7_spread 37 = .ok (.invokevirtual 73, 3) := by decide +kernel
theorem dX7_spread_40 : decode cX7_spread 40 = .ok (.ifCond .eq 7, 3) := by decide +kernel
theorem dX7_spread_43 : decode cX7_spread 43 = .ok (.iload_n 3, 1) := by decide +kernel
theorem dX7_spread_44 : decode cX7_spread 44 = .ok (.ifCond .ne 6, 3) := by decide +kernel
theorem dX7_spread_47 : decode cX7_spread 47 = .ok (.bipush (-2), 2) := by decide +kernel
theorem dX7_spread_49 : decode cX7_spread 49 = .ok (.ireturn, 1) := by decide +kernel
theorem dX7_spread_50 : decode cX7_spread 50 = .ok (.aload_n 0, 1) := by decide +kernel
theorem dX7_spread_51 : decode cX7_spread 51 = .ok (.getfield 23, 3) := by decide +kernel
theorem dX7_spread_54 : decode cX7_spread 54 = .ok (.invokevirtual 56, 3) := by decide +kernel
theorem dX7_spread_57 : decode cX7_spread 57 = .ok (.pop, 1) := by decide +kernel
theorem dX7_spread_58 : decode cX7_spread 58 = .ok (.iconst 0, 1) := by decide +kernel
theorem dX7_spread_59 : decode cX7_spread 59 = .ok (.istore 4, 2) := by decide +kernel
theorem dX7_spread_61 : decode cX7_spread 61 = .ok (.iconst 0, 1) := by decide +kernel
theorem dX7_spread_62 : decode cX7_spread 62 = .ok (.istore 5, 2) := by decide +kernel
theorem dX7_spread_64 : decode cX7_spread 64 = .ok (.iload 5, 2) := by decide +kernel
theorem dX7_spread_66 : decode cX7_spread 66 = .ok (.aload_n 0, 1) := by decide +kernel
theorem dX7_spread_67 : decode cX7_spread 67 = .ok (.getfield 15, 3) := by decide +kernel
theorem dX7_spread_70 : decode cX7_spread 70 = .ok (.invokevirtual 41, 3) := by decide +kernel
theorem dX7_spread_73 : decode cX7_spread 73 = .ok (.if_icmp .ge 49, 3) := by decide +kernel
theorem dX7_spread_76 : decode cX7_spread 76 = .ok (.aload_n 0, 1) := by decide +kernel
theorem dX7_spread_77 : decode cX7_spread 77 = .ok (.getfield 19, 3) := by decide +kernel
theorem dX7_spread_80 : decode cX7_spread 80 = .ok (.iconst 0, 1) := by decide +kernel
theorem dX7_spread_81 : decode cX7_spread 81 = .ok (.iload_n 2, 1) := by decide +kernel
theorem dX7_spread_82 : decode cX7_spread 82 = .ok (.iload_n 1, 1) := by decide +kernel
theorem dX7_spread_83 : decode cX7_spread 83 = .ok (.invokevirtual 78, 3) := by decide +kernel
theorem dX7_spread_86 : decode cX7_spread 86 = .ok (.aload_n 0, 1) := by decide +kernel
theorem dX7_spread_87 : decode cX7_spread 87 = .ok (.iload_n 1, 1) := by decide +kernel
theorem dX7_spread_88 : decode cX7_spread 88 = .ok (.iload 5, 2) := by decide +kernel
theorem dX7_spread_90 : decode cX7_spread 90 = .ok (.invokevirtual 45, 3) := by decide +kernel
theorem dX7_spread_93 : decode cX7_spread 93 = .ok (.imul, 1) := by decide +kernel
theorem dX7_spread_94 : decode cX7_spread 94 = .ok (.iload_n 3, 1) := by decide +kernel
theorem dX7_spread_95 : decode cX7_spread 95 = .ok (.idiv, 1) := by decide +kernel
theorem dX7_spread_96 : decode cX7_spread 96 = .ok (.istore 6, 2) := by decide +kernel
theorem dX7_spread_98 : decode cX7_spread 98 = .ok (.aload_n 0, 1) := by decide +kernel
theorem dX7_spread_99 : decode cX7_spread 99 = .ok (.getfield 23, 3) := by decide +kernel
theorem dX7_spread_102 : decode cX7_spread 102 = .ok (.iload 6, 2) := by decide +kernel
theorem dX7_spread_104 : decode cX7_spread 104 = .ok (.i2l, 1) := by decide +kernel
theorem dX7_spread_105 : decode cX7_spread 105 = .ok (.invokevirtual 66, 3) := by decide +kernel
theorem dX7_spread_108 : decode cX7_spread 108 = .ok (.pop, 1) := by decide +kernel
theorem dX7_spread_109 : decode cX7_spread 109 = .ok (.iload 4, 2) := by decide +kernel
theorem dX7_spread_111 : decode cX7_spread 111 = .ok (.iload 6, 2) := by decide +kernel
theorem dX7_spread_113 : decode cX7_spread 113 = .ok (.iadd, 1) := by decide +kernel
theorem dX7_spread_114 : decode cX7_spread 114 = .ok (.istore 4, 2) := by decide +kernel
theorem dX7_spread_116 : decode cX7_spread 116 = .ok (.iinc 5 1, 3) := by decide +kernel
theorem dX7_spread_119 : decode cX7_spread 119 = .ok (.goto (-55), 3) := by decide +kernel
theorem dX7_spread_122 : decode cX7_spread 122 = .ok (.iload 4, 2) := by decide +kernel
theorem dX7_spread_124 : decode cX7_spread 124 = .ok (.ireturn, 1) := by decide +kernel
theorem dX8_init_0 : decode cX8_init 0 = .ok (.aload_n 0, 1) := by decide +kernel
theorem dX8_init_1 : decode cX8_init 1 = .ok (.invokespecial 3, 3) := by decide +kernel
theorem dX8_init_4 : decode cX8_init 4 = .ok (.aload_n 0, 1) := by decide +kernel
theorem dX8_init_5 : decode cX8_init 5 = .ok (.bipush 10, 2) := by decide +kernel
theorem dX8_init_7 : decode cX8_init 7 = .ok (.newarray .long, 2) := by decide +kernel
theorem dX8_init_9 : decode cX8_init 9 = .ok (.putfield 11, 3) := by decide +kernel
theorem dX8_init_12 : decode cX8_init 12 = .ok (.aload_n 0, 1) := by decide +kernel
theorem dX8_init_13 : decode cX8_init 13 = .ok (.bipush 10, 2) := by decide +kernel
theorem dX8_init_15 : decode cX8_init 15 = .ok (.newarray .long, 2) := by decide +kernel
theorem dX8_init_17 : decode cX8_init 17 = .ok (.putfield 15, 3) := by decide +kernel
theorem dX8_init_20 : decode cX8_init 20 = .ok (.aload_n 0, 1) := by decide +kernel
theorem dX8_init_21 : decode cX8_init 21 = .ok (.bipush 6, 2) := by decide +kernel
theorem dX8_init_23 : decode cX8_init 23 = .ok (.newarray .int, 2) := by decide +kernel
theorem dX8_init_25 : decode cX8_init 25 = .ok (.putfield 18, 3) := by decide +kernel
theorem dX8_init_28 : decode cX8_init 28 = .ok (.aload_n 0, 1) := by decide +kernel
theorem dX8_init_29 : decode cX8_init 29 = .ok (.aload_n 1, 1) := by decide +kernel
theorem dX8_init_30 : decode cX8_init 30 = .ok (.putfield 22, 3) := by decide +kernel
theorem dX8_init_33 : decode cX8_init 33 = .ok (.aload_n 0, 1) := by decide +kernel
theorem dX8_init_34 : decode cX8_init 34 = .ok (.aload_n 2, 1) := by decide +kernel
theorem dX8_init_35 : decode cX8_init 35 = .ok (.putfield 26, 3) := by decide +kernel
theorem dX8_init_38 : decode cX8_init 38 = .ok (.aload_n 0, 1) := by decide +kernel
theorem dX8_init_39 : decode cX8_init 39 = .ok (.aload_n 3, 1) := by decide +kernel
theorem dX8_init_40 : decode cX8_init 40 = .ok (.putfield 30, 3) := by decide +kernel
theorem dX8_init_43 : decode cX8_init 43 = .ok (.return_, 1) := by decide +kernel
theorem dX8_size_0 : decode cX8_size 0 = .ok (.aload_n 0, 1) := by decide +kernel
theorem dX8_size_1 : decode cX8_size 1 = .ok (.getfield 34, 3) := by decide +kernel
theorem dX8_size_4 : decode cX8_size 4 = .ok (.ireturn, 1) := by decide +kernel
theorem dX8_isFull_0 : decode cX8_isFull 0 = .ok (.aload_n 0, 1) := by decide +kernel
theorem dX8_isFull_1 : decode cX8_isFull 1 = .ok (.getfield 34, 3) := by decide +kernel
theorem dX8_isFull_4 : decode cX8_isFull 4 = .ok (.bipush 6, 2) := by decide +kernel
theorem dX8_isFull_6 : decode cX8_isFull 6 = .ok (.if_icmp .lt 7, 3) := by decide +kernel
theorem dX8_isFull_9 : decode cX8_isFull 9 = .ok (.iconst 1, 1) := by decide +kernel
theorem dX8_isFull_10 : decode cX8_isFull 10 = .ok (.goto 4, 3) := by decide +kernel
theorem dX8_isFull_13 : decode cX8_isFull 13 = .ok (.iconst 0, 1) := by decide +kernel
theorem dX8_isFull_14 : decode cX8_isFull 14 = .ok (.ireturn, 1) := by decide +kernel
theorem dX8_listen_0 : decode cX8_listen 0 = .ok (.aload_n 0, 1) := by decide +kernel
theorem dX8_listen_1 : decode cX8_listen 1 = .ok (.aload_n 0, 1) := by decide +kernel
theorem dX8_listen_2 : decode cX8_listen 2 = .ok (.getfield 34, 3) := by decide +kernel
theorem dX8_listen_5 : decode cX8_listen 5 = .ok (.aload_n 1, 1) := by decide +kernel
theorem dX8_listen_6 : decode cX8_listen 6 = .ok (.invokevirtual 38, 3) := by decide +kernel
theorem dX8_listen_9 : decode cX8_listen 9 = .ok (.istore_n 2, 1) := by decide +kernel
theorem dX8_listen_10 : decode cX8_listen 10 = .ok (.iload_n 2, 1) := by decide +kernel
theorem dX8_listen_11 : decode cX8_listen 11 = .ok (.ifCond .ge 5, 3) := by decide +kernel
theorem dX8_listen_14 : decode cX8_listen 14 = .ok (.iload_n 2, 1) := by decide +kernel
theorem dX8_listen_15 : decode cX8_listen 15 = .ok (.ireturn, 1) := by decide +kernel
theorem dX8_listen_16 : decode cX8_listen 16 = .ok (.aload_n 0, 1) := by decide +kernel
theorem dX8_listen_17 : decode cX8_listen 17 = .ok (.dup, 1) := by decide +kernel
theorem dX8_listen_18 : decode cX8_listen 18 = .ok (.getfield 34, 3) := by decide +kernel
theorem dX8_listen_21 : decode cX8_listen 21 = .ok (.iconst 1, 1) := by decide +kernel
theorem dX8_listen_22 : decode cX8_listen 22 = .ok (.iadd, 1) := by decide +kernel
theorem dX8_listen_23 : decode cX8_listen 23 = .ok (.putfield 34, 3) := by decide +kernel
theorem dX8_listen_26 : decode cX8_listen 26 = .ok (.aload_n 0, 1) := by decide +kernel
theorem dX8_listen_27 : decode cX8_listen 27 = .ok (.getfield 34, 3) := by decide +kernel
theorem dX8_listen_30 : decode cX8_listen 30 = .ok (.iconst 1, 1) := by decide +kernel
theorem dX8_listen_31 : decode cX8_listen 31 = .ok (.isub, 1) := by decide +kernel
theorem dX8_listen_32 : decode cX8_listen 32 = .ok (.ireturn, 1) := by decide +kernel
theorem dX8_begin_0 : decode cX8_begin 0 = .ok (.aload_n 0, 1) := by decide +kernel
theorem dX8_begin_1 : decode cX8_begin 1 = .ok (.iconst 0, 1) := by decide +kernel
theorem dX8_begin_2 : decode cX8_begin 2 = .ok (.putfield 42, 3) := by decide +kernel
theorem dX8_begin_5 : decode cX8_begin 5 = .ok (.return_, 1) := by decide +kernel
theorem dX8_takes_0 : decode cX8_takes 0 = .ok (.aload_n 0, 1) := by decide +kernel
theorem dX8_takes_1 : decode cX8_takes 1 = .ok (.getfield 42, 3) := by decide +kernel
theorem dX8_takes_4 : decode cX8_takes 4 = .ok (.iconst 4, 1) := by decide +kernel
theorem dX8_takes_5 : decode cX8_takes 5 = .ok (.irem, 1) := by decide +kernel
theorem dX8_takes_6 : decode cX8_takes 6 = .ok (.istore_n 2, 1) := by decide +kernel
theorem dX8_takes_7 : decode cX8_takes 7 = .ok (.aload_n 0, 1) := by decide +kernel
theorem dX8_takes_8 : decode cX8_takes 8 = .ok (.dup, 1) := by decide +kernel
theorem dX8_takes_9 : decode cX8_takes 9 = .ok (.getfield 42, 3) := by decide +kernel
theorem dX8_takes_12 : decode cX8_takes 12 = .ok (.iconst 1, 1) := by decide +kernel
theorem dX8_takes_13 : decode cX8_takes 13 = .ok (.iadd, 1) := by decide +kernel
theorem dX8_takes_14 : decode cX8_takes 14 = .ok (.putfield 42, 3) := by decide +kernel
theorem dX8_takes_17 : decode cX8_takes 17 = .ok (.iload_n 2, 1) := by decide +kernel
theorem dX8_takes_18 : decode cX8_takes 18 = .ok (.iconst 1, 1) := by decide +kernel
theorem dX8_takes_19 : decode cX8_takes 19 = .ok (.if_icmp .ne 27, 3) := by decide +kernel
theorem dX8_takes_22 : decode cX8_takes 22 = .ok (.iload_n 1, 1) := by decide +kernel
theorem dX8_takes_23 : decode cX8_takes 23 = .ok (.bipush 60, 2) := by decide +kernel
theorem dX8_takes_25 : decode cX8_takes 25 = .ok (.if_icmp .eq 15, 3) := by decide +kernel
theorem dX8_takes_28 : decode cX8_takes 28 = .ok (.iload_n 1, 1) := by decide +kernel
theorem dX8_takes_29 : decode cX8_takes 29 = .ok (.bipush 62, 2) := by decide +kernel
theorem dX8_takes_31 : decode cX8_takes 31 = .ok (.if_icmp .eq 9, 3) := by decide +kernel
theorem dX8_takes_34 : decode cX8_takes 34 = .ok (.iload_n 1, 1) := by decide +kernel
theorem dX8_takes_35 : decode cX8_takes 35 = .ok (.bipush 61, 2) := by decide +kernel
theorem dX8_takes_37 : decode cX8_takes 37 = .ok (.if_icmp .ne 7, 3) := by decide +kernel
theorem dX8_takes_40 : decode cX8_takes 40 = .ok (.iconst 1, 1) := by decide +kernel
theorem dX8_takes_41 : decode cX8_takes 41 = .ok (.goto 4, 3) := by decide +kernel
theorem dX8_takes_44 : decode cX8_takes 44 = .ok (.iconst 0, 1) := by decide +kernel
theorem dX8_takes_45 : decode cX8_takes 45 = .ok (.ireturn, 1) := by decide +kernel
theorem dX8_takes_46 : decode cX8_takes 46 = .ok (.iload_n 2, 1) := by decide +kernel
theorem dX8_takes_47 : decode cX8_takes 47 = .ok (.iconst 3, 1) := by decide +kernel
theorem dX8_takes_48 : decode cX8_takes 48 = .ok (.if_icmp .ne 17, 3) := by decide +kernel
theorem dX8_takes_51 : decode cX8_takes 51 = .ok (.iload_n 1, 1) := by decide +kernel
theorem dX8_takes_52 : decode cX8_takes 52 = .ok (.bipush 59, 2) := by decide +kernel
theorem dX8_takes_54 : decode cX8_takes 54 = .ok (.if_icmp .ne 7, 3) := by decide +kernel
theorem dX8_takes_57 : decode cX8_takes 57 = .ok (.iconst 1, 1) := by decide +kernel
theorem dX8_takes_58 : decode cX8_takes 58 = .ok (.goto 19, 3) := by decide +kernel
theorem dX8_takes_61 : decode cX8_takes 61 = .ok (.iconst 0, 1) := by decide +kernel
theorem dX8_takes_62 : decode cX8_takes 62 = .ok (.goto 15, 3) := by decide +kernel
theorem dX8_takes_65 : decode cX8_takes 65 = .ok (.iload_n 1, 1) := by decide +kernel
theorem dX8_takes_66 : decode cX8_takes 66 = .ok (.invokestatic 45, 3) := by decide +kernel
theorem dX8_takes_69 : decode cX8_takes 69 = .ok (.ifCond .lt 7, 3) := by decide +kernel
theorem dX8_takes_72 : decode cX8_takes 72 = .ok (.iconst 1, 1) := by decide +kernel
theorem dX8_takes_73 : decode cX8_takes 73 = .ok (.goto 4, 3) := by decide +kernel
theorem dX8_takes_76 : decode cX8_takes 76 = .ok (.iconst 0, 1) := by decide +kernel
theorem dX8_takes_77 : decode cX8_takes 77 = .ok (.ireturn, 1) := by decide +kernel
theorem dX8_couldEnd_0 : decode cX8_couldEnd 0 = .ok (.aload_n 0, 1) := by decide +kernel
theorem dX8_couldEnd_1 : decode cX8_couldEnd 1 = .ok (.getfield 42, 3) := by decide +kernel
theorem dX8_couldEnd_4 : decode cX8_couldEnd 4 = .ok (.ifCond .eq 13, 3) := by decide +kernel
theorem dX8_couldEnd_7 : decode cX8_couldEnd 7 = .ok (.aload_n 0, 1) := by decide +kernel
theorem dX8_couldEnd_8 : decode cX8_couldEnd 8 = .ok (.getfield 42, 3) := by decide +kernel
theorem dX8_couldEnd_11 : decode cX8_couldEnd 11 = .ok (.iconst 4, 1) := by decide +kernel
theorem dX8_couldEnd_12 : decode cX8_couldEnd 12 = .ok (.irem, 1) := by decide +kernel
theorem dX8_couldEnd_13 : decode cX8_couldEnd 13 = .ok (.iconst 3, 1) := by decide +kernel
theorem dX8_couldEnd_14 : decode cX8_couldEnd 14 = .ok (.if_icmp .ne 7, 3) := by decide +kernel
theorem dX8_couldEnd_17 : decode cX8_couldEnd 17 = .ok (.iconst 1, 1) := by decide +kernel
theorem dX8_couldEnd_18 : decode cX8_couldEnd 18 = .ok (.goto 4, 3) := by decide +kernel
theorem dX8_couldEnd_21 : decode cX8_couldEnd 21 = .ok (.iconst 0, 1) := by decide +kernel
theorem dX8_couldEnd_22 : decode cX8_couldEnd 22 = .ok (.ireturn, 1) := by decide +kernel
theorem dX8_thingOf_0 : decode cX8_thingOf 0 = .ok (.iload_n 0, 1) := by decide +kernel
theorem dX8_thingOf_1 : decode cX8_thingOf 1 = .ok (.ifCond .lt 20, 3) := by decide +kernel
theorem dX8_thingOf_4 : decode cX8_thingOf 4 = .ok (.iload_n 0, 1) := by decide +kernel
theorem dX8_thingOf_5 : decode cX8_thingOf 5 = .ok (.sipush 255, 3) := by decide +kernel
theorem dX8_thingOf_8 : decode cX8_thingOf 8 = .ok (.if_icmp .gt 13, 3) := by decide +kernel
theorem dX8_thingOf_11 : decode cX8_thingOf 11 = .ok (.ldc 49, 2) := by decide +kernel
theorem dX8_thingOf_13 : decode cX8_thingOf 13 = .ok (.iload_n 0, 1) := by decide +kernel
theorem dX8_thingOf_14 : decode cX8_thingOf 14 = .ok (.i2c, 1) := by decide +kernel
theorem dX8_thingOf_15 : decode cX8_thingOf 15 = .ok (.invokevirtual 51, 3) := by decide +kernel
theorem dX8_thingOf_18 : decode cX8_thingOf 18 = .ok (.goto 4, 3) := by decide +kernel
theorem dX8_thingOf_21 : decode cX8_thingOf 21 = .ok (.iconst (-1), 1) := by decide +kernel
theorem dX8_thingOf_22 : decode cX8_thingOf 22 = .ok (.ireturn, 1) := by decide +kernel
theorem dX8_wasteInLack_0 : decode cX8_wasteInLack 0 = .ok (.aload_n 0, 1) := by decide +kernel
theorem dX8_wasteInLack_1 : decode cX8_wasteInLack 1 = .ok (.getfield 22, 3) := by decide +kernel
theorem dX8_wasteInLack_4 : decode cX8_wasteInLack 4 = .ok (.iload_n 1, 1) := by decide +kernel
theorem dX8_wasteInLack_5 : decode cX8_wasteInLack 5 = .ok (.invokevirtual 56, 3) := by decide +kernel
theorem dX8_wasteInLack_8 : decode cX8_wasteInLack 8 = .ok (.ifCond .ne 5, 3) := by decide +kernel
theorem dX8_wasteInLack_11 : decode cX8_wasteInLack 11 = .ok (.iconst (-1), 1) := by decide +kernel
theorem dX8_wasteInLack_12 : decode cX8_wasteInLack 12 = .ok (.ireturn, 1) := by decide +kernel
theorem dX8_wasteInLack_13 : decode cX8_wasteInLack 13 = .ok (.aload_n 0, 1) := by decide +kernel
theorem dX8_wasteInLack_14 : decode cX8_wasteInLack 14 = .ok (.iload_n 1, 1) := by decide +kernel
theorem dX8_wasteInLack_15 : decode cX8_wasteInLack 15 = .ok (.invokevirtual 62, 3) := by decide +kernel
theorem dX8_wasteInLack_18 : decode cX8_wasteInLack 18 = .ok (.aload_n 0, 1) := by decide +kernel
theorem dX8_wasteInLack_19 : decode cX8_wasteInLack 19 = .ok (.getfield 15, 3) := by decide +kernel
theorem dX8_wasteInLack_22 : decode cX8_wasteInLack 22 = .ok (.iconst 0, 1) := by decide +kernel
theorem dX8_wasteInLack_23 : decode cX8_wasteInLack 23 = .ok (.laload, 1) := by decide +kernel
theorem dX8_wasteInLack_24 : decode cX8_wasteInLack 24 = .ok (.lconst 0, 1) := by decide +kernel
theorem dX8_wasteInLack_25 : decode cX8_wasteInLack 25 = .ok (.lcmp, 1) := by decide +kernel
theorem dX8_wasteInLack_26 : decode cX8_wasteInLack 26 = .ok (.ifCond .ne 6, 3) := by decide +kernel
theorem dX8_wasteInLack_29 : decode cX8_wasteInLack 29 = .ok (.bipush (-2), 2) := by decide +kernel
theorem dX8_wasteInLack_31 : decode cX8_wasteInLack 31 = .ok (.ireturn, 1) := by decide +kernel
theorem dX8_wasteInLack_32 : decode cX8_wasteInLack 32 = .ok (.aload_n 0, 1) := by decide +kernel
theorem dX8_wasteInLack_33 : decode cX8_wasteInLack 33 = .ok (.getfield 30, 3) := by decide +kernel
theorem dX8_wasteInLack_36 : decode cX8_wasteInLack 36 = .ok (.invokevirtual 66, 3) := by decide +kernel
theorem dX8_wasteInLack_39 : decode cX8_wasteInLack 39 = .ok (.aload_n 0, 1) := by decide +kernel
theorem dX8_wasteInLack_40 : decode cX8_wasteInLack 40 = .ok (.getfield 11, 3) := by decide +kernel
theorem dX8_wasteInLack_43 : decode cX8_wasteInLack 43 = .ok (.iconst 0, 1) := by decide +kernel
theorem dX8_wasteInLack_44 : decode cX8_wasteInLack 44 = .ok (.laload, 1) := by decide +kernel
theorem dX8_wasteInLack_45 : decode cX8_wasteInLack 45 = .ok (.aload_n 0, 1) := by decide +kernel
theorem dX8_wasteInLack_46 : decode cX8_wasteInLack 46 = .ok (.getfield 15, 3) := by decide +kernel
theorem dX8_wasteInLack_49 : decode cX8_wasteInLack 49 = .ok (.iconst 0, 1) := by decide +kernel
theorem dX8_wasteInLack_50 : decode cX8_wasteInLack 50 = .ok (.laload, 1) := by decide +kernel
theorem dX8_wasteInLack_51 : decode cX8_wasteInLack 51 = .ok (.invokevirtual 72, 3) := by decide +kernel
theorem dX8_wasteInLack_54 : decode cX8_wasteInLack 54 = .ok (.aload_n 0, 1) := by decide +kernel
theorem dX8_wasteInLack_55 : decode cX8_wasteInLack 55 = .ok (.getfield 11, 3) := by decide +kernel
theorem dX8_wasteInLack_58 : decode cX8_wasteInLack 58 = .ok (.iconst 1, 1) := by decide +kernel
theorem dX8_wasteInLack_59 : decode cX8_wasteInLack 59 = .ok (.laload, 1) := by decide +kernel
theorem dX8_wasteInLack_60 : decode cX8_wasteInLack 60 = .ok (.aload_n 0, 1) := by decide +kernel
theorem dX8_wasteInLack_61 : decode cX8_wasteInLack 61 = .ok (.getfield 15, 3) := by decide +kernel
theorem dX8_wasteInLack_64 : decode cX8_wasteInLack 64 = .ok (.iconst 1, 1) := by decide +kernel
theorem dX8_wasteInLack_65 : decode cX8_wasteInLack 65 = .ok (.laload, 1) := by decide +kernel
theorem dX8_wasteInLack_66 : decode cX8_wasteInLack 66 = .ok (.invokevirtual 72, 3) := by decide +kernel
theorem dX8_wasteInLack_69 : decode cX8_wasteInLack 69 = .ok (.pop, 1) := by decide +kernel
theorem dX8_wasteInLack_70 : decode cX8_wasteInLack 70 = .ok (.aload_n 0, 1) := by decide +kernel
theorem dX8_wasteInLack_71 : decode cX8_wasteInLack 71 = .ok (.getfield 11, 3) := by decide +kernel
theorem dX8_wasteInLack_74 : decode cX8_wasteInLack 74 = .ok (.iconst 0, 1) := by decide +kernel
theorem dX8_wasteInLack_75 : decode cX8_wasteInLack 75 = .ok (.laload, 1) := by decide +kernel
theorem dX8_wasteInLack_76 : decode cX8_wasteInLack 76 = .ok (.aload_n 0, 1) := by decide +kernel
theorem dX8_wasteInLack_77 : decode cX8_wasteInLack 77 = .ok (.getfield 15, 3) := by decide +kernel
theorem dX8_wasteInLack_80 : decode cX8_wasteInLack 80 = .ok (.iconst 0, 1) := by decide +kernel
theorem dX8_wasteInLack_81 : decode cX8_wasteInLack 81 = .ok (.laload, 1) := by decide +kernel
theorem dX8_wasteInLack_82 : decode cX8_wasteInLack 82 = .ok (.aload_n 0, 1) := by decide +kernel
theorem dX8_wasteInLack_83 : decode cX8_wasteInLack 83 = .ok (.getfield 11, 3) := by decide +kernel
theorem dX8_wasteInLack_86 : decode cX8_wasteInLack 86 = .ok (.iconst 1, 1) := by decide +kernel
theorem dX8_wasteInLack_87 : decode cX8_wasteInLack 87 = .ok (.laload, 1) := by decide +kernel
theorem dX8_wasteInLack_88 : decode cX8_wasteInLack 88 = .ok (.aload_n 0, 1) := by decide +kernel
theorem dX8_wasteInLack_89 : decode cX8_wasteInLack 89 = .ok (.getfield 15, 3) := by decide +kernel
theorem dX8_wasteInLack_92 : decode cX8_wasteInLack 92 = .ok (.iconst 1, 1) := by decide +kernel
theorem dX8_wasteInLack_93 : decode cX8_wasteInLack 93 = .ok (.laload, 1) := by decide +kernel
theorem dX8_wasteInLack_94 : decode cX8_wasteInLack 94 = .ok (.invokestatic 76, 3) := by decide +kernel
theorem dX8_wasteInLack_97 : decode cX8_wasteInLack 97 = .ok (.istore_n 2, 1) := by decide +kernel
theorem dX8_wasteInLack_98 : decode cX8_wasteInLack 98 = .ok (.iload_n 2, 1) := by decide +kernel
theorem dX8_wasteInLack_99 : decode cX8_wasteInLack 99 = .ok (.ifCond .le 7, 3) := by decide +kernel
theorem dX8_wasteInLack_102 : decode cX8_wasteInLack 102 = .ok (.iconst 1, 1) := by decide +kernel
theorem dX8_wasteInLack_103 : decode cX8_wasteInLack 103 = .ok (.goto 12, 3) := by decide +kernel
theorem dX8_wasteInLack_106 : decode cX8_wasteInLack 106 = .ok (.iload_n 2, 1) := by decide +kernel
theorem dX8_wasteInLack_107 : decode cX8_wasteInLack 107 = .ok (.ifCond .ge 7, 3) := by decide +kernel
theorem dX8_wasteInLack_110 : decode cX8_wasteInLack 110 = .ok (.iconst 2, 1) := by decide +kernel
theorem dX8_wasteInLack_111 : decode cX8_wasteInLack 111 = .ok (.goto 4, 3) := by decide +kernel
theorem dX8_wasteInLack_114 : decode cX8_wasteInLack 114 = .ok (.iconst 0, 1) := by decide +kernel
theorem dX8_wasteInLack_115 : decode cX8_wasteInLack 115 = .ok (.ireturn, 1) := by decide +kernel
theorem dX8_measureWaste_0 : decode cX8_measureWaste 0 = .ok (.aload_n 0, 1) := by decide +kernel
theorem dX8_measureWaste_1 : decode cX8_measureWaste 1 = .ok (.iconst 0, 1) := by decide +kernel
theorem dX8_measureWaste_2 : decode cX8_measureWaste 2 = .ok (.invokevirtual 80, 3) := by decide +kernel
theorem dX8_measureWaste_5 : decode cX8_measureWaste 5 = .ok (.iconst 0, 1) := by decide +kernel
theorem dX8_measureWaste_6 : decode cX8_measureWaste 6 = .ok (.istore_n 2, 1) := by decide +kernel
theorem dX8_measureWaste_7 : decode cX8_measureWaste 7 = .ok (.iload_n 2, 1) := by decide +kernel
theorem dX8_measureWaste_8 : decode cX8_measureWaste 8 = .ok (.aload_n 0, 1) := by decide +kernel
theorem dX8_measureWaste_9 : decode cX8_measureWaste 9 = .ok (.getfield 22, 3) := by decide +kernel
theorem dX8_measureWaste_12 : decode cX8_measureWaste 12 = .ok (.invokevirtual 83, 3) := by decide +kernel
theorem dX8_measureWaste_15 : decode cX8_measureWaste 15 = .ok (.if_icmp .ge 99, 3) := by decide +kernel
theorem dX8_measureWaste_18 : decode cX8_measureWaste 18 = .ok (.aload_n 0, 1) := by decide +kernel
theorem dX8_measureWaste_19 : decode cX8_measureWaste 19 = .ok (.getfield 26, 3) := by decide +kernel
theorem dX8_measureWaste_22 : decode cX8_measureWaste 22 = .ok (.iconst 0, 1) := by decide +kernel
theorem dX8_measureWaste_23 : decode cX8_measureWaste 23 = .ok (.iload_n 2, 1) := by decide +kernel
theorem dX8_measureWaste_24 : decode cX8_measureWaste 24 = .ok (.iload_n 1, 1) := by decide +kernel
theorem dX8_measureWaste_25 : decode cX8_measureWaste 25 = .ok (.invokevirtual 87, 3) := by decide +kernel
theorem dX8_measureWaste_28 : decode cX8_measureWaste 28 = .ok (.ifCond .eq 80, 3) := by decide +kernel
theorem dX8_measureWaste_31 : decode cX8_measureWaste 31 = .ok (.aload_n 0, 1) := by decide +kernel
theorem dX8_measureWaste_32 : decode cX8_measureWaste 32 = .ok (.getfield 26, 3) := by decide +kernel
theorem dX8_measureWaste_35 : decode cX8_measureWaste 35 = .ok (.iconst 1, 1) := by decide +kernel
theorem dX8_measureWaste_36 : decode cX8_measureWaste 36 = .ok (.iload_n 2, 1) := by decide +kernel
theorem dX8_measureWaste_37 : decode cX8_measureWaste 37 = .ok (.iload_n 1, 1) := by decide +kernel
theorem dX8_measureWaste_38 : decode cX8_measureWaste 38 = .ok (.invokevirtual 87, 3) := by decide +kernel
theorem dX8_measureWaste_41 : decode cX8_measureWaste 41 = .ok (.ifCond .eq 67, 3) := by decide +kernel
theorem dX8_measureWaste_44 : decode cX8_measureWaste 44 = .ok (.aload_n 0, 1) := by decide +kernel
theorem dX8_measureWaste_45 : decode cX8_measureWaste 45 = .ok (.getfield 26, 3) := by decide +kernel
theorem dX8_measureWaste_48 : decode cX8_measureWaste 48 = .ok (.iconst 1, 1) := by decide +kernel
theorem dX8_measureWaste_49 : decode cX8_measureWaste 49 = .ok (.iload_n 2, 1) := by decide +kernel
theorem dX8_measureWaste_50 : decode cX8_measureWaste 50 = .ok (.iload_n 1, 1) := by decide +kernel
theorem dX8_measureWaste_51 : decode cX8_measureWaste 51 = .ok (.invokevirtual 93, 3) := by decide +kernel
theorem dX8_measureWaste_54 : decode cX8_measureWaste 54 = .ok (.istore_n 3, 1) := by decide +kernel
theorem dX8_measureWaste_55 : decode cX8_measureWaste 55 = .ok (.aload_n 0, 1) := by decide +kernel
theorem dX8_measureWaste_56 : decode cX8_measureWaste 56 = .ok (.getfield 26, 3) := by decide +kernel
theorem dX8_measureWaste_59 : decode cX8_measureWaste 59 = .ok (.iconst 0, 1) := by decide +kernel
theorem dX8_measureWaste_60 : decode cX8_measureWaste 60 = .ok (.iload_n 2, 1) := by decide +kernel
theorem dX8_measureWaste_61 : decode cX8_measureWaste 61 = .ok (.iload_n 1, 1) := by decide +kernel
theorem dX8_measureWaste_62 : decode cX8_measureWaste 62 = .ok (.invokevirtual 93, 3) := by decide +kernel
theorem dX8_measureWaste_65 : decode cX8_measureWaste 65 = .ok (.iload_n 3, 1) := by decide +kernel
theorem dX8_measureWaste_66 : decode cX8_measureWaste 66 = .ok (.aload_n 0, 1) := by decide +kernel
theorem dX8_measureWaste_67 : decode cX8_measureWaste 67 = .ok (.getfield 22, 3) := by decide +kernel
theorem dX8_measureWaste_70 : decode cX8_measureWaste 70 = .ok (.iload_n 1, 1) := by decide +kernel
theorem dX8_measureWaste_71 : decode cX8_measureWaste 71 = .ok (.invokevirtual 97, 3) := by decide +kernel
theorem dX8_measureWaste_74 : decode cX8_measureWaste 74 = .ok (.imul, 1) := by decide +kernel
theorem dX8_measureWaste_75 : decode cX8_measureWaste 75 = .ok (.bipush 100, 2) := by decide +kernel
theorem dX8_measureWaste_77 : decode cX8_measureWaste 77 = .ok (.idiv, 1) := by decide +kernel
theorem dX8_measureWaste_78 : decode cX8_measureWaste 78 = .ok (.isub, 1) := by decide +kernel
theorem dX8_measureWaste_79 : decode cX8_measureWaste 79 = .ok (.istore 4, 2) := by decide +kernel
theorem dX8_measureWaste_81 : decode cX8_measureWaste 81 = .ok (.aload_n 0, 1) := by decide +kernel
theorem dX8_measureWaste_82 : decode cX8_measureWaste 82 = .ok (.aload_n 0, 1) := by decide +kernel
theorem dX8_measureWaste_83 : decode cX8_measureWaste 83 = .ok (.getfield 22, 3) := by decide +kernel
theorem dX8_measureWaste_86 : decode cX8_measureWaste 86 = .ok (.iload_n 1, 1) := by decide +kernel
theorem dX8_measureWaste_87 : decode cX8_measureWaste 87 = .ok (.iload_n 2, 1) := by decide +kernel
theorem dX8_measureWaste_88 : decode cX8_measureWaste 88 = .ok (.bipush 12, 2) := by decide +kernel
theorem dX8_measureWaste_90 : decode cX8_measureWaste 90 = .ok (.irem, 1) := by decide +kernel
theorem dX8_measureWaste_91 : decode cX8_measureWaste 91 = .ok (.invokevirtual 100, 3) := by decide +kernel
theorem dX8_measureWaste_94 : decode cX8_measureWaste 94 = .ok (.ifCond .eq 7, 3) := by decide +kernel
theorem dX8_measureWaste_97 : decode cX8_measureWaste 97 = .ok (.iconst 0, 1) := by decide +kernel
theorem dX8_measureWaste_98 : decode cX8_measureWaste 98 = .ok (.goto 4, 3) := by decide +kernel
theorem dX8_measureWaste_101 : decode cX8_measureWaste 101 = .ok (.iconst 1, 1) := by decide +kernel
theorem dX8_measureWaste_102 : decode cX8_measureWaste 102 = .ok (.iload 4, 2) := by decide +kernel
theorem dX8_measureWaste_104 : decode cX8_measureWaste 104 = .ok (.iload_n 3, 1) := by decide +kernel
theorem dX8_measureWaste_105 : decode cX8_measureWaste 105 = .ok (.invokevirtual 104, 3) := by decide +kernel
theorem dX8_measureWaste_108 : decode cX8_measureWaste 108 = .ok (.iinc 2 1, 3) := by decide +kernel
theorem dX8_measureWaste_111 : decode cX8_measureWaste 111 = .ok (.goto (-104), 3) := by decide +kernel
theorem dX8_measureWaste_114 : decode cX8_measureWaste 114 = .ok (.aload_n 0, 1) := by decide +kernel
theorem dX8_measureWaste_115 : decode cX8_measureWaste 115 = .ok (.getfield 15, 3) := by decide +kernel
theorem dX8_measureWaste_118 : decode cX8_measureWaste 118 = .ok (.iconst 0, 1) := by decide +kernel
theorem dX8_measureWaste_119 : decode cX8_measureWaste 119 = .ok (.laload, 1) := by decide +kernel
theorem dX8_measureWaste_120 : decode cX8_measureWaste 120 = .ok (.lconst 0, 1) := by decide +kernel
theorem dX8_measureWaste_121 : decode cX8_measureWaste 121 = .ok (.lcmp, 1) := by decide +kernel
theorem dX8_measureWaste_122 : decode cX8_measureWaste 122 = .ok (.ifCond .eq 14, 3) := by decide +kernel
theorem dX8_measureWaste_125 : decode cX8_measureWaste 125 = .ok (.aload_n 0, 1) := by decide +kernel
theorem dX8_measureWaste_126 : decode cX8_measureWaste 126 = .ok (.getfield 15, 3) := by decide +kernel
theorem dX8_measureWaste_129 : decode cX8_measureWaste 129 = .ok (.iconst 1, 1) := by decide +kernel
theorem dX8_measureWaste_130 : decode cX8_measureWaste 130 = .ok (.laload, 1) := by decide +kernel
theorem dX8_measureWaste_131 : decode cX8_measureWaste 131 = .ok (.lconst 0, 1) := by decide +kernel
theorem dX8_measureWaste_132 : decode cX8_measureWaste 132 = .ok (.lcmp, 1) := by decide +kernel
theorem dX8_measureWaste_133 : decode cX8_measureWaste 133 = .ok (.ifCond .ne 8, 3) := by decide +kernel
theorem dX8_measureWaste_136 : decode cX8_measureWaste 136 = .ok (.aload_n 0, 1) := by decide +kernel
theorem dX8_measureWaste_137 : decode cX8_measureWaste 137 = .ok (.iconst 0, 1) := by decide +kernel
theorem dX8_measureWaste_138 : decode cX8_measureWaste 138 = .ok (.invokevirtual 80, 3) := by decide +kernel
theorem dX8_measureWaste_141 : decode cX8_measureWaste 141 = .ok (.return_, 1) := by decide +kernel
theorem dX8_measureMeans_0 : decode cX8_measureMeans 0 = .ok (.aload_n 0, 1) := by decide +kernel
theorem dX8_measureMeans_1 : decode cX8_measureMeans 1 = .ok (.iload_n 3, 1) := by decide +kernel
theorem dX8_measureMeans_2 : decode cX8_measureMeans 2 = .ok (.invokevirtual 80, 3) := by decide +kernel
theorem dX8_measureMeans_5 : decode cX8_measureMeans 5 = .ok (.iconst 0, 1) := by decide +kernel
theorem dX8_measureMeans_6 : decode cX8_measureMeans 6 = .ok (.istore 4, 2) := by decide +kernel
theorem dX8_measureMeans_8 : decode cX8_measureMeans 8 = .ok (.iload 4, 2) := by decide +kernel
theorem dX8_measureMeans_10 : decode cX8_measureMeans 10 = .ok (.aload_n 0, 1) := by decide +kernel
theorem dX8_measureMeans_11 : decode cX8_measureMeans 11 = .ok (.getfield 22, 3) := by decide +kernel
theorem dX8_measureMeans_14 : decode cX8_measureMeans 14 = .ok (.invokevirtual 83, 3) := by decide +kernel
theorem dX8_measureMeans_17 : decode cX8_measureMeans 17 = .ok (.if_icmp .ge 62, 3) := by decide +kernel
theorem dX8_measureMeans_20 : decode cX8_measureMeans 20 = .ok (.aload_n 0, 1) := by decide +kernel
theorem dX8_measureMeans_21 : decode cX8_measureMeans 21 = .ok (.getfield 26, 3) := by decide +kernel
theorem dX8_measureMeans_24 : decode cX8_measureMeans 24 = .ok (.iload_n 2, 1) := by decide +kernel
theorem dX8_measureMeans_25 : decode cX8_measureMeans 25 = .ok (.iload 4, 2) := by decide +kernel
theorem dX8_measureMeans_27 : decode cX8_measureMeans 27 = .ok (.iload_n 1, 1) := by decide +kernel
theorem dX8_measureMeans_28 : decode cX8_measureMeans 28 = .ok (.invokevirtual 87, 3) := by decide +kernel
theorem dX8_measureMeans_31 : decode cX8_measureMeans 31 = .ok (.ifCond .eq 42, 3) := by decide +kernel
theorem dX8_measureMeans_34 : decode cX8_measureMeans 34 = .ok (.aload_n 0, 1) := by decide +kernel
theorem dX8_measureMeans_35 : decode cX8_measureMeans 35 = .ok (.aload_n 0, 1) := by decide +kernel
theorem dX8_measureMeans_36 : decode cX8_measureMeans 36 = .ok (.getfield 22, 3) := by decide +kernel
theorem dX8_measureMeans_39 : decode cX8_measureMeans 39 = .ok (.iload_n 1, 1) := by decide +kernel
theorem dX8_measureMeans_40 : decode cX8_measureMeans 40 = .ok (.iload 4, 2) := by decide +kernel
theorem dX8_measureMeans_42 : decode cX8_measureMeans 42 = .ok (.bipush 12, 2) := by decide +kernel
theorem dX8_measureMeans_44 : decode cX8_measureMeans 44 = .ok (.irem, 1) := by decide +kernel
theorem dX8_measureMeans_45 : decode cX8_measureMeans 45 = .ok (.invokevirtual 100, 3) := by decide +kernel
theorem dX8_measureMeans_48 : decode cX8_measureMeans 48 = .ok (.ifCond .eq 7, 3) := by decide +kernel
theorem dX8_measureMeans_51 : decode cX8_measureMeans 51 = .ok (.iload_n 3, 1) := by decide +kernel
theorem dX8_measureMeans_52 : decode cX8_measureMeans 52 = .ok (.goto 6, 3) := by decide +kernel
theorem dX8_measureMeans_55 : decode cX8_measureMeans 55 = .ok (.iload_n 3, 1) := by decide +kernel
theorem dX8_measureMeans_56 : decode cX8_measureMeans 56 = .ok (.iconst 1, 1) := by decide +kernel
theorem dX8_measureMeans_57 : decode cX8_measureMeans 57 = .ok (.iadd, 1) := by decide +kernel
theorem dX8_measureMeans_58 : decode cX8_measureMeans 58 = .ok (.aload_n 0, 1) := by decide +kernel
theorem dX8_measureMeans_59 : decode cX8_measureMeans 59 = .ok (.getfield 26, 3) := by decide +kernel
theorem dX8_measureMeans_62 : decode cX8_measureMeans 62 = .ok (.iload_n 2, 1) := by decide +kernel
theorem dX8_measureMeans_63 : decode cX8_measureMeans 63 = .ok (.iload 4, 2) := by decide +kernel
theorem dX8_measureMeans_65 : decode cX8_measureMeans 65 = .ok (.iload_n 1, 1) := by decide +kernel
theorem dX8_measureMeans_66 : decode cX8_measureMeans 66 = .ok (.invokevirtual 93, 3) := by decide +kernel
theorem dX8_measureMeans_69 : decode cX8_measureMeans 69 = .ok (.iconst 1, 1) := by decide +kernel
theorem dX8_measureMeans_70 : decode cX8_measureMeans 70 = .ok (.invokevirtual 104, 3) := by decide +kernel
theorem dX8_measureMeans_73 : decode cX8_measureMeans 73 = .ok (.iinc 4 1, 3) := by decide +kernel
theorem dX8_measureMeans_76 : decode cX8_measureMeans 76 = .ok (.goto (-68), 3) := by decide +kernel
theorem dX8_measureMeans_79 : decode cX8_measureMeans 79 = .ok (.return_, 1) := by decide +kernel
theorem dX8_clearThings_0 : decode cX8_clearThings 0 = .ok (.iload_n 1, 1) := by decide +kernel
theorem dX8_clearThings_1 : decode cX8_clearThings 1 = .ok (.istore_n 2, 1) := by decide +kernel
theorem dX8_clearThings_2 : decode cX8_clearThings 2 = .ok (.iload_n 2, 1) := by decide +kernel
theorem dX8_clearThings_3 : decode cX8_clearThings 3 = .ok (.iload_n 1, 1) := by decide +kernel
theorem dX8_clearThings_4 : decode cX8_clearThings 4 = .ok (.iconst 2, 1) := by decide +kernel
theorem dX8_clearThings_5 : decode cX8_clearThings 5 = .ok (.iadd, 1) := by decide +kernel
theorem dX8_clearThings_6 : decode cX8_clearThings 6 = .ok (.if_icmp .ge 33, 3) := by decide +kernel
theorem dX8_clearThings_9 : decode cX8_clearThings 9 = .ok (.iload_n 2, 1) := by decide +kernel
theorem dX8_clearThings_10 : decode cX8_clearThings 10 = .ok (.ifCond .lt 23, 3) := by decide +kernel
theorem dX8_clearThings_13 : decode cX8_clearThings 13 = .ok (.iload_n 2, 1) := by decide +kernel
theorem dX8_clearThings_14 : decode cX8_clearThings 14 = .ok (.bipush 10, 2) := by decide +kernel
theorem dX8_clearThings_16 : decode cX8_clearThings 16 = .ok (.if_icmp .ge 17, 3) := by decide +kernel
theorem dX8_clearThings_19 : decode cX8_clearThings 19 = .ok (.aload_n 0, 1) := by decide +kernel
theorem dX8_clearThings_20 : decode cX8_clearThings 20 = .ok (.getfield 11, 3) := by decide +kernel
theorem dX8_clearThings_23 : decode cX8_clearThings 23 = .ok (.iload_n 2, 1) := by decide +kernel
theorem dX8_clearThings_24 : decode cX8_clearThings 24 = .ok (.lconst 0, 1) := by decide +kernel
theorem dX8_clearThings_25 : decode cX8_clearThings 25 = .ok (.lastore, 1) := by decide +kernel
theorem dX8_clearThings_26 : decode cX8_clearThings 26 = .ok (.aload_n 0, 1) := by decide +kernel
theorem dX8_clearThings_27 : decode cX8_clearThings 27 = .ok (.getfield 15, 3) := by decide +kernel
theorem dX8_clearThings_30 : decode cX8_clearThings 30 = .ok (.iload_n 2, 1) := by decide +kernel
theorem dX8_clearThings_31 : decode cX8_clearThings 31 = .ok (.lconst 0, 1) := by decide +kernel
theorem dX8_clearThings_32 : decode cX8_clearThings 32 = .ok (.lastore, 1) := by decide +kernel
theorem dX8_clearThings_33 : decode cX8_clearThings 33 = .ok (.iinc 2 1, 3) := by decide +kernel
theorem dX8_clearThings_36 : decode cX8_clearThings 36 = .ok (.goto (-34), 3) := by decide +kernel
theorem dX8_clearThings_39 : decode cX8_clearThings 39 = .ok (.return_, 1) := by decide +kernel
theorem dX8_addTo_0 : decode cX8_addTo 0 = .ok (.iload_n 1, 1) := by decide +kernel
theorem dX8_addTo_1 : decode cX8_addTo 1 = .ok (.ifCond .lt 31, 3) := by decide +kernel
theorem dX8_addTo_4 : decode cX8_addTo 4 = .ok (.iload_n 1, 1) := by decide +kernel
theorem dX8_addTo_5 : decode cX8_addTo 5 = .ok (.bipush 10, 2) := by decide +kernel
theorem dX8_addTo_7 : decode cX8_addTo 7 = .ok (.if_icmp .ge 25, 3) := by decide +kernel
theorem dX8_addTo_10 : decode cX8_addTo 10 = .ok (.aload_n 0, 1) := by decide +kernel
theorem dX8_addTo_11 : decode cX8_addTo 11 = .ok (.getfield 11, 3) := by decide +kernel
theorem dX8_addTo_14 : decode cX8_addTo 14 = .ok (.iload_n 1, 1) := by decide +kernel
theorem dX8_addTo_15 : decode cX8_addTo 15 = .ok (.dup2, 1) := by decide +kernel
theorem dX8_addTo_16 : decode cX8_addTo 16 = .ok (.laload, 1) := by decide +kernel
theorem dX8_addTo_17 : decode cX8_addTo 17 = .ok (.iload_n 2, 1) := by decide +kernel
theorem dX8_addTo_18 : decode cX8_addTo 18 = .ok (.i2l, 1) := by decide +kernel
theorem dX8_addTo_19 : decode cX8_addTo 19 = .ok (.ladd, 1) := by decide +kernel
theorem dX8_addTo_20 : decode cX8_addTo 20 = .ok (.lastore, 1) := by decide +kernel
theorem dX8_addTo_21 : decode cX8_addTo 21 = .ok (.aload_n 0, 1) := by decide +kernel
theorem dX8_addTo_22 : decode cX8_addTo 22 = .ok (.getfield 15, 3) := by decide +kernel
theorem dX8_addTo_25 : decode cX8_addTo 25 = .ok (.iload_n 1, 1) := by decide +kernel
theorem dX8_addTo_26 : decode cX8_addTo 26 = .ok (.dup2, 1) := by decide +kernel
theorem dX8_addTo_27 : decode cX8_addTo 27 = .ok (.laload, 1) := by decide +kernel
theorem dX8_addTo_28 : decode cX8_addTo 28 = .ok (.iload_n 3, 1) := by decide +kernel
theorem dX8_addTo_29 : decode cX8_addTo 29 = .ok (.i2l, 1) := by decide +kernel
theorem dX8_addTo_30 : decode cX8_addTo 30 = .ok (.ladd, 1) := by decide +kernel
theorem dX8_addTo_31 : decode cX8_addTo 31 = .ok (.lastore, 1) := by decide +kernel
theorem dX8_addTo_32 : decode cX8_addTo 32 = .ok (.return_, 1) := by decide +kernel
theorem dX8_judge_0 : decode cX8_judge 0 = .ok (.aload_n 0, 1) := by decide +kernel
theorem dX8_judge_1 : decode cX8_judge 1 = .ok (.iload_n 1, 1) := by decide +kernel
theorem dX8_judge_2 : decode cX8_judge 2 = .ok (.invokevirtual 62, 3) := by decide +kernel
theorem dX8_judge_5 : decode cX8_judge 5 = .ok (.aload_n 0, 1) := by decide +kernel
theorem dX8_judge_6 : decode cX8_judge 6 = .ok (.iload_n 1, 1) := by decide +kernel
theorem dX8_judge_7 : decode cX8_judge 7 = .ok (.iconst 1, 1) := by decide +kernel
theorem dX8_judge_8 : decode cX8_judge 8 = .ok (.iconst 2, 1) := by decide +kernel
theorem dX8_judge_9 : decode cX8_judge 9 = .ok (.invokevirtual 108, 3) := by decide +kernel
theorem dX8_judge_12 : decode cX8_judge 12 = .ok (.aload_n 0, 1) := by decide +kernel
theorem dX8_judge_13 : decode cX8_judge 13 = .ok (.iload_n 1, 1) := by decide +kernel
theorem dX8_judge_14 : decode cX8_judge 14 = .ok (.iconst 0, 1) := by decide +kernel
theorem dX8_judge_15 : decode cX8_judge 15 = .ok (.iconst 4, 1) := by decide +kernel
theorem dX8_judge_16 : decode cX8_judge 16 = .ok (.invokevirtual 108, 3) := by decide +kernel
theorem dX8_judge_19 : decode cX8_judge 19 = .ok (.aload_n 0, 1) := by decide +kernel
theorem dX8_judge_20 : decode cX8_judge 20 = .ok (.iload_n 1, 1) := by decide +kernel
theorem dX8_judge_21 : decode cX8_judge 21 = .ok (.iconst 5, 1) := by decide +kernel
theorem dX8_judge_22 : decode cX8_judge 22 = .ok (.bipush 6, 2) := by decide +kernel
theorem dX8_judge_24 : decode cX8_judge 24 = .ok (.invokevirtual 108, 3) := by decide +kernel
theorem dX8_judge_27 : decode cX8_judge 27 = .ok (.aload_n 0, 1) := by decide +kernel
theorem dX8_judge_28 : decode cX8_judge 28 = .ok (.iload_n 1, 1) := by decide +kernel
theorem dX8_judge_29 : decode cX8_judge 29 = .ok (.iconst 2, 1) := by decide +kernel
theorem dX8_judge_30 : decode cX8_judge 30 = .ok (.bipush 8, 2) := by decide +kernel
theorem dX8_judge_32 : decode cX8_judge 32 = .ok (.invokevirtual 108, 3) := by decide +kernel
theorem dX8_judge_35 : decode cX8_judge 35 = .ok (.iconst 0, 1) := by decide +kernel
theorem dX8_judge_36 : decode cX8_judge 36 = .ok (.istore_n 2, 1) := by decide +kernel
theorem dX8_judge_37 : decode cX8_judge 37 = .ok (.iconst 0, 1) := by decide +kernel
theorem dX8_judge_38 : decode cX8_judge 38 = .ok (.istore_n 3, 1) := by decide +kernel
theorem dX8_judge_39 : decode cX8_judge 39 = .ok (.iload_n 3, 1) := by decide +kernel
theorem dX8_judge_40 : decode cX8_judge 40 = .ok (.aload_n 0, 1) := by decide +kernel
theorem dX8_judge_41 : decode cX8_judge 41 = .ok (.getfield 34, 3) := by decide +kernel
theorem dX8_judge_44 : decode cX8_judge 44 = .ok (.if_icmp .ge 41, 3) := by decide +kernel
theorem dX8_judge_47 : decode cX8_judge 47 = .ok (.iload_n 3, 1) := by decide +kernel
theorem dX8_judge_48 : decode cX8_judge 48 = .ok (.bipush 6, 2) := by decide +kernel
theorem dX8_judge_50 : decode cX8_judge 50 = .ok (.if_icmp .ge 35, 3) := by decide +kernel
theorem dX8_judge_53 : decode cX8_judge 53 = .ok (.aload_n 0, 1) := by decide +kernel
theorem dX8_judge_54 : decode cX8_judge 54 = .ok (.getfield 18, 3) := by decide +kernel
theorem dX8_judge_57 : decode cX8_judge 57 = .ok (.iload_n 3, 1) := by decide +kernel
theorem dX8_judge_58 : decode cX8_judge 58 = .ok (.aload_n 0, 1) := by decide +kernel
theorem dX8_judge_59 : decode cX8_judge 59 = .ok (.iload_n 3, 1) := by decide +kernel
theorem dX8_judge_60 : decode cX8_judge 60 = .ok (.invokevirtual 111, 3) := by decide +kernel
theorem dX8_judge_63 : decode cX8_judge 63 = .ok (.iastore, 1) := by decide +kernel
theorem dX8_judge_64 : decode cX8_judge 64 = .ok (.aload_n 0, 1) := by decide +kernel
theorem dX8_judge_65 : decode cX8_judge 65 = .ok (.getfield 18, 3) := by decide +kernel
theorem dX8_judge_68 : decode cX8_judge 68 = .ok (.iload_n 3, 1) := by decide +kernel
theorem dX8_judge_69 : decode cX8_judge 69 = .ok (.iaload, 1) := by decide +kernel
theorem dX8_judge_70 : decode cX8_judge 70 = .ok (.ifCond .ne 9, 3) := by decide +kernel
theorem dX8_judge_73 : decode cX8_judge 73 = .ok (.iload_n 2, 1) := by decide +kernel
theorem dX8_judge_74 : decode cX8_judge 74 = .ok (.iconst 1, 1) := by decide +kernel
theorem dX8_judge_75 : decode cX8_judge 75 = .ok (.iload_n 3, 1) := by decide +kernel
theorem dX8_judge_76 : decode cX8_judge 76 = .ok (.ishl, 1) := by decide +kernel
theorem dX8_judge_77 : decode cX8_judge 77 = .ok (.ior, 1) := by decide +kernel
theorem dX8_judge_78 : decode cX8_judge 78 = .ok (.istore_n 2, 1) := by decide +kernel
theorem dX8_judge_79 : decode cX8_judge 79 = .ok (.iinc 3 1, 3) := by decide +kernel
theorem dX8_judge_82 : decode cX8_judge 82 = .ok (.goto (-43), 3) := by decide +kernel
theorem dX8_judge_85 : decode cX8_judge 85 = .ok (.iload_n 2, 1) := by decide +kernel
theorem dX8_judge_86 : decode cX8_judge 86 = .ok (.ireturn, 1) := by decide +kernel
theorem dX8_failingOf_0 : decode cX8_failingOf 0 = .ok (.iconst 0, 1) := by decide +kernel
theorem dX8_failingOf_1 : decode cX8_failingOf 1 = .ok (.istore_n 2, 1) := by decide +kernel
theorem dX8_failingOf_2 : decode cX8_failingOf 2 = .ok (.iconst 0, 1) := by decide +kernel
theorem dX8_failingOf_3 : decode cX8_failingOf 3 = .ok (.istore_n 3, 1) := by decide +kernel
theorem dX8_failingOf_4 : decode cX8_failingOf 4 = .ok (.iload_n 3, 1) := by decide +kernel
theorem dX8_failingOf_5 : decode cX8_failingOf 5 = .ok (.aload_n 0, 1) := by decide +kernel
theorem dX8_failingOf_6 : decode cX8_failingOf 6 = .ok (.iload_n 1, 1) := by decide +kernel
theorem dX8_failingOf_7 : decode cX8_failingOf 7 = .ok (.invokevirtual 114, 3) := by decide +kernel
theorem dX8_failingOf_10 : decode cX8_failingOf 10 = .ok (.if_icmp .ge 47, 3) := by decide +kernel
theorem dX8_failingOf_13 : decode cX8_failingOf 13 = .ok (.aload_n 0, 1) := by decide +kernel
theorem dX8_failingOf_14 : decode cX8_failingOf 14 = .ok (.aload_n 0, 1) := by decide +kernel
theorem dX8_failingOf_15 : decode cX8_failingOf 15 = .ok (.iload_n 1, 1) := by decide +kernel
theorem dX8_failingOf_16 : decode cX8_failingOf 16 = .ok (.iload_n 3, 1) := by decide +kernel
theorem dX8_failingOf_17 : decode cX8_failingOf 17 = .ok (.invokevirtual 117, 3) := by decide +kernel
theorem dX8_failingOf_20 : decode cX8_failingOf 20 = .ok (.invokestatic 45, 3) := by decide +kernel
theorem dX8_failingOf_23 : decode cX8_failingOf 23 = .ok (.aload_n 0, 1) := by decide +kernel
theorem dX8_failingOf_24 : decode cX8_failingOf 24 = .ok (.iload_n 1, 1) := by decide +kernel
theorem dX8_failingOf_25 : decode cX8_failingOf 25 = .ok (.iload_n 3, 1) := by decide +kernel
theorem dX8_failingOf_26 : decode cX8_failingOf 26 = .ok (.iconst 1, 1) := by decide +kernel
theorem dX8_failingOf_27 : decode cX8_failingOf 27 = .ok (.iadd, 1) := by decide +kernel
theorem dX8_failingOf_28 : decode cX8_failingOf 28 = .ok (.invokevirtual 117, 3) := by decide +kernel
theorem dX8_failingOf_31 : decode cX8_failingOf 31 = .ok (.aload_n 0, 1) := by decide +kernel
theorem dX8_failingOf_32 : decode cX8_failingOf 32 = .ok (.iload_n 1, 1) := by decide +kernel
theorem dX8_failingOf_33 : decode cX8_failingOf 33 = .ok (.iload_n 3, 1) := by decide +kernel
theorem dX8_failingOf_34 : decode cX8_failingOf 34 = .ok (.iconst 2, 1) := by decide +kernel
theorem dX8_failingOf_35 : decode cX8_failingOf 35 = .ok (.iadd, 1) := by decide +kernel
theorem dX8_failingOf_36 : decode cX8_failingOf 36 = .ok (.invokevirtual 117, 3) := by decide +kernel
theorem dX8_failingOf_39 : decode cX8_failingOf 39 = .ok (.invokestatic 45, 3) := by decide +kernel
theorem dX8_failingOf_42 : decode cX8_failingOf 42 = .ok (.invokevirtual 121, 3) := by decide +kernel
theorem dX8_failingOf_45 : decode cX8_failingOf 45 = .ok (.ifCond .ne 6, 3) := by decide +kernel
theorem dX8_failingOf_48 : decode cX8_failingOf 48 = .ok (.iinc 2 1, 3) := by decide +kernel
theorem dX8_failingOf_51 : decode cX8_failingOf 51 = .ok (.iinc 3 4, 3) := by decide +kernel
theorem dX8_failingOf_54 : decode cX8_failingOf 54 = .ok (.goto (-50), 3) := by decide +kernel
theorem dX8_failingOf_57 : decode cX8_failingOf 57 = .ok (.iload_n 2, 1) := by decide +kernel
theorem dX8_failingOf_58 : decode cX8_failingOf 58 = .ok (.ireturn, 1) := by decide +kernel
theorem dX8_isSo_0 : decode cX8_isSo 0 = .ok (.iload_n 1, 1) := by decide +kernel
theorem dX8_isSo_1 : decode cX8_isSo 1 = .ok (.iconst 0, 1) := by decide +kernel
theorem dX8_isSo_2 : decode cX8_isSo 2 = .ok (.bipush 9, 2) := by decide +kernel
theorem dX8_isSo_4 : decode cX8_isSo 4 = .ok (.invokestatic 124, 3) := by decide +kernel
theorem dX8_isSo_7 : decode cX8_isSo 7 = .ok (.ifCond .eq 17, 3) := by decide +kernel
theorem dX8_isSo_10 : decode cX8_isSo 10 = .ok (.iload_n 3, 1) := by decide +kernel
theorem dX8_isSo_11 : decode cX8_isSo 11 = .ok (.iconst 0, 1) := by decide +kernel
theorem dX8_isSo_12 : decode cX8_isSo 12 = .ok (.bipush 9, 2) := by decide +kernel
theorem dX8_isSo_14 : decode cX8_isSo 14 = .ok (.invokestatic 124, 3) := by decide +kernel
theorem dX8_isSo_17 : decode cX8_isSo 17 = .ok (.ifCond .eq 7, 3) := by decide +kernel
theorem dX8_isSo_20 : decode cX8_isSo 20 = .ok (.iconst 1, 1) := by decide +kernel
theorem dX8_isSo_21 : decode cX8_isSo 21 = .ok (.goto 4, 3) := by decide +kernel
theorem dX8_isSo_24 : decode cX8_isSo 24 = .ok (.iconst 0, 1) := by decide +kernel
theorem dX8_isSo_25 : decode cX8_isSo 25 = .ok (.istore 4, 2) := by decide +kernel
theorem dX8_isSo_27 : decode cX8_isSo 27 = .ok (.iload 4, 2) := by decide +kernel
theorem dX8_isSo_29 : decode cX8_isSo 29 = .ok (.ifCond .eq 25, 3) := by decide +kernel
theorem dX8_isSo_32 : decode cX8_isSo 32 = .ok (.aload_n 0, 1) := by decide +kernel
theorem dX8_isSo_33 : decode cX8_isSo 33 = .ok (.getfield 15, 3) := by decide +kernel
theorem dX8_isSo_36 : decode cX8_isSo 36 = .ok (.iload_n 1, 1) := by decide +kernel
theorem dX8_isSo_37 : decode cX8_isSo 37 = .ok (.laload, 1) := by decide +kernel
theorem dX8_isSo_38 : decode cX8_isSo 38 = .ok (.lconst 0, 1) := by decide +kernel
theorem dX8_isSo_39 : decode cX8_isSo 39 = .ok (.lcmp, 1) := by decide +kernel
theorem dX8_isSo_40 : decode cX8_isSo 40 = .ok (.ifCond .eq 14, 3) := by decide +kernel
theorem dX8_isSo_43 : decode cX8_isSo 43 = .ok (.aload_n 0, 1) := by decide +kernel
theorem dX8_isSo_44 : decode cX8_isSo 44 = .ok (.getfield 15, 3) := by decide +kernel
theorem dX8_isSo_47 : decode cX8_isSo 47 = .ok (.iload_n 3, 1) := by decide +kernel
theorem dX8_isSo_48 : decode cX8_isSo 48 = .ok (.laload, 1) := by decide +kernel
theorem dX8_isSo_49 : decode cX8_isSo 49 = .ok (.lconst 0, 1) := by decide +kernel
theorem dX8_isSo_50 : decode cX8_isSo 50 = .ok (.lcmp, 1) := by decide +kernel
theorem dX8_isSo_51 : decode cX8_isSo 51 = .ok (.ifCond .ne 5, 3) := by decide +kernel
theorem dX8_isSo_54 : decode cX8_isSo 54 = .ok (.iconst 0, 1) := by decide +kernel
theorem dX8_isSo_55 : decode cX8_isSo 55 = .ok (.ireturn, 1) := by decide +kernel
theorem dX8_isSo_56 : decode cX8_isSo 56 = .ok (.aload_n 0, 1) := by decide +kernel
theorem dX8_isSo_57 : decode cX8_isSo 57 = .ok (.getfield 11, 3) := by decide +kernel
theorem dX8_isSo_60 : decode cX8_isSo 60 = .ok (.iload_n 1, 1) := by decide +kernel
theorem dX8_isSo_61 : decode cX8_isSo 61 = .ok (.laload, 1) := by decide +kernel
theorem dX8_isSo_62 : decode cX8_isSo 62 = .ok (.aload_n 0, 1) := by decide +kernel
theorem dX8_isSo_63 : decode cX8_isSo 63 = .ok (.getfield 15, 3) := by decide +kernel
theorem dX8_isSo_66 : decode cX8_isSo 66 = .ok (.iload_n 1, 1) := by decide +kernel
theorem dX8_isSo_67 : decode cX8_isSo 67 = .ok (.laload, 1) := by decide +kernel
theorem dX8_isSo_68 : decode cX8_isSo 68 = .ok (.aload_n 0, 1) := by decide +kernel
theorem dX8_isSo_69 : decode cX8_isSo 69 = .ok (.getfield 11, 3) := by decide +kernel
theorem dX8_isSo_72 : decode cX8_isSo 72 = .ok (.iload_n 3, 1) := by decide +kernel
theorem dX8_isSo_73 : decode cX8_isSo 73 = .ok (.laload, 1) := by decide +kernel
theorem dX8_isSo_74 : decode cX8_isSo 74 = .ok (.aload_n 0, 1) := by decide +kernel
theorem dX8_isSo_75 : decode cX8_isSo 75 = .ok (.getfield 15, 3) := by decide +kernel
theorem dX8_isSo_78 : decode cX8_isSo 78 = .ok (.iload_n 3, 1) := by decide +kernel
theorem dX8_isSo_79 : decode cX8_isSo 79 = .ok (.laload, 1) := by decide +kernel
theorem dX8_isSo_80 : decode cX8_isSo 80 = .ok (.invokestatic 76, 3) := by decide +kernel
theorem dX8_isSo_83 : decode cX8_isSo 83 = .ok (.istore 5, 2) := by decide +kernel
theorem dX8_isSo_85 : decode cX8_isSo 85 = .ok (.iload_n 2, 1) := by decide +kernel
theorem dX8_isSo_86 : decode cX8_isSo 86 = .ok (.bipush 60, 2) := by decide +kernel
theorem dX8_isSo_88 : decode cX8_isSo 88 = .ok (.if_icmp .ne 16, 3) := by decide +kernel
theorem dX8_isSo_91 : decode cX8_isSo 91 = .ok (.iload 5, 2) := by decide +kernel
theorem dX8_isSo_93 : decode cX8_isSo 93 = .ok (.ifCond .ge 7, 3) := by decide +kernel
theorem dX8_isSo_96 : decode cX8_isSo 96 = .ok (.iconst 1, 1) := by decide +kernel
theorem dX8_isSo_97 : decode cX8_isSo 97 = .ok (.goto 36, 3) := by decide +kernel
theorem dX8_isSo_100 : decode cX8_isSo 100 = .ok (.iconst 0, 1) := by decide +kernel
theorem dX8_isSo_101 : decode cX8_isSo 101 = .ok (.goto 32, 3) := by decide +kernel
theorem dX8_isSo_104 : decode cX8_isSo 104 = .ok (.iload_n 2, 1) := by decide +kernel
theorem dX8_isSo_105 : decode cX8_isSo 105 = .ok (.bipush 62, 2) := by decide +kernel
theorem dX8_isSo_107 : decode cX8_isSo 107 = .ok (.if_icmp .ne 16, 3) := by decide +kernel
theorem dX8_isSo_110 : decode cX8_isSo 110 = .ok (.iload 5, 2) := by decide +kernel
theorem dX8_isSo_112 : decode cX8_isSo 112 = .ok (.ifCond .le 7, 3) := by decide +kernel
theorem dX8_isSo_115 : decode cX8_isSo 115 = .ok (.iconst 1, 1) := by decide +kernel
theorem dX8_isSo_116 : decode cX8_isSo 116 = .ok (.goto 17, 3) := by decide +kernel
theorem dX8_isSo_119 : decode cX8_isSo 119 = .ok (.iconst 0, 1) := by decide +kernel
theorem dX8_isSo_120 : decode cX8_isSo 120 = .ok (.goto 13, 3) := by decide +kernel
theorem dX8_isSo_123 : decode cX8_isSo 123 = .ok (.iload 5, 2) := by decide +kernel
theorem dX8_isSo_125 : decode cX8_isSo 125 = .ok (.ifCond .ne 7, 3) := by decide +kernel
theorem dX8_isSo_128 : decode cX8_isSo 128 = .ok (.iconst 1, 1) := by decide +kernel
theorem dX8_isSo_129 : decode cX8_isSo 129 = .ok (.goto 4, 3) := by decide +kernel
theorem dX8_isSo_132 : decode cX8_isSo 132 = .ok (.iconst 0, 1) := by decide +kernel
theorem dX8_isSo_133 : decode cX8_isSo 133 = .ok (.ireturn, 1) := by decide +kernel
theorem dX8_standing_0 : decode cX8_standing 0 = .ok (.aload_n 0, 1) := by decide +kernel
theorem dX8_standing_1 : decode cX8_standing 1 = .ok (.getfield 22, 3) := by decide +kernel
theorem dX8_standing_4 : decode cX8_standing 4 = .ok (.iload_n 1, 1) := by decide +kernel
theorem dX8_standing_5 : decode cX8_standing 5 = .ok (.invokevirtual 56, 3) := by decide +kernel
theorem dX8_standing_8 : decode cX8_standing 8 = .ok (.ifCond .ne 5, 3) := by decide +kernel
theorem dX8_standing_11 : decode cX8_standing 11 = .ok (.iconst (-1), 1) := by decide +kernel
theorem dX8_standing_12 : decode cX8_standing 12 = .ok (.ireturn, 1) := by decide +kernel
theorem dX8_standing_13 : decode cX8_standing 13 = .ok (.aload_n 0, 1) := by decide +kernel
theorem dX8_standing_14 : decode cX8_standing 14 = .ok (.iload_n 1, 1) := by decide +kernel
theorem dX8_standing_15 : decode cX8_standing 15 = .ok (.invokevirtual 127, 3) := by decide +kernel
theorem dX8_standing_18 : decode cX8_standing 18 = .ok (.istore_n 2, 1) := by decide +kernel
theorem dX8_standing_19 : decode cX8_standing 19 = .ok (.aload_n 0, 1) := by decide +kernel
theorem dX8_standing_20 : decode cX8_standing 20 = .ok (.getfield 30, 3) := by decide +kernel
theorem dX8_standing_23 : decode cX8_standing 23 = .ok (.invokevirtual 66, 3) := by decide +kernel
theorem dX8_standing_26 : decode cX8_standing 26 = .ok (.pop, 1) := by decide +kernel
theorem dX8_standing_27 : decode cX8_standing 27 = .ok (.iconst 0, 1) := by decide +kernel
theorem dX8_standing_28 : decode cX8_standing 28 = .ok (.istore_n 3, 1) := by decide +kernel
theorem dX8_standing_29 : decode cX8_standing 29 = .ok (.iload_n 3, 1) := by decide +kernel
theorem dX8_standing_30 : decode cX8_standing 30 = .ok (.aload_n 0, 1) := by decide +kernel
theorem dX8_standing_31 : decode cX8_standing 31 = .ok (.getfield 34, 3) := by decide +kernel
theorem dX8_standing_34 : decode cX8_standing 34 = .ok (.if_icmp .ge 30, 3) := by decide +kernel
theorem dX8_standing_37 : decode cX8_standing 37 = .ok (.iload_n 3, 1) := by decide +kernel
theorem dX8_standing_38 : decode cX8_standing 38 = .ok (.bipush 6, 2) := by decide +kernel
theorem dX8_standing_40 : decode cX8_standing 40 = .ok (.if_icmp .ge 24, 3) := by decide +kernel
theorem dX8_standing_43 : decode cX8_standing 43 = .ok (.aload_n 0, 1) := by decide +kernel
theorem dX8_standing_44 : decode cX8_standing 44 = .ok (.getfield 30, 3) := by decide +kernel
theorem dX8_standing_47 : decode cX8_standing 47 = .ok (.aload_n 0, 1) := by decide +kernel
theorem dX8_standing_48 : decode cX8_standing 48 = .ok (.getfield 18, 3) := by decide +kernel
theorem dX8_standing_51 : decode cX8_standing 51 = .ok (.iload_n 3, 1) := by decide +kernel
theorem dX8_standing_52 : decode cX8_standing 52 = .ok (.iaload, 1) := by decide +kernel
theorem dX8_standing_53 : decode cX8_standing 53 = .ok (.i2l, 1) := by decide +kernel
theorem dX8_standing_54 : decode cX8_standing 54 = .ok (.invokevirtual 130, 3) := by decide +kernel
theorem dX8_standing_57 : decode cX8_standing 57 = .ok (.pop, 1) := by decide +kernel
theorem dX8_standing_58 : decode cX8_standing 58 = .ok (.iinc 3 1, 3) := by decide +kernel
theorem dX8_standing_61 : decode cX8_standing 61 = .ok (.goto (-32), 3) := by decide +kernel
theorem dX8_standing_64 : decode cX8_standing 64 = .ok (.iload_n 2, 1) := by decide +kernel
theorem dX8_standing_65 : decode cX8_standing 65 = .ok (.ireturn, 1) := by decide +kernel
theorem dX8_partingSort_0 : decode cX8_partingSort 0 = .ok (.bipush (-2), 2) := by decide +kernel
theorem dX8_partingSort_2 : decode cX8_partingSort 2 = .ok (.istore_n 1, 1) := by decide +kernel
theorem dX8_partingSort_3 : decode cX8_partingSort 3 = .ok (.iconst 0, 1) := by decide +kernel
theorem dX8_partingSort_4 : decode cX8_partingSort 4 = .ok (.istore_n 2, 1) := by decide +kernel
theorem dX8_partingSort_5 : decode cX8_partingSort 5 = .ok (.iconst 0, 1) := by decide +kernel
theorem dX8_partingSort_6 : decode cX8_partingSort 6 = .ok (.istore_n 3, 1) := by decide +kernel
theorem dX8_partingSort_7 : decode cX8_partingSort 7 = .ok (.iload_n 3, 1) := by decide +kernel
theorem dX8_partingSort_8 : decode cX8_partingSort 8 = .ok (.aload_n 0, 1) := by decide +kernel
theorem dX8_partingSort_9 : decode cX8_partingSort 9 = .ok (.getfield 22, 3) := by decide +kernel
theorem dX8_partingSort_12 : decode cX8_partingSort 12 = .ok (.invokevirtual 134, 3) := by decide +kernel
theorem dX8_partingSort_15 : decode cX8_partingSort 15 = .ok (.if_icmp .ge 42, 3) := by decide +kernel
theorem dX8_partingSort_18 : decode cX8_partingSort 18 = .ok (.aload_n 0, 1) := by decide +kernel
theorem dX8_partingSort_19 : decode cX8_partingSort 19 = .ok (.iload_n 3, 1) := by decide +kernel
theorem dX8_partingSort_20 : decode cX8_partingSort 20 = .ok (.invokevirtual 127, 3) := by decide +kernel
theorem dX8_partingSort_23 : decode cX8_partingSort 23 = .ok (.istore 4, 2) := by decide +kernel
theorem dX8_partingSort_25 : decode cX8_partingSort 25 = .ok (.iload 4, 2) := by decide +kernel
theorem dX8_partingSort_27 : decode cX8_partingSort 27 = .ok (.ifCond .eq 24, 3) := by decide +kernel
theorem dX8_partingSort_30 : decode cX8_partingSort 30 = .ok (.iload_n 1, 1) := by decide +kernel
theorem dX8_partingSort_31 : decode cX8_partingSort 31 = .ok (.ifCond .lt 15, 3) := by decide +kernel
theorem dX8_partingSort_34 : decode cX8_partingSort 34 = .ok (.iload 4, 2) := by decide +kernel
theorem dX8_partingSort_36 : decode cX8_partingSort 36 = .ok (.invokestatic 137, 3) := by decide +kernel
theorem dX8_partingSort_39 : decode cX8_partingSort 39 = .ok (.iload_n 2, 1) := by decide +kernel
theorem dX8_partingSort_40 : decode cX8_partingSort 40 = .ok (.invokestatic 137, 3) := by decide +kernel
theorem dX8_partingSort_43 : decode cX8_partingSort 43 = .ok (.if_icmp .ge 8, 3) := by decide +kernel
theorem dX8_partingSort_46 : decode cX8_partingSort 46 = .ok (.iload_n 3, 1) := by decide +kernel
theorem dX8_partingSort_47 : decode cX8_partingSort 47 = .ok (.istore_n 1, 1) := by decide +kernel
theorem dX8_partingSort_48 : decode cX8_partingSort 48 = .ok (.iload 4, 2) := by decide +kernel
theorem dX8_partingSort_50 : decode cX8_partingSort 50 = .ok (.istore_n 2, 1) := by decide +kernel
theorem dX8_partingSort_51 : decode cX8_partingSort 51 = .ok (.iinc 3 1, 3) := by decide +kernel
theorem dX8_partingSort_54 : decode cX8_partingSort 54 = .ok (.goto (-47), 3) := by decide +kernel
theorem dX8_partingSort_57 : decode cX8_partingSort 57 = .ok (.iload_n 1, 1) := by decide +kernel
theorem dX8_partingSort_58 : decode cX8_partingSort 58 = .ok (.ifCond .lt 16, 3) := by decide +kernel
theorem dX8_partingSort_61 : decode cX8_partingSort 61 = .ok (.aload_n 0, 1) := by decide +kernel
theorem dX8_partingSort_62 : decode cX8_partingSort 62 = .ok (.getfield 30, 3) := by decide +kernel
theorem dX8_partingSort_65 : decode cX8_partingSort 65 = .ok (.invokevirtual 66, 3) := by decide +kernel
theorem dX8_partingSort_68 : decode cX8_partingSort 68 = .ok (.iload_n 2, 1) := by decide +kernel
theorem dX8_partingSort_69 : decode cX8_partingSort 69 = .ok (.i2l, 1) := by decide +kernel
theorem dX8_partingSort_70 : decode cX8_partingSort 70 = .ok (.invokevirtual 130, 3) := by decide +kernel
theorem dX8_partingSort_73 : decode cX8_partingSort 73 = .ok (.pop, 1) := by decide +kernel
theorem dX8_partingSort_74 : decode cX8_partingSort 74 = .ok (.iload_n 1, 1) := by decide +kernel
theorem dX8_partingSort_75 : decode cX8_partingSort 75 = .ok (.ireturn, 1) := by decide +kernel
theorem dX9_init_0 : decode cX9_init 0 = .ok (.aload_n 0, 1) := by decide +kernel
theorem dX9_init_1 : decode cX9_init 1 = .ok (.invokespecial 3, 3) := by decide +kernel
theorem dX9_init_4 : decode cX9_init 4 = .ok (.aload_n 0, 1) := by decide +kernel
theorem dX9_init_5 : decode cX9_init 5 = .ok (.bipush 60, 2) := by decide +kernel
theorem dX9_init_7 : decode cX9_init 7 = .ok (.newarray .int, 2) := by decide +kernel
theorem dX9_init_9 : decode cX9_init 9 = .ok (.putfield 11, 3) := by decide +kernel
theorem dX9_init_12 : decode cX9_init 12 = .ok (.return_, 1) := by decide +kernel
theorem dX9_append_0 : decode cX9_append 0 = .ok (.aload_n 0, 1) := by decide +kernel
theorem dX9_append_1 : decode cX9_append 1 = .ok (.getfield 15, 3) := by decide +kernel
theorem dX9_append_4 : decode cX9_append 4 = .ok (.bipush 56, 2) := by decide +kernel
theorem dX9_append_6 : decode cX9_append 6 = .ok (.if_icmp .le 5, 3) := by decide +kernel
theorem dX9_append_9 : decode cX9_append 9 = .ok (.iconst (-1), 1) := by decide +kernel
theorem dX9_append_10 : decode cX9_append 10 = .ok (.ireturn, 1) := by decide +kernel
theorem dX9_append_11 : decode cX9_append 11 = .ok (.bipush 24, 2) := by decide +kernel
theorem dX9_append_13 : decode cX9_append 13 = .ok (.istore_n 2, 1) := by decide +kernel
theorem dX9_append_14 : decode cX9_append 14 = .ok (.iload_n 2, 1) := by decide +kernel
theorem dX9_append_15 : decode cX9_append 15 = .ok (.ifCond .lt 35, 3) := by decide +kernel
theorem dX9_append_18 : decode cX9_append 18 = .ok (.aload_n 0, 1) := by decide +kernel
theorem dX9_append_19 : decode cX9_append 19 = .ok (.getfield 11, 3) := by decide +kernel
theorem dX9_append_22 : decode cX9_append 22 = .ok (.aload_n 0, 1) := by decide +kernel
theorem dX9_append_23 : decode cX9_append 23 = .ok (.getfield 15, 3) := by decide +kernel
theorem dX9_append_26 : decode cX9_append 26 = .ok (.iload_n 1, 1) := by decide +kernel
theorem dX9_append_27 : decode cX9_append 27 = .ok (.iload_n 2, 1) := by decide +kernel
theorem dX9_append_28 : decode cX9_append 28 = .ok (.iushr, 1) := by decide +kernel
theorem dX9_append_29 : decode cX9_append 29 = .ok (.sipush 255, 3) := by decide +kernel
theorem dX9_append_32 : decode cX9_append 32 = .ok (.iand, 1) := by decide +kernel
theorem dX9_append_33 : decode cX9_append 33 = .ok (.iastore, 1) := by decide +kernel
theorem dX9_append_34 : decode cX9_append 34 = .ok (.aload_n 0, 1) := by decide +kernel
theorem dX9_append_35 : decode cX9_append 35 = .ok (.dup, 1) := by decide +kernel
theorem dX9_append_36 : decode cX9_append 36 = .ok (.getfield 15, 3) := by decide +kernel
theorem dX9_append_39 : decode cX9_append 39 = .ok (.iconst 1, 1) := by decide +kernel
theorem dX9_append_40 : decode cX9_append 40 = .ok (.iadd, 1) := by decide +kernel
theorem dX9_append_41 : decode cX9_append 41 = .ok (.putfield 15, 3) := by decide +kernel
theorem dX9_append_44 : decode cX9_append 44 = .ok (.iinc 2 (-8), 3) := by decide +kernel
theorem dX9_append_47 : decode cX9_append 47 = .ok (.goto (-33), 3) := by decide +kernel
theorem dX9_append_50 : decode cX9_append 50 = .ok (.aload_n 0, 1) := by decide +kernel
theorem dX9_append_51 : decode cX9_append 51 = .ok (.getfield 15, 3) := by decide +kernel
theorem dX9_append_54 : decode cX9_append 54 = .ok (.ireturn, 1) := by decide +kernel
theorem dX9_cut_0 : decode cX9_cut 0 = .ok (.iload_n 1, 1) := by decide +kernel
theorem dX9_cut_1 : decode cX9_cut 1 = .ok (.ifCond .lt 11, 3) := by decide +kernel
theorem dX9_cut_4 : decode cX9_cut 4 = .ok (.iload_n 1, 1) := by decide +kernel
theorem dX9_cut_5 : decode cX9_cut 5 = .ok (.aload_n 0, 1) := by decide +kernel
theorem dX9_cut_6 : decode cX9_cut 6 = .ok (.getfield 15, 3) := by decide +kernel
theorem dX9_cut_9 : decode cX9_cut 9 = .ok (.if_icmp .le 5, 3) := by decide +kernel
theorem dX9_cut_12 : decode cX9_cut 12 = .ok (.iconst 0, 1) := by decide +kernel
theorem dX9_cut_13 : decode cX9_cut 13 = .ok (.ireturn, 1) := by decide +kernel
theorem dX9_cut_14 : decode cX9_cut 14 = .ok (.aload_n 0, 1) := by decide +kernel
theorem dX9_cut_15 : decode cX9_cut 15 = .ok (.iload_n 1, 1) := by decide +kernel
theorem dX9_cut_16 : decode cX9_cut 16 = .ok (.putfield 15, 3) := by decide +kernel
theorem dX9_cut_19 : decode cX9_cut 19 = .ok (.iconst 1, 1) := by decide +kernel
theorem dX9_cut_20 : decode cX9_cut 20 = .ok (.ireturn, 1) := by decide +kernel
theorem dX9_at_0 : decode cX9_at 0 = .ok (.iload_n 1, 1) := by decide +kernel
theorem dX9_at_1 : decode cX9_at 1 = .ok (.ifCond .lt 20, 3) := by decide +kernel
theorem dX9_at_4 : decode cX9_at 4 = .ok (.iload_n 1, 1) := by decide +kernel
theorem dX9_at_5 : decode cX9_at 5 = .ok (.aload_n 0, 1) := by decide +kernel
theorem dX9_at_6 : decode cX9_at 6 = .ok (.getfield 15, 3) := by decide +kernel
theorem dX9_at_9 : decode cX9_at 9 = .ok (.if_icmp .ge 12, 3) := by decide +kernel
theorem dX9_at_12 : decode cX9_at 12 = .ok (.aload_n 0, 1) := by decide +kernel
theorem dX9_at_13 : decode cX9_at 13 = .ok (.getfield 11, 3) := by decide +kernel
theorem dX9_at_16 : decode cX9_at 16 = .ok (.iload_n 1, 1) := by decide +kernel
theorem dX9_at_17 : decode cX9_at 17 = .ok (.iaload, 1) := by decide +kernel
theorem dX9_at_18 : decode cX9_at 18 = .ok (.goto 4, 3) := by decide +kernel
theorem dX9_at_21 : decode cX9_at 21 = .ok (.iconst (-1), 1) := by decide +kernel
theorem dX9_at_22 : decode cX9_at 22 = .ok (.ireturn, 1) := by decide +kernel
theorem dX9_size_0 : decode cX9_size 0 = .ok (.aload_n 0, 1) := by decide +kernel
theorem dX9_size_1 : decode cX9_size 1 = .ok (.getfield 15, 3) := by decide +kernel
theorem dX9_size_4 : decode cX9_size 4 = .ok (.ireturn, 1) := by decide +kernel
theorem dX10_init_0 : decode cX10_init 0 = .ok (.aload_n 0, 1) := by decide +kernel
theorem dX10_init_1 : decode cX10_init 1 = .ok (.invokespecial 3, 3) := by decide +kernel
theorem dX10_init_4 : decode cX10_init 4 = .ok (.aload_n 0, 1) := by decide +kernel
theorem dX10_init_5 : decode cX10_init 5 = .ok (.bipush 8, 2) := by decide +kernel
theorem dX10_init_7 : decode cX10_init 7 = .ok (.newarray .int, 2) := by decide +kernel
theorem dX10_init_9 : decode cX10_init 9 = .ok (.putfield 9, 3) := by decide +kernel
theorem dX10_init_12 : decode cX10_init 12 = .ok (.aload_n 0, 1) := by decide +kernel
theorem dX10_init_13 : decode cX10_init 13 = .ok (.bipush 8, 2) := by decide +kernel
theorem dX10_init_15 : decode cX10_init 15 = .ok (.newarray .int, 2) := by decide +kernel
theorem dX10_init_17 : decode cX10_init 17 = .ok (.putfield 15, 3) := by decide +kernel
theorem dX10_init_20 : decode cX10_init 20 = .ok (.aload_n 0, 1) := by decide +kernel
theorem dX10_init_21 : decode cX10_init 21 = .ok (.bipush 8, 2) := by decide +kernel
theorem dX10_init_23 : decode cX10_init 23 = .ok (.newarray .int, 2) := by decide +kernel
theorem dX10_init_25 : decode cX10_init 25 = .ok (.putfield 18, 3) := by decide +kernel
theorem dX10_init_28 : decode cX10_init 28 = .ok (.aload_n 0, 1) := by decide +kernel
theorem dX10_init_29 : decode cX10_init 29 = .ok (.bipush 8, 2) := by decide +kernel
theorem dX10_init_31 : decode cX10_init 31 = .ok (.newarray .int, 2) := by decide +kernel
theorem dX10_init_33 : decode cX10_init 33 = .ok (.putfield 21, 3) := by decide +kernel
theorem dX10_init_36 : decode cX10_init 36 = .ok (.aload_n 0, 1) := by decide +kernel
theorem dX10_init_37 : decode cX10_init 37 = .ok (.bipush 8, 2) := by decide +kernel
theorem dX10_init_39 : decode cX10_init 39 = .ok (.newarray .int, 2) := by decide +kernel
theorem dX10_init_41 : decode cX10_init 41 = .ok (.putfield 24, 3) := by decide +kernel
theorem dX10_init_44 : decode cX10_init 44 = .ok (.aload_n 0, 1) := by decide +kernel
theorem dX10_init_45 : decode cX10_init 45 = .ok (.bipush 8, 2) := by decide +kernel
theorem dX10_init_47 : decode cX10_init 47 = .ok (.newarray .int, 2) := by decide +kernel
theorem dX10_init_49 : decode cX10_init 49 = .ok (.putfield 27, 3) := by decide +kernel
theorem dX10_init_52 : decode cX10_init 52 = .ok (.aload_n 0, 1) := by decide +kernel
theorem dX10_init_53 : decode cX10_init 53 = .ok (.bipush 8, 2) := by decide +kernel
theorem dX10_init_55 : decode cX10_init 55 = .ok (.newarray .int, 2) := by decide +kernel
theorem dX10_init_57 : decode cX10_init 57 = .ok (.putfield 30, 3) := by decide +kernel
theorem dX10_init_60 : decode cX10_init 60 = .ok (.aload_n 0, 1) := by decide +kernel
theorem dX10_init_61 : decode cX10_init 61 = .ok (.bipush 8, 2) := by decide +kernel
theorem dX10_init_63 : decode cX10_init 63 = .ok (.newarray .int, 2) := by decide +kernel
theorem dX10_init_65 : decode cX10_init 65 = .ok (.putfield 33, 3) := by decide +kernel
theorem dX10_init_68 : decode cX10_init 68 = .ok (.aload_n 0, 1) := by decide +kernel
theorem dX10_init_69 : decode cX10_init 69 = .ok (.bipush 8, 2) := by decide +kernel
theorem dX10_init_71 : decode cX10_init 71 = .ok (.newarray .int, 2) := by decide +kernel
theorem dX10_init_73 : decode cX10_init 73 = .ok (.putfield 36, 3) := by decide +kernel
theorem dX10_init_76 : decode cX10_init 76 = .ok (.aload_n 0, 1) := by decide +kernel
theorem dX10_init_77 : decode cX10_init 77 = .ok (.aload_n 1, 1) := by decide +kernel
theorem dX10_init_78 : decode cX10_init 78 = .ok (.putfield 39, 3) := by decide +kernel
theorem dX10_init_81 : decode cX10_init 81 = .ok (.aload_n 0, 1) := by decide +kernel
theorem dX10_init_82 : decode cX10_init 82 = .ok (.aload_n 2, 1) := by decide +kernel
theorem dX10_init_83 : decode cX10_init 83 = .ok (.putfield 43, 3) := by decide +kernel
theorem dX10_init_86 : decode cX10_init 86 = .ok (.return_, 1) := by decide +kernel
theorem dX10_addSort_0 : decode cX10_addSort 0 = .ok (.iload_n 1, 1) := by decide +kernel
theorem dX10_addSort_1 : decode cX10_addSort 1 = .ok (.iconst 1, 1) := by decide +kernel
theorem dX10_addSort_2 : decode cX10_addSort 2 = .ok (.bipush 100, 2) := by decide +kernel
theorem dX10_addSort_4 : decode cX10_addSort 4 = .ok (.invokestatic 47, 3) := by decide +kernel
theorem dX10_addSort_7 : decode cX10_addSort 7 = .ok (.ifCond .eq 27, 3) := by decide +kernel
theorem dX10_addSort_10 : decode cX10_addSort 10 = .ok (.iload_n 2, 1) := by decide +kernel
theorem dX10_addSort_11 : decode cX10_addSort 11 = .ok (.bipush (-5), 2) := by decide +kernel
theorem dX10_addSort_13 : decode cX10_addSort 13 = .ok (.iconst 5, 1) := by decide +kernel
theorem dX10_addSort_14 : decode cX10_addSort 14 = .ok (.invokestatic 47, 3) := by decide +kernel
theorem dX10_addSort_17 : decode cX10_addSort 17 = .ok (.ifCond .eq 17, 3) := by decide +kernel
theorem dX10_addSort_20 : decode cX10_addSort 20 = .ok (.iload_n 3, 1) := by decide +kernel
theorem dX10_addSort_21 : decode cX10_addSort 21 = .ok (.iconst 1, 1) := by decide +kernel
theorem dX10_addSort_22 : decode cX10_addSort 22 = .ok (.bipush 100, 2) := by decide +kernel
theorem dX10_addSort_24 : decode cX10_addSort 24 = .ok (.invokestatic 47, 3) := by decide +kernel
theorem dX10_addSort_27 : decode cX10_addSort 27 = .ok (.ifCond .eq 7, 3) := by decide +kernel
theorem dX10_addSort_30 : decode cX10_addSort 30 = .ok (.iconst 1, 1) := by decide +kernel
theorem dX10_addSort_31 : decode cX10_addSort 31 = .ok (.goto 4, 3) := by decide +kernel
theorem dX10_addSort_34 : decode cX10_addSort 34 = .ok (.iconst 0, 1) := by decide +kernel
theorem dX10_addSort_35 : decode cX10_addSort 35 = .ok (.istore 4, 2) := by decide +kernel
theorem dX10_addSort_37 : decode cX10_addSort 37 = .ok (.iload 4, 2) := by decide +kernel
theorem dX10_addSort_39 : decode cX10_addSort 39 = .ok (.ifCond .eq 12, 3) := by decide +kernel
theorem dX10_addSort_42 : decode cX10_addSort 42 = .ok (.aload_n 0, 1) := by decide +kernel
theorem dX10_addSort_43 : decode cX10_addSort 43 = .ok (.getfield 51, 3) := by decide +kernel
theorem dX10_addSort_46 : decode cX10_addSort 46 = .ok (.bipush 8, 2) := by decide +kernel
theorem dX10_addSort_48 : decode cX10_addSort 48 = .ok (.if_icmp .lt 5, 3) := by decide +kernel
theorem dX10_addSort_51 : decode cX10_addSort 51 = .ok (.iconst (-1), 1) := by decide +kernel
theorem dX10_addSort_52 : decode cX10_addSort 52 = .ok (.ireturn, 1) := by decide +kernel
theorem dX10_addSort_53 : decode cX10_addSort 53 = .ok (.aload_n 0, 1) := by decide +kernel
theorem dX10_addSort_54 : decode cX10_addSort 54 = .ok (.getfield 9, 3) := by decide +kernel
theorem dX10_addSort_57 : decode cX10_addSort 57 = .ok (.aload_n 0, 1) := by decide +kernel
theorem dX10_addSort_58 : decode cX10_addSort 58 = .ok (.getfield 51, 3) := by decide +kernel
theorem dX10_addSort_61 : decode cX10_addSort 61 = .ok (.iload_n 1, 1) := by decide +kernel
theorem dX10_addSort_62 : decode cX10_addSort 62 = .ok (.iastore, 1) := by decide +kernel
theorem dX10_addSort_63 : decode cX10_addSort 63 = .ok (.aload_n 0, 1) := by decide +kernel
theorem dX10_addSort_64 : decode cX10_addSort 64 = .ok (.getfield 15, 3) := by decide +kernel
theorem dX10_addSort_67 : decode cX10_addSort 67 = .ok (.aload_n 0, 1) := by decide +kernel
theorem dX10_addSort_68 : decode cX10_addSort 68 = .ok (.getfield 51, 3) := by decide +kernel
theorem dX10_addSort_71 : decode cX10_addSort 71 = .ok (.iload_n 2, 1) := by decide +kernel
theorem dX10_addSort_72 : decode cX10_addSort 72 = .ok (.iastore, 1) := by decide +kernel
theorem dX10_addSort_73 : decode cX10_addSort 73 = .ok (.aload_n 0, 1) := by decide +kernel
theorem dX10_addSort_74 : decode cX10_addSort 74 = .ok (.getfield 18, 3) := by decide +kernel
theorem dX10_addSort_77 : decode cX10_addSort 77 = .ok (.aload_n 0, 1) := by decide +kernel
theorem dX10_addSort_78 : decode cX10_addSort 78 = .ok (.getfield 51, 3) := by decide +kernel
theorem dX10_addSort_81 : decode cX10_addSort 81 = .ok (.iload_n 3, 1) := by decide +kernel
theorem dX10_addSort_82 : decode cX10_addSort 82 = .ok (.iastore, 1) := by decide +kernel
theorem dX10_addSort_83 : decode cX10_addSort 83 = .ok (.aload_n 0, 1) := by decide +kernel
theorem dX10_addSort_84 : decode cX10_addSort 84 = .ok (.dup, 1) := by decide +kernel
theorem dX10_addSort_85 : decode cX10_addSort 85 = .ok (.getfield 51, 3) := by decide +kernel
theorem dX10_addSort_88 : decode cX10_addSort 88 = .ok (.iconst 1, 1) := by decide +kernel
theorem dX10_addSort_89 : decode cX10_addSort 89 = .ok (.iadd, 1) := by decide +kernel
theorem dX10_addSort_90 : decode cX10_addSort 90 = .ok (.putfield 51, 3) := by decide +kernel
theorem dX10_addSort_93 : decode cX10_addSort 93 = .ok (.aload_n 0, 1) := by decide +kernel
theorem dX10_addSort_94 : decode cX10_addSort 94 = .ok (.getfield 51, 3) := by decide +kernel
theorem dX10_addSort_97 : decode cX10_addSort 97 = .ok (.iconst 1, 1) := by decide +kernel
theorem dX10_addSort_98 : decode cX10_addSort 98 = .ok (.isub, 1) := by decide +kernel
theorem dX10_addSort_99 : decode cX10_addSort 99 = .ok (.ireturn, 1) := by decide +kernel
theorem dX10_setGone_0 : decode cX10_setGone 0 = .ok (.iload_n 2, 1) := by decide +kernel
theorem dX10_setGone_1 : decode cX10_setGone 1 = .ok (.iconst 0, 1) := by decide +kernel
theorem dX10_setGone_2 : decode cX10_setGone 2 = .ok (.bipush 100, 2) := by decide +kernel
theorem dX10_setGone_4 : decode cX10_setGone 4 = .ok (.invokestatic 47, 3) := by decide +kernel
theorem dX10_setGone_7 : decode cX10_setGone 7 = .ok (.ifCond .eq 28, 3) := by decide +kernel
theorem dX10_setGone_10 : decode cX10_setGone 10 = .ok (.iload_n 3, 1) := by decide +kernel
theorem dX10_setGone_11 : decode cX10_setGone 11 = .ok (.iconst 0, 1) := by decide +kernel
theorem dX10_setGone_12 : decode cX10_setGone 12 = .ok (.bipush 100, 2) := by decide +kernel
theorem dX10_setGone_14 : decode cX10_setGone 14 = .ok (.invokestatic 47, 3) := by decide +kernel
theorem dX10_setGone_17 : decode cX10_setGone 17 = .ok (.ifCond .eq 18, 3) := by decide +kernel
theorem dX10_setGone_20 : decode cX10_setGone 20 = .ok (.iload 4, 2) := by decide +kernel
theorem dX10_setGone_22 : decode cX10_setGone 22 = .ok (.iconst 0, 1) := by decide +kernel
theorem dX10_setGone_23 : decode cX10_setGone 23 = .ok (.bipush 100, 2) := by decide +kernel
theorem dX10_setGone_25 : decode cX10_setGone 25 = .ok (.invokestatic 47, 3) := by decide +kernel
theorem dX10_setGone_28 : decode cX10_setGone 28 = .ok (.ifCond .eq 7, 3) := by decide +kernel
theorem dX10_setGone_31 : decode cX10_setGone 31 = .ok (.iconst 1, 1) := by decide +kernel
theorem dX10_setGone_32 : decode cX10_setGone 32 = .ok (.goto 4, 3) := by decide +kernel
theorem dX10_setGone_35 : decode cX10_setGone 35 = .ok (.iconst 0, 1) := by decide +kernel
theorem dX10_setGone_36 : decode cX10_setGone 36 = .ok (.istore 5, 2) := by decide +kernel
theorem dX10_setGone_38 : decode cX10_setGone 38 = .ok (.aload_n 0, 1) := by decide +kernel
theorem dX10_setGone_39 : decode cX10_setGone 39 = .ok (.iload_n 1, 1) := by decide +kernel
theorem dX10_setGone_40 : decode cX10_setGone 40 = .ok (.invokevirtual 55, 3) := by decide +kernel
theorem dX10_setGone_43 : decode cX10_setGone 43 = .ok (.ifCond .eq 19, 3) := by decide +kernel
theorem dX10_setGone_46 : decode cX10_setGone 46 = .ok (.iload 5, 2) := by decide +kernel
theorem dX10_setGone_48 : decode cX10_setGone 48 = .ok (.ifCond .eq 14, 3) := by decide +kernel
theorem dX10_setGone_51 : decode cX10_setGone 51 = .ok (.iload_n 2, 1) := by decide +kernel
theorem dX10_setGone_52 : decode cX10_setGone 52 = .ok (.iload_n 3, 1) := by decide +kernel
theorem dX10_setGone_53 : decode cX10_setGone 53 = .ok (.iadd, 1) := by decide +kernel
theorem dX10_setGone_54 : decode cX10_setGone 54 = .ok (.iload 4, 2) := by decide +kernel
theorem dX10_setGone_56 : decode cX10_setGone 56 = .ok (.iadd, 1) := by decide +kernel
theorem dX10_setGone_57 : decode cX10_setGone 57 = .ok (.bipush 100, 2) := by decide +kernel
theorem dX10_setGone_59 : decode cX10_setGone 59 = .ok (.if_icmp .le 5, 3) := by decide +kernel
theorem dX10_setGone_62 : decode cX10_setGone 62 = .ok (.iconst 0, 1) := by decide +kernel
theorem dX10_setGone_63 : decode cX10_setGone 63 = .ok (.ireturn, 1) := by decide +kernel
theorem dX10_setGone_64 : decode cX10_setGone 64 = .ok (.aload_n 0, 1) := by decide +kernel
theorem dX10_setGone_65 : decode cX10_setGone 65 = .ok (.getfield 21, 3) := by decide +kernel
theorem dX10_setGone_68 : decode cX10_setGone 68 = .ok (.iload_n 1, 1) := by decide +kernel
theorem dX10_setGone_69 : decode cX10_setGone 69 = .ok (.iload_n 2, 1) := by decide +kernel
theorem dX10_setGone_70 : decode cX10_setGone 70 = .ok (.iastore, 1) := by decide +kernel
theorem dX10_setGone_71 : decode cX10_setGone 71 = .ok (.aload_n 0, 1) := by decide +kernel
theorem dX10_setGone_72 : decode cX10_setGone 72 = .ok (.getfield 24, 3) := by decide +kernel
theorem dX10_setGone_75 : decode cX10_setGone 75 = .ok (.iload_n 1, 1) := by decide +kernel
theorem dX10_setGone_76 : decode cX10_setGone 76 = .ok (.iload_n 3, 1) := by decide +kernel
theorem dX10_setGone_77 : decode cX10_setGone 77 = .ok (.iastore, 1) := by decide +kernel
theorem dX10_setGone_78 : decode cX10_setGone 78 = .ok (.aload_n 0, 1) := by decide +kernel
theorem dX10_setGone_79 : decode cX10_setGone 79 = .ok (.getfield 27, 3) := by decide +kernel
theorem dX10_setGone_82 : decode cX10_setGone 82 = .ok (.iload_n 1, 1) := by decide +kernel
theorem dX10_setGone_83 : decode cX10_setGone 83 = .ok (.iload 4, 2) := by decide +kernel
theorem dX10_setGone_85 : decode cX10_setGone 85 = .ok (.iastore, 1) := by decide +kernel
theorem dX10_setGone_86 : decode cX10_setGone 86 = .ok (.iconst 1, 1) := by decide +kernel
theorem dX10_setGone_87 : decode cX10_setGone 87 = .ok (.ireturn, 1) := by decide +kernel
theorem dX10_addStreet_0 : decode cX10_addStreet 0 = .ok (.iload_n 1, 1) := by decide +kernel
theorem dX10_addStreet_1 : decode cX10_addStreet 1 = .ok (.iconst 1, 1) := by decide +kernel
theorem dX10_addStreet_2 : decode cX10_addStreet 2 = .ok (.bipush 100, 2) := by decide +kernel
theorem dX10_addStreet_4 : decode cX10_addStreet 4 = .ok (.invokestatic 47, 3) := by decide +kernel
theorem dX10_addStreet_7 : decode cX10_addStreet 7 = .ok (.ifCond .eq 12, 3) := by decide +kernel
theorem dX10_addStreet_10 : decode cX10_addStreet 10 = .ok (.aload_n 0, 1) := by decide +kernel
theorem dX10_addStreet_11 : decode cX10_addStreet 11 = .ok (.getfield 59, 3) := by decide +kernel
theorem dX10_addStreet_14 : decode cX10_addStreet 14 = .ok (.bipush 8, 2) := by decide +kernel
theorem dX10_addStreet_16 : decode cX10_addStreet 16 = .ok (.if_icmp .lt 5, 3) := by decide +kernel
theorem dX10_addStreet_19 : decode cX10_addStreet 19 = .ok (.iconst (-1), 1) := by decide +kernel
theorem dX10_addStreet_20 : decode cX10_addStreet 20 = .ok (.ireturn, 1) := by decide +kernel
theorem dX10_addStreet_21 : decode cX10_addStreet 21 = .ok (.aload_n 0, 1) := by decide +kernel
theorem dX10_addStreet_22 : decode cX10_addStreet 22 = .ok (.getfield 33, 3) := by decide +kernel
theorem dX10_addStreet_25 : decode cX10_addStreet 25 = .ok (.aload_n 0, 1) := by decide +kernel
theorem dX10_addStreet_26 : decode cX10_addStreet 26 = .ok (.getfield 59, 3) := by decide +kernel
theorem dX10_addStreet_29 : decode cX10_addStreet 29 = .ok (.iload_n 1, 1) := by decide +kernel
theorem dX10_addStreet_30 : decode cX10_addStreet 30 = .ok (.iastore, 1) := by decide +kernel
theorem dX10_addStreet_31 : decode cX10_addStreet 31 = .ok (.aload_n 0, 1) := by decide +kernel
theorem dX10_addStreet_32 : decode cX10_addStreet 32 = .ok (.getfield 36, 3) := by decide +kernel
theorem dX10_addStreet_35 : decode cX10_addStreet 35 = .ok (.aload_n 0, 1) := by decide +kernel
theorem dX10_addStreet_36 : decode cX10_addStreet 36 = .ok (.getfield 59, 3) := by decide +kernel
theorem dX10_addStreet_39 : decode cX10_addStreet 39 = .ok (.iconst (-1), 1) := by decide +kernel
theorem dX10_addStreet_40 : decode cX10_addStreet 40 = .ok (.iastore, 1) := by decide +kernel
theorem dX10_addStreet_41 : decode cX10_addStreet 41 = .ok (.aload_n 0, 1) := by decide +kernel
theorem dX10_addStreet_42 : decode cX10_addStreet 42 = .ok (.dup, 1) := by decide +kernel
theorem dX10_addStreet_43 : decode cX10_addStreet 43 = .ok (.getfield 59, 3) := by decide +kernel
theorem dX10_addStreet_46 : decode cX10_addStreet 46 = .ok (.iconst 1, 1) := by decide +kernel
theorem dX10_addStreet_47 : decode cX10_addStreet 47 = .ok (.iadd, 1) := by decide +kernel
theorem dX10_addStreet_48 : decode cX10_addStreet 48 = .ok (.putfield 59, 3) := by decide +kernel
theorem dX10_addStreet_51 : decode cX10_addStreet 51 = .ok (.aload_n 0, 1) := by decide +kernel
theorem dX10_addStreet_52 : decode cX10_addStreet 52 = .ok (.getfield 59, 3) := by decide +kernel
theorem dX10_addStreet_55 : decode cX10_addStreet 55 = .ok (.iconst 1, 1) := by decide +kernel
theorem dX10_addStreet_56 : decode cX10_addStreet 56 = .ok (.isub, 1) := by decide +kernel
theorem dX10_addStreet_57 : decode cX10_addStreet 57 = .ok (.ireturn, 1) := by decide +kernel
theorem dX10_setLack_0 : decode cX10_setLack 0 = .ok (.aload_n 0, 1) := by decide +kernel
theorem dX10_setLack_1 : decode cX10_setLack 1 = .ok (.iload_n 1, 1) := by decide +kernel
theorem dX10_setLack_2 : decode cX10_setLack 2 = .ok (.invokevirtual 55, 3) := by decide +kernel
theorem dX10_setLack_5 : decode cX10_setLack 5 = .ok (.ifCond .eq 10, 3) := by decide +kernel
theorem dX10_setLack_8 : decode cX10_setLack 8 = .ok (.iload_n 2, 1) := by decide +kernel
theorem dX10_setLack_9 : decode cX10_setLack 9 = .ok (.invokestatic 62, 3) := by decide +kernel
theorem dX10_setLack_12 : decode cX10_setLack 12 = .ok (.ifCond .ne 5, 3) := by decide +kernel
theorem dX10_setLack_15 : decode cX10_setLack 15 = .ok (.iconst 0, 1) := by decide +kernel
theorem dX10_setLack_16 : decode cX10_setLack 16 = .ok (.ireturn, 1) := by decide +kernel
theorem dX10_setLack_17 : decode cX10_setLack 17 = .ok (.iconst 1, 1) := by decide +kernel
theorem dX10_setLack_18 : decode cX10_setLack 18 = .ok (.iload_n 2, 1) := by decide +kernel
theorem dX10_setLack_19 : decode cX10_setLack 19 = .ok (.ishl, 1) := by decide +kernel
theorem dX10_setLack_20 : decode cX10_setLack 20 = .ok (.istore 4, 2) := by decide +kernel
theorem dX10_setLack_22 : decode cX10_setLack 22 = .ok (.aload_n 0, 1) := by decide +kernel
theorem dX10_setLack_23 : decode cX10_setLack 23 = .ok (.getfield 30, 3) := by decide +kernel
theorem dX10_setLack_26 : decode cX10_setLack 26 = .ok (.iload_n 1, 1) := by decide +kernel
theorem dX10_setLack_27 : decode cX10_setLack 27 = .ok (.iload_n 3, 1) := by decide +kernel
theorem dX10_setLack_28 : decode cX10_setLack 28 = .ok (.ifCond .eq 15, 3) := by decide +kernel
theorem dX10_setLack_31 : decode cX10_setLack 31 = .ok (.aload_n 0, 1) := by decide +kernel
theorem dX10_setLack_32 : decode cX10_setLack 32 = .ok (.getfield 30, 3) := by decide +kernel
theorem dX10_setLack_35 : decode cX10_setLack 35 = .ok (.iload_n 1, 1) := by decide +kernel
theorem dX10_setLack_36 : decode cX10_setLack 36 = .ok (.iaload, 1) := by decide +kernel
theorem dX10_setLack_37 : decode cX10_setLack 37 = .ok (.iload 4, 2) := by decide +kernel
theorem dX10_setLack_39 : decode cX10_setLack 39 = .ok (.ior, 1) := by decide +kernel
theorem dX10_setLack_40 : decode cX10_setLack 40 = .ok (.goto 14, 3) := by decide +kernel
theorem dX10_setLack_43 : decode cX10_setLack 43 = .ok (.aload_n 0, 1) := by decide +kernel
theorem dX10_setLack_44 : decode cX10_setLack 44 = .ok (.getfield 30, 3) := by decide +kernel
theorem dX10_setLack_47 : decode cX10_setLack 47 = .ok (.iload_n 1, 1) := by decide +kernel
theorem dX10_setLack_48 : decode cX10_setLack 48 = .ok (.iaload, 1) := by decide +kernel
theorem dX10_setLack_49 : decode cX10_setLack 49 = .ok (.iload 4, 2) := by decide +kernel
theorem dX10_setLack_51 : decode cX10_setLack 51 = .ok (.iconst (-1), 1) := by decide +kernel
theorem dX10_setLack_52 : decode cX10_setLack 52 = .ok (.ixor, 1) := by decide +kernel
theorem dX10_setLack_53 : decode cX10_setLack 53 = .ok (.iand, 1) := by decide +kernel
theorem dX10_setLack_54 : decode cX10_setLack 54 = .ok (.iastore, 1) := by decide +kernel
theorem dX10_setLack_55 : decode cX10_setLack 55 = .ok (.iconst 1, 1) := by decide +kernel
theorem dX10_setLack_56 : decode cX10_setLack 56 = .ok (.ireturn, 1) := by decide +kernel
theorem dX10_setTold_0 : decode cX10_setTold 0 = .ok (.aload_n 0, 1) := by decide +kernel
theorem dX10_setTold_1 : decode cX10_setTold 1 = .ok (.iload_n 1, 1) := by decide +kernel
theorem dX10_setTold_2 : decode cX10_setTold 2 = .ok (.invokevirtual 65, 3) := by decide +kernel
theorem dX10_setTold_5 : decode cX10_setTold 5 = .ok (.ifCond .eq 15, 3) := by decide +kernel
theorem dX10_setTold_8 : decode cX10_setTold 8 = .ok (.iload_n 2, 1) := by decide +kernel
theorem dX10_setTold_9 : decode cX10_setTold 9 = .ok (.iconst (-1), 1) := by decide +kernel
theorem dX10_setTold_10 : decode cX10_setTold 10 = .ok (.if_icmp .eq 12, 3) := by decide +kernel
theorem dX10_setTold_13 : decode cX10_setTold 13 = .ok (.iload_n 2, 1) := by decide +kernel
theorem dX10_setTold_14 : decode cX10_setTold 14 = .ok (.invokestatic 62, 3) := by decide +kernel
theorem dX10_setTold_17 : decode cX10_setTold 17 = .ok (.ifCond .ne 5, 3) := by decide +kernel
theorem dX10_setTold_20 : decode cX10_setTold 20 = .ok (.iconst 0, 1) := by decide +kernel
theorem dX10_setTold_21 : decode cX10_setTold 21 = .ok (.ireturn, 1) := by decide +kernel
theorem dX10_setTold_22 : decode cX10_setTold 22 = .ok (.aload_n 0, 1) := by decide +kernel
theorem dX10_setTold_23 : decode cX10_setTold 23 = .ok (.getfield 36, 3) := by decide +kernel
theorem dX10_setTold_26 : decode cX10_setTold 26 = .ok (.iload_n 1, 1) := by decide +kernel
theorem dX10_setTold_27 : decode cX10_setTold 27 = .ok (.iload_n 2, 1) := by decide +kernel
theorem dX10_setTold_28 : decode cX10_setTold 28 = .ok (.iastore, 1) := by decide +kernel
theorem dX10_setTold_29 : decode cX10_setTold 29 = .ok (.iconst 1, 1) := by decide +kernel
theorem dX10_setTold_30 : decode cX10_setTold 30 = .ok (.ireturn, 1) := by decide +kernel
theorem dX10_sortCount_0 : decode cX10_sortCount 0 = .ok (.aload_n 0, 1) := by decide +kernel
theorem dX10_sortCount_1 : decode cX10_sortCount 1 = .ok (.getfield 51, 3) := by decide +kernel
theorem dX10_sortCount_4 : decode cX10_sortCount 4 = .ok (.ireturn, 1) := by decide +kernel
theorem dX10_streetCount_0 : decode cX10_streetCount 0 = .ok (.aload_n 0, 1) := by decide +kernel
theorem dX10_streetCount_1 : decode cX10_streetCount 1 = .ok (.getfield 59, 3) := by decide +kernel
theorem dX10_streetCount_4 : decode cX10_streetCount 4 = .ok (.ireturn, 1) := by decide +kernel
theorem dX10_cellCount_0 : decode cX10_cellCount 0 = .ok (.bipush 12, 2) := by decide +kernel
theorem dX10_cellCount_2 : decode cX10_cellCount 2 = .ok (.aload_n 0, 1) := by decide +kernel
theorem dX10_cellCount_3 : decode cX10_cellCount 3 = .ok (.getfield 59, 3) := by decide +kernel
theorem dX10_cellCount_6 : decode cX10_cellCount 6 = .ok (.imul, 1) := by decide +kernel
theorem dX10_cellCount_7 : decode cX10_cellCount 7 = .ok (.ireturn, 1) := by decide +kernel
theorem dX10_hasSort_0 : decode cX10_hasSort 0 = .ok (.iload_n 1, 1) := by decide +kernel
theorem dX10_hasSort_1 : decode cX10_hasSort 1 = .ok (.ifCond .lt 15, 3) := by decide +kernel
theorem dX10_hasSort_4 : decode cX10_hasSort 4 = .ok (.iload_n 1, 1) := by decide +kernel
theorem dX10_hasSort_5 : decode cX10_hasSort 5 = .ok (.aload_n 0, 1) := by decide +kernel
theorem dX10_hasSort_6 : decode cX10_hasSort 6 = .ok (.getfield 51, 3) := by decide +kernel
theorem dX10_hasSort_9 : decode cX10_hasSort 9 = .ok (.if_icmp .ge 7, 3) := by decide +kernel
theorem dX10_hasSort_12 : decode cX10_hasSort 12 = .ok (.iconst 1, 1) := by decide +kernel
theorem dX10_hasSort_13 : decode cX10_hasSort 13 = .ok (.goto 4, 3) := by decide +kernel
theorem dX10_hasSort_16 : decode cX10_hasSort 16 = .ok (.iconst 0, 1) := by decide +kernel
theorem dX10_hasSort_17 : decode cX10_hasSort 17 = .ok (.ireturn, 1) := by decide +kernel
theorem dX10_hasStreet_0 : decode cX10_hasStreet 0 = .ok (.iload_n 1, 1) := by decide +kernel
theorem dX10_hasStreet_1 : decode cX10_hasStreet 1 = .ok (.ifCond .lt 15, 3) := by decide +kernel
theorem dX10_hasStreet_4 : decode cX10_hasStreet 4 = .ok (.iload_n 1, 1) := by decide +kernel
theorem dX10_hasStreet_5 : decode cX10_hasStreet 5 = .ok (.aload_n 0, 1) := by decide +kernel
theorem dX10_hasStreet_6 : decode cX10_hasStreet 6 = .ok (.getfield 59, 3) := by decide +kernel
theorem dX10_hasStreet_9 : decode cX10_hasStreet 9 = .ok (.if_icmp .ge 7, 3) := by decide +kernel
theorem dX10_hasStreet_12 : decode cX10_hasStreet 12 = .ok (.iconst 1, 1) := by decide +kernel
theorem dX10_hasStreet_13 : decode cX10_hasStreet 13 = .ok (.goto 4, 3) := by decide +kernel
theorem dX10_hasStreet_16 : decode cX10_hasStreet 16 = .ok (.iconst 0, 1) := by decide +kernel
theorem dX10_hasStreet_17 : decode cX10_hasStreet 17 = .ok (.ireturn, 1) := by decide +kernel
theorem dX10_hasCell_0 : decode cX10_hasCell 0 = .ok (.iload_n 1, 1) := by decide +kernel
theorem dX10_hasCell_1 : decode cX10_hasCell 1 = .ok (.ifCond .lt 15, 3) := by decide +kernel
theorem dX10_hasCell_4 : decode cX10_hasCell 4 = .ok (.iload_n 1, 1) := by decide +kernel
theorem dX10_hasCell_5 : decode cX10_hasCell 5 = .ok (.aload_n 0, 1) := by decide +kernel
theorem dX10_hasCell_6 : decode cX10_hasCell 6 = .ok (.invokevirtual 68, 3) := by decide +kernel
theorem dX10_hasCell_9 : decode cX10_hasCell 9 = .ok (.if_icmp .ge 7, 3) := by decide +kernel
theorem dX10_hasCell_12 : decode cX10_hasCell 12 = .ok (.iconst 1, 1) := by decide +kernel
theorem dX10_hasCell_13 : decode cX10_hasCell 13 = .ok (.goto 4, 3) := by decide +kernel
theorem dX10_hasCell_16 : decode cX10_hasCell 16 = .ok (.iconst 0, 1) := by decide +kernel
theorem dX10_hasCell_17 : decode cX10_hasCell 17 = .ok (.ireturn, 1) := by decide +kernel
theorem dX10_hasNumber_0 : decode cX10_hasNumber 0 = .ok (.iload_n 1, 1) := by decide +kernel
theorem dX10_hasNumber_1 : decode cX10_hasNumber 1 = .ok (.invokestatic 72, 3) := by decide +kernel
theorem dX10_hasNumber_4 : decode cX10_hasNumber 4 = .ok (.ifCond .eq 23, 3) := by decide +kernel
theorem dX10_hasNumber_7 : decode cX10_hasNumber 7 = .ok (.aload_n 0, 1) := by decide +kernel
theorem dX10_hasNumber_8 : decode cX10_hasNumber 8 = .ok (.iload_n 2, 1) := by decide +kernel
theorem dX10_hasNumber_9 : decode cX10_hasNumber 9 = .ok (.invokevirtual 75, 3) := by decide +kernel
theorem dX10_hasNumber_12 : decode cX10_hasNumber 12 = .ok (.ifCond .eq 15, 3) := by decide +kernel
theorem dX10_hasNumber_15 : decode cX10_hasNumber 15 = .ok (.aload_n 0, 1) := by decide +kernel
theorem dX10_hasNumber_16 : decode cX10_hasNumber 16 = .ok (.iload_n 3, 1) := by decide +kernel
theorem dX10_hasNumber_17 : decode cX10_hasNumber 17 = .ok (.invokevirtual 55, 3) := by decide +kernel
theorem dX10_hasNumber_20 : decode cX10_hasNumber 20 = .ok (.ifCond .eq 7, 3) := by decide +kernel
theorem dX10_hasNumber_23 : decode cX10_hasNumber 23 = .ok (.iconst 1, 1) := by decide +kernel
theorem dX10_hasNumber_24 : decode cX10_hasNumber 24 = .ok (.goto 4, 3) := by decide +kernel
theorem dX10_hasNumber_27 : decode cX10_hasNumber 27 = .ok (.iconst 0, 1) := by decide +kernel
theorem dX10_hasNumber_28 : decode cX10_hasNumber 28 = .ok (.ireturn, 1) := by decide +kernel
theorem dX10_leavesOf_0 : decode cX10_leavesOf 0 = .ok (.aload_n 0, 1) := by decide +kernel
theorem dX10_leavesOf_1 : decode cX10_leavesOf 1 = .ok (.iload_n 1, 1) := by decide +kernel
theorem dX10_leavesOf_2 : decode cX10_leavesOf 2 = .ok (.invokevirtual 55, 3) := by decide +kernel
theorem dX10_leavesOf_5 : decode cX10_leavesOf 5 = .ok (.ifCond .eq 12, 3) := by decide +kernel
theorem dX10_leavesOf_8 : decode cX10_leavesOf 8 = .ok (.aload_n 0, 1) := by decide +kernel
theorem dX10_leavesOf_9 : decode cX10_leavesOf 9 = .ok (.getfield 9, 3) := by decide +kernel
theorem dX10_leavesOf_12 : decode cX10_leavesOf 12 = .ok (.iload_n 1, 1) := by decide +kernel
theorem dX10_leavesOf_13 : decode cX10_leavesOf 13 = .ok (.iaload, 1) := by decide +kernel
theorem dX10_leavesOf_14 : decode cX10_leavesOf 14 = .ok (.goto 4, 3) := by decide +kernel
theorem dX10_leavesOf_17 : decode cX10_leavesOf 17 = .ok (.iconst 1, 1) := by decide +kernel
theorem dX10_leavesOf_18 : decode cX10_leavesOf 18 = .ok (.ireturn, 1) := by decide +kernel
theorem dX10_rightOf_0 : decode cX10_rightOf 0 = .ok (.aload_n 0, 1) := by decide +kernel
theorem dX10_rightOf_1 : decode cX10_rightOf 1 = .ok (.iload_n 1, 1) := by decide +kernel
theorem dX10_rightOf_2 : decode cX10_rightOf 2 = .ok (.invokevirtual 55, 3) := by decide +kernel
theorem dX10_rightOf_5 : decode cX10_rightOf 5 = .ok (.ifCond .eq 12, 3) := by decide +kernel
theorem dX10_rightOf_8 : decode cX10_rightOf 8 = .ok (.aload_n 0, 1) := by decide +kernel
theorem dX10_rightOf_9 : decode cX10_rightOf 9 = .ok (.getfield 15, 3) := by decide +kernel
theorem dX10_rightOf_12 : decode cX10_rightOf 12 = .ok (.iload_n 1, 1) := by decide +kernel
theorem dX10_rightOf_13 : decode cX10_rightOf 13 = .ok (.iaload, 1) := by decide +kernel
theorem dX10_rightOf_14 : decode cX10_rightOf 14 = .ok (.goto 4, 3) := by decide +kernel
theorem dX10_rightOf_17 : decode cX10_rightOf 17 = .ok (.iconst 0, 1) := by decide +kernel
theorem dX10_rightOf_18 : decode cX10_rightOf 18 = .ok (.ireturn, 1) := by decide +kernel
theorem dX10_lastsOf_0 : decode cX10_lastsOf 0 = .ok (.aload_n 0, 1) := by decide +kernel
theorem dX10_lastsOf_1 : decode cX10_lastsOf 1 = .ok (.iload_n 1, 1) := by decide +kernel
theorem dX10_lastsOf_2 : decode cX10_lastsOf 2 = .ok (.invokevirtual 55, 3) := by decide +kernel
theorem dX10_lastsOf_5 : decode cX10_lastsOf 5 = .ok (.ifCond .eq 12, 3) := by decide +kernel
theorem dX10_lastsOf_8 : decode cX10_lastsOf 8 = .ok (.aload_n 0, 1) := by decide +kernel
theorem dX10_lastsOf_9 : decode cX10_lastsOf 9 = .ok (.getfield 18, 3) := by decide +kernel
theorem dX10_lastsOf_12 : decode cX10_lastsOf 12 = .ok (.iload_n 1, 1) := by decide +kernel
theorem dX10_lastsOf_13 : decode cX10_lastsOf 13 = .ok (.iaload, 1) := by decide +kernel
theorem dX10_lastsOf_14 : decode cX10_lastsOf 14 = .ok (.goto 4, 3) := by decide +kernel
theorem dX10_lastsOf_17 : decode cX10_lastsOf 17 = .ok (.iconst 1, 1) := by decide +kernel
theorem dX10_lastsOf_18 : decode cX10_lastsOf 18 = .ok (.ireturn, 1) := by decide +kernel
theorem dX10_staysOf_0 : decode cX10_staysOf 0 = .ok (.aload_n 0, 1) := by decide +kernel
theorem dX10_staysOf_1 : decode cX10_staysOf 1 = .ok (.iload_n 1, 1) := by decide +kernel
theorem dX10_staysOf_2 : decode cX10_staysOf 2 = .ok (.invokevirtual 55, 3) := by decide +kernel
theorem dX10_staysOf_5 : decode cX10_staysOf 5 = .ok (.ifCond .eq 29, 3) := by decide +kernel
theorem dX10_staysOf_8 : decode cX10_staysOf 8 = .ok (.bipush 100, 2) := by decide +kernel
theorem dX10_staysOf_10 : decode cX10_staysOf 10 = .ok (.aload_n 0, 1) := by decide +kernel
theorem dX10_staysOf_11 : decode cX10_staysOf 11 = .ok (.getfield 21, 3) := by decide +kernel
theorem dX10_staysOf_14 : decode cX10_staysOf 14 = .ok (.iload_n 1, 1) := by decide +kernel
theorem dX10_staysOf_15 : decode cX10_staysOf 15 = .ok (.iaload, 1) := by decide +kernel
theorem dX10_staysOf_16 : decode cX10_staysOf 16 = .ok (.isub, 1) := by decide +kernel
theorem dX10_staysOf_17 : decode cX10_staysOf 17 = .ok (.aload_n 0, 1) := by decide +kernel
theorem dX10_staysOf_18 : decode cX10_staysOf 18 = .ok (.getfield 24, 3) := by decide +kernel
theorem dX10_staysOf_21 : decode cX10_staysOf 21 = .ok (.iload_n 1, 1) := by decide +kernel
theorem dX10_staysOf_22 : decode cX10_staysOf 22 = .ok (.iaload, 1) := by decide +kernel
theorem dX10_staysOf_23 : decode cX10_staysOf 23 = .ok (.isub, 1) := by decide +kernel
theorem dX10_staysOf_24 : decode cX10_staysOf 24 = .ok (.aload_n 0, 1) := by decide +kernel
theorem dX10_staysOf_25 : decode cX10_staysOf 25 = .ok (.getfield 27, 3) := by decide +kernel
theorem dX10_staysOf_28 : decode cX10_staysOf 28 = .ok (.iload_n 1, 1) := by decide +kernel
theorem dX10_staysOf_29 : decode cX10_staysOf 29 = .ok (.iaload, 1) := by decide +kernel
theorem dX10_staysOf_30 : decode cX10_staysOf 30 = .ok (.isub, 1) := by decide +kernel
theorem dX10_staysOf_31 : decode cX10_staysOf 31 = .ok (.goto 5, 3) := by decide +kernel
theorem dX10_staysOf_34 : decode cX10_staysOf 34 = .ok (.bipush 100, 2) := by decide +kernel
theorem dX10_staysOf_36 : decode cX10_staysOf 36 = .ok (.ireturn, 1) := by decide +kernel
theorem dX10_isLack_0 : decode cX10_isLack 0 = .ok (.aload_n 0, 1) := by decide +kernel
theorem dX10_isLack_1 : decode cX10_isLack 1 = .ok (.iload_n 1, 1) := by decide +kernel
theorem dX10_isLack_2 : decode cX10_isLack 2 = .ok (.invokevirtual 55, 3) := by decide +kernel
theorem dX10_isLack_5 : decode cX10_isLack 5 = .ok (.ifCond .eq 27, 3) := by decide +kernel
theorem dX10_isLack_8 : decode cX10_isLack 8 = .ok (.iload_n 2, 1) := by decide +kernel
theorem dX10_isLack_9 : decode cX10_isLack 9 = .ok (.invokestatic 62, 3) := by decide +kernel
theorem dX10_isLack_12 : decode cX10_isLack 12 = .ok (.ifCond .eq 20, 3) := by decide +kernel
theorem dX10_isLack_15 : decode cX10_isLack 15 = .ok (.aload_n 0, 1) := by decide +kernel
theorem dX10_isLack_16 : decode cX10_isLack 16 = .ok (.getfield 30, 3) := by decide +kernel
theorem dX10_isLack_19 : decode cX10_isLack 19 = .ok (.iload_n 1, 1) := by decide +kernel
theorem dX10_isLack_20 : decode cX10_isLack 20 = .ok (.iaload, 1) := by decide +kernel
theorem dX10_isLack_21 : decode cX10_isLack 21 = .ok (.iload_n 2, 1) := by decide +kernel
theorem dX10_isLack_22 : decode cX10_isLack 22 = .ok (.invokestatic 78, 3) := by decide +kernel
theorem dX10_isLack_25 : decode cX10_isLack 25 = .ok (.ifCond .eq 7, 3) := by decide +kernel
theorem dX10_isLack_28 : decode cX10_isLack 28 = .ok (.iconst 1, 1) := by decide +kernel
theorem dX10_isLack_29 : decode cX10_isLack 29 = .ok (.goto 4, 3) := by decide +kernel
theorem dX10_isLack_32 : decode cX10_isLack 32 = .ok (.iconst 0, 1) := by decide +kernel
theorem dX10_isLack_33 : decode cX10_isLack 33 = .ok (.ireturn, 1) := by decide +kernel
theorem dX10_toldFromOf_0 : decode cX10_toldFromOf 0 = .ok (.aload_n 0, 1) := by decide +kernel
theorem dX10_toldFromOf_1 : decode cX10_toldFromOf 1 = .ok (.iload_n 1, 1) := by decide +kernel
theorem dX10_toldFromOf_2 : decode cX10_toldFromOf 2 = .ok (.invokevirtual 65, 3) := by decide +kernel
theorem dX10_toldFromOf_5 : decode cX10_toldFromOf 5 = .ok (.ifCond .eq 12, 3) := by decide +kernel
theorem dX10_toldFromOf_8 : decode cX10_toldFromOf 8 = .ok (.aload_n 0, 1) := by decide +kernel
theorem dX10_toldFromOf_9 : decode cX10_toldFromOf 9 = .ok (.getfield 36, 3) := by decide +kernel
theorem dX10_toldFromOf_12 : decode cX10_toldFromOf 12 = .ok (.iload_n 1, 1) := by decide +kernel
theorem dX10_toldFromOf_13 : decode cX10_toldFromOf 13 = .ok (.iaload, 1) := by decide +kernel
theorem dX10_toldFromOf_14 : decode cX10_toldFromOf 14 = .ok (.goto 4, 3) := by decide +kernel
theorem dX10_toldFromOf_17 : decode cX10_toldFromOf 17 = .ok (.iconst (-1), 1) := by decide +kernel
theorem dX10_toldFromOf_18 : decode cX10_toldFromOf 18 = .ok (.ireturn, 1) := by decide +kernel
theorem dX10_readSheet_0 : decode cX10_readSheet 0 = .ok (.aload_n 0, 1) := by decide +kernel
theorem dX10_readSheet_1 : decode cX10_readSheet 1 = .ok (.iload_n 1, 1) := by decide +kernel
theorem dX10_readSheet_2 : decode cX10_readSheet 2 = .ok (.invokevirtual 55, 3) := by decide +kernel
theorem dX10_readSheet_5 : decode cX10_readSheet 5 = .ok (.ifCond .eq 18, 3) := by decide +kernel
theorem dX10_readSheet_8 : decode cX10_readSheet 8 = .ok (.iload_n 2, 1) := by decide +kernel
theorem dX10_readSheet_9 : decode cX10_readSheet 9 = .ok (.iconst 0, 1) := by decide +kernel
theorem dX10_readSheet_10 : decode cX10_readSheet 10 = .ok (.iconst 3, 1) := by decide +kernel
theorem dX10_readSheet_11 : decode cX10_readSheet 11 = .ok (.invokestatic 47, 3) := by decide +kernel
theorem dX10_readSheet_14 : decode cX10_readSheet 14 = .ok (.ifCond .eq 9, 3) := by decide +kernel
theorem dX10_readSheet_17 : decode cX10_readSheet 17 = .ok (.iload_n 3, 1) := by decide +kernel
theorem dX10_readSheet_18 : decode cX10_readSheet 18 = .ok (.bipush 96, 2) := by decide +kernel
theorem dX10_readSheet_20 : decode cX10_readSheet 20 = .ok (.if_icmp .le 5, 3) := by decide +kernel
theorem dX10_readSheet_23 : decode cX10_readSheet 23 = .ok (.iconst (-1), 1) := by decide +kernel
theorem dX10_readSheet_24 : decode cX10_readSheet 24 = .ok (.ireturn, 1) := by decide +kernel
theorem dX10_readSheet_25 : decode cX10_readSheet 25 = .ok (.iload_n 2, 1) := by decide +kernel
theorem dX10_readSheet_26 : decode cX10_readSheet 26 = .ok (.iconst 3, 1) := by decide +kernel
theorem dX10_readSheet_27 : decode cX10_readSheet 27 = .ok (.if_icmp .eq 10, 3) := by decide +kernel
theorem dX10_readSheet_30 : decode cX10_readSheet 30 = .ok (.iload_n 3, 1) := by decide +kernel
theorem dX10_readSheet_31 : decode cX10_readSheet 31 = .ok (.ifCond .ge 6, 3) := by decide +kernel
theorem dX10_readSheet_34 : decode cX10_readSheet 34 = .ok (.bipush (-2), 2) := by decide +kernel
theorem dX10_readSheet_36 : decode cX10_readSheet 36 = .ok (.ireturn, 1) := by decide +kernel
theorem dX10_readSheet_37 : decode cX10_readSheet 37 = .ok (.iload_n 2, 1) := by decide +kernel
theorem dX10_readSheet_38 : decode cX10_readSheet 38 = .ok (.iconst 3, 1) := by decide +kernel
theorem dX10_readSheet_39 : decode cX10_readSheet 39 = .ok (.if_icmp .eq 11, 3) := by decide +kernel
theorem dX10_readSheet_42 : decode cX10_readSheet 42 = .ok (.iload_n 3, 1) := by decide +kernel
theorem dX10_readSheet_43 : decode cX10_readSheet 43 = .ok (.aload_n 0, 1) := by decide +kernel
theorem dX10_readSheet_44 : decode cX10_readSheet 44 = .ok (.invokevirtual 68, 3) := by decide +kernel
theorem dX10_readSheet_47 : decode cX10_readSheet 47 = .ok (.if_icmp .le 10, 3) := by decide +kernel
theorem dX10_readSheet_50 : decode cX10_readSheet 50 = .ok (.aload_n 0, 1) := by decide +kernel
theorem dX10_readSheet_51 : decode cX10_readSheet 51 = .ok (.invokevirtual 68, 3) := by decide +kernel
theorem dX10_readSheet_54 : decode cX10_readSheet 54 = .ok (.goto 4, 3) := by decide +kernel
theorem dX10_readSheet_57 : decode cX10_readSheet 57 = .ok (.iload_n 3, 1) := by decide +kernel
theorem dX10_readSheet_58 : decode cX10_readSheet 58 = .ok (.istore 6, 2) := by decide +kernel
theorem dX10_readSheet_60 : decode cX10_readSheet 60 = .ok (.iconst 0, 1) := by decide +kernel
theorem dX10_readSheet_61 : decode cX10_readSheet 61 = .ok (.istore 7, 2) := by decide +kernel
theorem dX10_readSheet_63 : decode cX10_readSheet 63 = .ok (.iload 7, 2) := by decide +kernel
theorem dX10_readSheet_65 : decode cX10_readSheet 65 = .ok (.iload 6, 2) := by decide +kernel
theorem dX10_readSheet_67 : decode cX10_readSheet 67 = .ok (.if_icmp .ge 52, 3) := by decide +kernel
theorem dX10_readSheet_70 : decode cX10_readSheet 70 = .ok (.iload_n 2, 1) := by decide +kernel
theorem dX10_readSheet_71 : decode cX10_readSheet 71 = .ok (.iconst 3, 1) := by decide +kernel
theorem dX10_readSheet_72 : decode cX10_readSheet 72 = .ok (.if_icmp .ne 7, 3) := by decide +kernel
theorem dX10_readSheet_75 : decode cX10_readSheet 75 = .ok (.iconst (-1), 1) := by decide +kernel
theorem dX10_readSheet_76 : decode cX10_readSheet 76 = .ok (.goto 15, 3) := by decide +kernel
theorem dX10_readSheet_79 : decode cX10_readSheet 79 = .ok (.iload_n 2, 1) := by decide +kernel
theorem dX10_readSheet_80 : decode cX10_readSheet 80 = .ok (.iload 4, 2) := by decide +kernel
theorem dX10_readSheet_82 : decode cX10_readSheet 82 = .ok (.iload 7, 2) := by decide +kernel
theorem dX10_readSheet_84 : decode cX10_readSheet 84 = .ok (.iload 5, 2) := by decide +kernel
theorem dX10_readSheet_86 : decode cX10_readSheet 86 = .ok (.imul, 1) := by decide +kernel
theorem dX10_readSheet_87 : decode cX10_readSheet 87 = .ok (.iadd, 1) := by decide +kernel
theorem dX10_readSheet_88 : decode cX10_readSheet 88 = .ok (.invokestatic 82, 3) := by decide +kernel
theorem dX10_readSheet_91 : decode cX10_readSheet 91 = .ok (.istore 8, 2) := by decide +kernel
theorem dX10_readSheet_93 : decode cX10_readSheet 93 = .ok (.aload_n 0, 1) := by decide +kernel
theorem dX10_readSheet_94 : decode cX10_readSheet 94 = .ok (.getfield 39, 3) := by decide +kernel
theorem dX10_readSheet_97 : decode cX10_readSheet 97 = .ok (.iconst 0, 1) := by decide +kernel
theorem dX10_readSheet_98 : decode cX10_readSheet 98 = .ok (.iload 7, 2) := by decide +kernel
theorem dX10_readSheet_100 : decode cX10_readSheet 100 = .ok (.iload_n 1, 1) := by decide +kernel
theorem dX10_readSheet_101 : decode cX10_readSheet 101 = .ok (.iload 8, 2) := by decide +kernel
theorem dX10_readSheet_103 : decode cX10_readSheet 103 = .ok (.iconst (-1), 1) := by decide +kernel
theorem dX10_readSheet_104 : decode cX10_readSheet 104 = .ok (.sipush 999, 3) := by decide +kernel
theorem dX10_readSheet_107 : decode cX10_readSheet 107 = .ok (.invokestatic 86, 3) := by decide +kernel
theorem dX10_readSheet_110 : decode cX10_readSheet 110 = .ok (.invokevirtual 90, 3) := by decide +kernel
theorem dX10_readSheet_113 : decode cX10_readSheet 113 = .ok (.iinc 7 1, 3) := by decide +kernel
theorem dX10_readSheet_116 : decode cX10_readSheet 116 = .ok (.goto (-53), 3) := by decide +kernel
theorem dX10_readSheet_119 : decode cX10_readSheet 119 = .ok (.iload 6, 2) := by decide +kernel
theorem dX10_readSheet_121 : decode cX10_readSheet 121 = .ok (.ireturn, 1) := by decide +kernel
theorem dX10_entryOf_0 : decode cX10_entryOf 0 = .ok (.iload_n 0, 1) := by decide +kernel
theorem dX10_entryOf_1 : decode cX10_entryOf 1 = .ok (.ifCond .ne 8, 3) := by decide +kernel
theorem dX10_entryOf_4 : decode cX10_entryOf 4 = .ok (.iload_n 1, 1) := by decide +kernel
theorem dX10_entryOf_5 : decode cX10_entryOf 5 = .ok (.i2b, 1) := by decide +kernel
theorem dX10_entryOf_6 : decode cX10_entryOf 6 = .ok (.goto 14, 3) := by decide +kernel
theorem dX10_entryOf_9 : decode cX10_entryOf 9 = .ok (.iload_n 0, 1) := by decide +kernel
theorem dX10_entryOf_10 : decode cX10_entryOf 10 = .ok (.iconst 1, 1) := by decide +kernel
theorem dX10_entryOf_11 : decode cX10_entryOf 11 = .ok (.if_icmp .ne 8, 3) := by decide +kernel
theorem dX10_entryOf_14 : decode cX10_entryOf 14 = .ok (.iload_n 1, 1) := by decide +kernel
theorem dX10_entryOf_15 : decode cX10_entryOf 15 = .ok (.i2s, 1) := by decide +kernel
theorem dX10_entryOf_16 : decode cX10_entryOf 16 = .ok (.goto 4, 3) := by decide +kernel
theorem dX10_entryOf_19 : decode cX10_entryOf 19 = .ok (.iload_n 1, 1) := by decide +kernel
theorem dX10_entryOf_20 : decode cX10_entryOf 20 = .ok (.ireturn, 1) := by decide +kernel
theorem dX10_liveWeek_0 : decode cX10_liveWeek 0 = .ok (.aload_n 0, 1) := by decide +kernel
theorem dX10_liveWeek_1 : decode cX10_liveWeek 1 = .ok (.iload_n 1, 1) := by decide +kernel
theorem dX10_liveWeek_2 : decode cX10_liveWeek 2 = .ok (.invokevirtual 65, 3) := by decide +kernel
theorem dX10_liveWeek_5 : decode cX10_liveWeek 5 = .ok (.ifCond .eq 10, 3) := by decide +kernel
theorem dX10_liveWeek_8 : decode cX10_liveWeek 8 = .ok (.iload_n 2, 1) := by decide +kernel
theorem dX10_liveWeek_9 : decode cX10_liveWeek 9 = .ok (.invokestatic 62, 3) := by decide +kernel
theorem dX10_liveWeek_12 : decode cX10_liveWeek 12 = .ok (.ifCond .ne 5, 3) := by decide +kernel
theorem dX10_liveWeek_15 : decode cX10_liveWeek 15 = .ok (.iconst (-1), 1) := by decide +kernel
theorem dX10_liveWeek_16 : decode cX10_liveWeek 16 = .ok (.ireturn, 1) := by decide +kernel
theorem dX10_liveWeek_17 : decode cX10_liveWeek 17 = .ok (.aload_n 0, 1) := by decide +kernel
theorem dX10_liveWeek_18 : decode cX10_liveWeek 18 = .ok (.getfield 43, 3) := by decide +kernel
theorem dX10_liveWeek_21 : decode cX10_liveWeek 21 = .ok (.bipush 104, 2) := by decide +kernel
theorem dX10_liveWeek_23 : decode cX10_liveWeek 23 = .ok (.aload_n 0, 1) := by decide +kernel
theorem dX10_liveWeek_24 : decode cX10_liveWeek 24 = .ok (.getfield 33, 3) := by decide +kernel
theorem dX10_liveWeek_27 : decode cX10_liveWeek 27 = .ok (.iload_n 1, 1) := by decide +kernel
theorem dX10_liveWeek_28 : decode cX10_liveWeek 28 = .ok (.iaload, 1) := by decide +kernel
theorem dX10_liveWeek_29 : decode cX10_liveWeek 29 = .ok (.invokevirtual 96, 3) := by decide +kernel
theorem dX10_liveWeek_32 : decode cX10_liveWeek 32 = .ok (.aload_n 0, 1) := by decide +kernel
theorem dX10_liveWeek_33 : decode cX10_liveWeek 33 = .ok (.getfield 43, 3) := by decide +kernel
theorem dX10_liveWeek_36 : decode cX10_liveWeek 36 = .ok (.bipush 116, 2) := by decide +kernel
theorem dX10_liveWeek_38 : decode cX10_liveWeek 38 = .ok (.iload_n 1, 1) := by decide +kernel
theorem dX10_liveWeek_39 : decode cX10_liveWeek 39 = .ok (.invokevirtual 96, 3) := by decide +kernel
theorem dX10_liveWeek_42 : decode cX10_liveWeek 42 = .ok (.aload_n 0, 1) := by decide +kernel
theorem dX10_liveWeek_43 : decode cX10_liveWeek 43 = .ok (.getfield 43, 3) := by decide +kernel
theorem dX10_liveWeek_46 : decode cX10_liveWeek 46 = .ok (.bipush 119, 2) := by decide +kernel
theorem dX10_liveWeek_48 : decode cX10_liveWeek 48 = .ok (.iload_n 2, 1) := by decide +kernel
theorem dX10_liveWeek_49 : decode cX10_liveWeek 49 = .ok (.invokevirtual 96, 3) := by decide +kernel
theorem dX10_liveWeek_52 : decode cX10_liveWeek 52 = .ok (.iconst 0, 1) := by decide +kernel
theorem dX10_liveWeek_53 : decode cX10_liveWeek 53 = .ok (.istore_n 3, 1) := by decide +kernel
theorem dX10_liveWeek_54 : decode cX10_liveWeek 54 = .ok (.iconst 0, 1) := by decide +kernel
theorem dX10_liveWeek_55 : decode cX10_liveWeek 55 = .ok (.istore 4, 2) := by decide +kernel
theorem dX10_liveWeek_57 : decode cX10_liveWeek 57 = .ok (.iload 4, 2) := by decide +kernel
theorem dX10_liveWeek_59 : decode cX10_liveWeek 59 = .ok (.aload_n 0, 1) := by decide +kernel
theorem dX10_liveWeek_60 : decode cX10_liveWeek 60 = .ok (.getfield 51, 3) := by decide +kernel
theorem dX10_liveWeek_63 : decode cX10_liveWeek 63 = .ok (.if_icmp .ge 20, 3) := by decide +kernel
theorem dX10_liveWeek_66 : decode cX10_liveWeek 66 = .ok (.iload_n 3, 1) := by decide +kernel
theorem dX10_liveWeek_67 : decode cX10_liveWeek 67 = .ok (.aload_n 0, 1) := by decide +kernel
theorem dX10_liveWeek_68 : decode cX10_liveWeek 68 = .ok (.iload_n 1, 1) := by decide +kernel
theorem dX10_liveWeek_69 : decode cX10_liveWeek 69 = .ok (.iload_n 2, 1) := by decide +kernel
theorem dX10_liveWeek_70 : decode cX10_liveWeek 70 = .ok (.iload 4, 2) := by decide +kernel
theorem dX10_liveWeek_72 : decode cX10_liveWeek 72 = .ok (.invokevirtual 102, 3) := by decide +kernel
theorem dX10_liveWeek_75 : decode cX10_liveWeek 75 = .ok (.iadd, 1) := by decide +kernel
theorem dX10_liveWeek_76 : decode cX10_liveWeek 76 = .ok (.istore_n 3, 1) := by decide +kernel
theorem dX10_liveWeek_77 : decode cX10_liveWeek 77 = .ok (.iinc 4 1, 3) := by decide +kernel
theorem dX10_liveWeek_80 : decode cX10_liveWeek 80 = .ok (.goto (-23), 3) := by decide +kernel
theorem dX10_liveWeek_83 : decode cX10_liveWeek 83 = .ok (.iload_n 3, 1) := by decide +kernel
theorem dX10_liveWeek_84 : decode cX10_liveWeek 84 = .ok (.ireturn, 1) := by decide +kernel
theorem dX10_liveSort_0 : decode cX10_liveSort 0 = .ok (.aload_n 0, 1) := by decide +kernel
theorem dX10_liveSort_1 : decode cX10_liveSort 1 = .ok (.getfield 43, 3) := by decide +kernel
theorem dX10_liveSort_4 : decode cX10_liveSort 4 = .ok (.bipush 107, 2) := by decide +kernel
theorem dX10_liveSort_6 : decode cX10_liveSort 6 = .ok (.iload_n 3, 1) := by decide +kernel
theorem dX10_liveSort_7 : decode cX10_liveSort 7 = .ok (.invokevirtual 96, 3) := by decide +kernel
theorem dX10_liveSort_10 : decode cX10_liveSort 10 = .ok (.aload_n 0, 1) := by decide +kernel
theorem dX10_liveSort_11 : decode cX10_liveSort 11 = .ok (.getfield 43, 3) := by decide +kernel
theorem dX10_liveSort_14 : decode cX10_liveSort 14 = .ok (.bipush 114, 2) := by decide +kernel
theorem dX10_liveSort_16 : decode cX10_liveSort 16 = .ok (.aload_n 0, 1) := by decide +kernel
theorem dX10_liveSort_17 : decode cX10_liveSort 17 = .ok (.iload_n 3, 1) := by decide +kernel
theorem dX10_liveSort_18 : decode cX10_liveSort 18 = .ok (.invokevirtual 105, 3) := by decide +kernel
theorem dX10_liveSort_21 : decode cX10_liveSort 21 = .ok (.invokevirtual 96, 3) := by decide +kernel
theorem dX10_liveSort_24 : decode cX10_liveSort 24 = .ok (.aload_n 0, 1) := by decide +kernel
theorem dX10_liveSort_25 : decode cX10_liveSort 25 = .ok (.getfield 43, 3) := by decide +kernel
theorem dX10_liveSort_28 : decode cX10_liveSort 28 = .ok (.bipush 108, 2) := by decide +kernel
theorem dX10_liveSort_30 : decode cX10_liveSort 30 = .ok (.aload_n 0, 1) := by decide +kernel
theorem dX10_liveSort_31 : decode cX10_liveSort 31 = .ok (.iload_n 3, 1) := by decide +kernel
theorem dX10_liveSort_32 : decode cX10_liveSort 32 = .ok (.invokevirtual 109, 3) := by decide +kernel
theorem dX10_liveSort_35 : decode cX10_liveSort 35 = .ok (.invokevirtual 96, 3) := by decide +kernel
theorem dX10_liveSort_38 : decode cX10_liveSort 38 = .ok (.aload_n 0, 1) := by decide +kernel
theorem dX10_liveSort_39 : decode cX10_liveSort 39 = .ok (.getfield 43, 3) := by decide +kernel
theorem dX10_liveSort_42 : decode cX10_liveSort 42 = .ok (.bipush 113, 2) := by decide +kernel
theorem dX10_liveSort_44 : decode cX10_liveSort 44 = .ok (.aload_n 0, 1) := by decide +kernel
theorem dX10_liveSort_45 : decode cX10_liveSort 45 = .ok (.iload_n 3, 1) := by decide +kernel
theorem dX10_liveSort_46 : decode cX10_liveSort 46 = .ok (.iload_n 2, 1) := by decide +kernel
theorem dX10_liveSort_47 : decode cX10_liveSort 47 = .ok (.invokevirtual 112, 3) := by decide +kernel
theorem dX10_liveSort_50 : decode cX10_liveSort 50 = .ok (.ifCond .eq 7, 3) := by decide +kernel
theorem dX10_liveSort_53 : decode cX10_liveSort 53 = .ok (.iconst 1, 1) := by decide +kernel
theorem dX10_liveSort_54 : decode cX10_liveSort 54 = .ok (.goto 4, 3) := by decide +kernel
theorem dX10_liveSort_57 : decode cX10_liveSort 57 = .ok (.iconst 0, 1) := by decide +kernel
theorem dX10_liveSort_58 : decode cX10_liveSort 58 = .ok (.invokevirtual 96, 3) := by decide +kernel
theorem dX10_liveSort_61 : decode cX10_liveSort 61 = .ok (.aload_n 0, 1) := by decide +kernel
theorem dX10_liveSort_62 : decode cX10_liveSort 62 = .ok (.getfield 43, 3) := by decide +kernel
theorem dX10_liveSort_65 : decode cX10_liveSort 65 = .ok (.iconst 0, 1) := by decide +kernel
theorem dX10_liveSort_66 : decode cX10_liveSort 66 = .ok (.iconst 0, 1) := by decide +kernel
theorem dX10_liveSort_67 : decode cX10_liveSort 67 = .ok (.invokevirtual 115, 3) := by decide +kernel
theorem dX10_liveSort_70 : decode cX10_liveSort 70 = .ok (.iconst 0, 1) := by decide +kernel
theorem dX10_liveSort_71 : decode cX10_liveSort 71 = .ok (.sipush 999, 3) := by decide +kernel
theorem dX10_liveSort_74 : decode cX10_liveSort 74 = .ok (.invokestatic 86, 3) := by decide +kernel
theorem dX10_liveSort_77 : decode cX10_liveSort 77 = .ok (.istore 4, 2) := by decide +kernel
theorem dX10_liveSort_79 : decode cX10_liveSort 79 = .ok (.aload_n 0, 1) := by decide +kernel
theorem dX10_liveSort_80 : decode cX10_liveSort 80 = .ok (.getfield 43, 3) := by decide +kernel
theorem dX10_liveSort_83 : decode cX10_liveSort 83 = .ok (.bipush 98, 2) := by decide +kernel
theorem dX10_liveSort_85 : decode cX10_liveSort 85 = .ok (.iload 4, 2) := by decide +kernel
theorem dX10_liveSort_87 : decode cX10_liveSort 87 = .ok (.invokevirtual 96, 3) := by decide +kernel
theorem dX10_liveSort_90 : decode cX10_liveSort 90 = .ok (.aload_n 0, 1) := by decide +kernel
theorem dX10_liveSort_91 : decode cX10_liveSort 91 = .ok (.getfield 43, 3) := by decide +kernel
theorem dX10_liveSort_94 : decode cX10_liveSort 94 = .ok (.iconst 1, 1) := by decide +kernel
theorem dX10_liveSort_95 : decode cX10_liveSort 95 = .ok (.iload 4, 2) := by decide +kernel
theorem dX10_liveSort_97 : decode cX10_liveSort 97 = .ok (.invokevirtual 115, 3) := by decide +kernel
theorem dX10_liveSort_100 : decode cX10_liveSort 100 = .ok (.iconst 0, 1) := by decide +kernel
theorem dX10_liveSort_101 : decode cX10_liveSort 101 = .ok (.iload 4, 2) := by decide +kernel
theorem dX10_liveSort_103 : decode cX10_liveSort 103 = .ok (.invokestatic 86, 3) := by decide +kernel
theorem dX10_liveSort_106 : decode cX10_liveSort 106 = .ok (.istore 5, 2) := by decide +kernel
theorem dX10_liveSort_108 : decode cX10_liveSort 108 = .ok (.aload_n 0, 1) := by decide +kernel
theorem dX10_liveSort_109 : decode cX10_liveSort 109 = .ok (.getfield 43, 3) := by decide +kernel
theorem dX10_liveSort_112 : decode cX10_liveSort 112 = .ok (.bipush 101, 2) := by decide +kernel
theorem dX10_liveSort_114 : decode cX10_liveSort 114 = .ok (.iload 5, 2) := by decide +kernel
theorem dX10_liveSort_116 : decode cX10_liveSort 116 = .ok (.invokevirtual 96, 3) := by decide +kernel
theorem dX10_liveSort_119 : decode cX10_liveSort 119 = .ok (.iload 5, 2) := by decide +kernel
theorem dX10_liveSort_121 : decode cX10_liveSort 121 = .ok (.aload_n 0, 1) := by decide +kernel
theorem dX10_liveSort_122 : decode cX10_liveSort 122 = .ok (.iload_n 3, 1) := by decide +kernel
theorem dX10_liveSort_123 : decode cX10_liveSort 123 = .ok (.invokevirtual 109, 3) := by decide +kernel
theorem dX10_liveSort_126 : decode cX10_liveSort 126 = .ok (.imul, 1) := by decide +kernel
theorem dX10_liveSort_127 : decode cX10_liveSort 127 = .ok (.bipush 100, 2) := by decide +kernel
theorem dX10_liveSort_129 : decode cX10_liveSort 129 = .ok (.idiv, 1) := by decide +kernel
theorem dX10_liveSort_130 : decode cX10_liveSort 130 = .ok (.iload 4, 2) := by decide +kernel
theorem dX10_liveSort_132 : decode cX10_liveSort 132 = .ok (.iadd, 1) := by decide +kernel
theorem dX10_liveSort_133 : decode cX10_liveSort 133 = .ok (.iload 5, 2) := by decide +kernel
theorem dX10_liveSort_135 : decode cX10_liveSort 135 = .ok (.isub, 1) := by decide +kernel
theorem dX10_liveSort_136 : decode cX10_liveSort 136 = .ok (.istore 6, 2) := by decide +kernel
theorem dX10_liveSort_138 : decode cX10_liveSort 138 = .ok (.bipush 12, 2) := by decide +kernel
theorem dX10_liveSort_140 : decode cX10_liveSort 140 = .ok (.iload_n 1, 1) := by decide +kernel
theorem dX10_liveSort_141 : decode cX10_liveSort 141 = .ok (.imul, 1) := by decide +kernel
theorem dX10_liveSort_142 : decode cX10_liveSort 142 = .ok (.iload_n 2, 1) := by decide +kernel
theorem dX10_liveSort_143 : decode cX10_liveSort 143 = .ok (.iadd, 1) := by decide +kernel
theorem dX10_liveSort_144 : decode cX10_liveSort 144 = .ok (.istore 7, 2) := by decide +kernel
theorem dX10_liveSort_146 : decode cX10_liveSort 146 = .ok (.aload_n 0, 1) := by decide +kernel
theorem dX10_liveSort_147 : decode cX10_liveSort 147 = .ok (.getfield 39, 3) := by decide +kernel
theorem dX10_liveSort_150 : decode cX10_liveSort 150 = .ok (.iconst 1, 1) := by decide +kernel
theorem dX10_liveSort_151 : decode cX10_liveSort 151 = .ok (.iload 7, 2) := by decide +kernel
theorem dX10_liveSort_153 : decode cX10_liveSort 153 = .ok (.iload_n 3, 1) := by decide +kernel
theorem dX10_liveSort_154 : decode cX10_liveSort 154 = .ok (.iload 4, 2) := by decide +kernel
theorem dX10_liveSort_156 : decode cX10_liveSort 156 = .ok (.invokevirtual 90, 3) := by decide +kernel
theorem dX10_liveSort_159 : decode cX10_liveSort 159 = .ok (.iconst 0, 1) := by decide +kernel
theorem dX10_liveSort_160 : decode cX10_liveSort 160 = .ok (.istore 8, 2) := by decide +kernel
theorem dX10_liveSort_162 : decode cX10_liveSort 162 = .ok (.iload 8, 2) := by decide +kernel
theorem dX10_liveSort_164 : decode cX10_liveSort 164 = .ok (.iconst 4, 1) := by decide +kernel
theorem dX10_liveSort_165 : decode cX10_liveSort 165 = .ok (.if_icmp .ge 47, 3) := by decide +kernel
theorem dX10_liveSort_168 : decode cX10_liveSort 168 = .ok (.aload_n 0, 1) := by decide +kernel
theorem dX10_liveSort_169 : decode cX10_liveSort 169 = .ok (.getfield 43, 3) := by decide +kernel
theorem dX10_liveSort_172 : decode cX10_liveSort 172 = .ok (.iconst 2, 1) := by decide +kernel
theorem dX10_liveSort_173 : decode cX10_liveSort 173 = .ok (.iload 8, 2) := by decide +kernel
theorem dX10_liveSort_175 : decode cX10_liveSort 175 = .ok (.iadd, 1) := by decide +kernel
theorem dX10_liveSort_176 : decode cX10_liveSort 176 = .ok (.iload 5, 2) := by decide +kernel
theorem dX10_liveSort_178 : decode cX10_liveSort 178 = .ok (.invokevirtual 115, 3) := by decide +kernel
theorem dX10_liveSort_181 : decode cX10_liveSort 181 = .ok (.istore 9, 2) := by decide +kernel
theorem dX10_liveSort_183 : decode cX10_liveSort 183 = .ok (.aload_n 0, 1) := by decide +kernel
theorem dX10_liveSort_184 : decode cX10_liveSort 184 = .ok (.getfield 39, 3) := by decide +kernel
theorem dX10_liveSort_187 : decode cX10_liveSort 187 = .ok (.iconst 2, 1) := by decide +kernel
theorem dX10_liveSort_188 : decode cX10_liveSort 188 = .ok (.iload 8, 2) := by decide +kernel
theorem dX10_liveSort_190 : decode cX10_liveSort 190 = .ok (.iadd, 1) := by decide +kernel
theorem dX10_liveSort_191 : decode cX10_liveSort 191 = .ok (.iload 7, 2) := by decide +kernel
theorem dX10_liveSort_193 : decode cX10_liveSort 193 = .ok (.iload_n 3, 1) := by decide +kernel
theorem dX10_liveSort_194 : decode cX10_liveSort 194 = .ok (.iload 9, 2) := by decide +kernel
theorem dX10_liveSort_196 : decode cX10_liveSort 196 = .ok (.iconst 0, 1) := by decide +kernel
theorem dX10_liveSort_197 : decode cX10_liveSort 197 = .ok (.sipush 999, 3) := by decide +kernel
theorem dX10_liveSort_200 : decode cX10_liveSort 200 = .ok (.invokestatic 86, 3) := by decide +kernel
theorem dX10_liveSort_203 : decode cX10_liveSort 203 = .ok (.invokevirtual 90, 3) := by decide +kernel
theorem dX10_liveSort_206 : decode cX10_liveSort 206 = .ok (.iinc 8 1, 3) := by decide +kernel
theorem dX10_liveSort_209 : decode cX10_liveSort 209 = .ok (.goto (-47), 3) := by decide +kernel
theorem dX10_liveSort_212 : decode cX10_liveSort 212 = .ok (.aload_n 0, 1) := by decide +kernel
theorem dX10_liveSort_213 : decode cX10_liveSort 213 = .ok (.iload_n 1, 1) := by decide +kernel
theorem dX10_liveSort_214 : decode cX10_liveSort 214 = .ok (.iload_n 2, 1) := by decide +kernel
theorem dX10_liveSort_215 : decode cX10_liveSort 215 = .ok (.iload_n 3, 1) := by decide +kernel
theorem dX10_liveSort_216 : decode cX10_liveSort 216 = .ok (.iload 6, 2) := by decide +kernel
theorem dX10_liveSort_218 : decode cX10_liveSort 218 = .ok (.invokevirtual 118, 3) := by decide +kernel
theorem dX10_liveSort_221 : decode cX10_liveSort 221 = .ok (.ireturn, 1) := by decide +kernel
theorem dX10_throwAway_0 : decode cX10_throwAway 0 = .ok (.aload_n 0, 1) := by decide +kernel
theorem dX10_throwAway_1 : decode cX10_throwAway 1 = .ok (.iload_n 3, 1) := by decide +kernel
theorem dX10_throwAway_2 : decode cX10_throwAway 2 = .ok (.invokevirtual 55, 3) := by decide +kernel
theorem dX10_throwAway_5 : decode cX10_throwAway 5 = .ok (.ifCond .ne 5, 3) := by decide +kernel
theorem dX10_throwAway_8 : decode cX10_throwAway 8 = .ok (.iconst 0, 1) := by decide +kernel
theorem dX10_throwAway_9 : decode cX10_throwAway 9 = .ok (.ireturn, 1) := by decide +kernel
theorem dX10_throwAway_10 : decode cX10_throwAway 10 = .ok (.iload 4, 2) := by decide +kernel
theorem dX10_throwAway_12 : decode cX10_throwAway 12 = .ok (.aload_n 0, 1) := by decide +kernel
theorem dX10_throwAway_13 : decode cX10_throwAway 13 = .ok (.getfield 27, 3) := by decide +kernel
theorem dX10_throwAway_16 : decode cX10_throwAway 16 = .ok (.iload_n 3, 1) := by decide +kernel
theorem dX10_throwAway_17 : decode cX10_throwAway 17 = .ok (.iaload, 1) := by decide +kernel
theorem dX10_throwAway_18 : decode cX10_throwAway 18 = .ok (.imul, 1) := by decide +kernel
theorem dX10_throwAway_19 : decode cX10_throwAway 19 = .ok (.bipush 100, 2) := by decide +kernel
theorem dX10_throwAway_21 : decode cX10_throwAway 21 = .ok (.idiv, 1) := by decide +kernel
theorem dX10_throwAway_22 : decode cX10_throwAway 22 = .ok (.istore 5, 2) := by decide +kernel
theorem dX10_throwAway_24 : decode cX10_throwAway 24 = .ok (.iload 4, 2) := by decide +kernel
theorem dX10_throwAway_26 : decode cX10_throwAway 26 = .ok (.iload 4, 2) := by decide +kernel
theorem dX10_throwAway_28 : decode cX10_throwAway 28 = .ok (.aload_n 0, 1) := by decide +kernel
theorem dX10_throwAway_29 : decode cX10_throwAway 29 = .ok (.getfield 21, 3) := by decide +kernel
theorem dX10_throwAway_32 : decode cX10_throwAway 32 = .ok (.iload_n 3, 1) := by decide +kernel
theorem dX10_throwAway_33 : decode cX10_throwAway 33 = .ok (.iaload, 1) := by decide +kernel
theorem dX10_throwAway_34 : decode cX10_throwAway 34 = .ok (.imul, 1) := by decide +kernel
theorem dX10_throwAway_35 : decode cX10_throwAway 35 = .ok (.bipush 100, 2) := by decide +kernel
theorem dX10_throwAway_37 : decode cX10_throwAway 37 = .ok (.idiv, 1) := by decide +kernel
theorem dX10_throwAway_38 : decode cX10_throwAway 38 = .ok (.isub, 1) := by decide +kernel
theorem dX10_throwAway_39 : decode cX10_throwAway 39 = .ok (.iload 4, 2) := by decide +kernel
theorem dX10_throwAway_41 : decode cX10_throwAway 41 = .ok (.aload_n 0, 1) := by decide +kernel
theorem dX10_throwAway_42 : decode cX10_throwAway 42 = .ok (.getfield 24, 3) := by decide +kernel
theorem dX10_throwAway_45 : decode cX10_throwAway 45 = .ok (.iload_n 3, 1) := by decide +kernel
theorem dX10_throwAway_46 : decode cX10_throwAway 46 = .ok (.iaload, 1) := by decide +kernel
theorem dX10_throwAway_47 : decode cX10_throwAway 47 = .ok (.imul, 1) := by decide +kernel
theorem dX10_throwAway_48 : decode cX10_throwAway 48 = .ok (.bipush 100, 2) := by decide +kernel
theorem dX10_throwAway_50 : decode cX10_throwAway 50 = .ok (.idiv, 1) := by decide +kernel
theorem dX10_throwAway_51 : decode cX10_throwAway 51 = .ok (.isub, 1) := by decide +kernel
theorem dX10_throwAway_52 : decode cX10_throwAway 52 = .ok (.iload 5, 2) := by decide +kernel
theorem dX10_throwAway_54 : decode cX10_throwAway 54 = .ok (.isub, 1) := by decide +kernel
theorem dX10_throwAway_55 : decode cX10_throwAway 55 = .ok (.istore 6, 2) := by decide +kernel
theorem dX10_throwAway_57 : decode cX10_throwAway 57 = .ok (.aload_n 0, 1) := by decide +kernel
theorem dX10_throwAway_58 : decode cX10_throwAway 58 = .ok (.getfield 39, 3) := by decide +kernel
theorem dX10_throwAway_61 : decode cX10_throwAway 61 = .ok (.bipush 12, 2) := by decide +kernel
theorem dX10_throwAway_63 : decode cX10_throwAway 63 = .ok (.iload_n 1, 1) := by decide +kernel
theorem dX10_throwAway_64 : decode cX10_throwAway 64 = .ok (.imul, 1) := by decide +kernel
theorem dX10_throwAway_65 : decode cX10_throwAway 65 = .ok (.iload_n 2, 1) := by decide +kernel
theorem dX10_throwAway_66 : decode cX10_throwAway 66 = .ok (.iadd, 1) := by decide +kernel
theorem dX10_throwAway_67 : decode cX10_throwAway 67 = .ok (.iload_n 3, 1) := by decide +kernel
theorem dX10_throwAway_68 : decode cX10_throwAway 68 = .ok (.iload 6, 2) := by decide +kernel
theorem dX10_throwAway_70 : decode cX10_throwAway 70 = .ok (.invokevirtual 122, 3) := by decide +kernel
theorem dX10_throwAway_73 : decode cX10_throwAway 73 = .ok (.iload 5, 2) := by decide +kernel
theorem dX10_throwAway_75 : decode cX10_throwAway 75 = .ok (.ifCond .le 39, 3) := by decide +kernel
theorem dX10_throwAway_78 : decode cX10_throwAway 78 = .ok (.aload_n 0, 1) := by decide +kernel
theorem dX10_throwAway_79 : decode cX10_throwAway 79 = .ok (.iload_n 1, 1) := by decide +kernel
theorem dX10_throwAway_80 : decode cX10_throwAway 80 = .ok (.iconst 1, 1) := by decide +kernel
theorem dX10_throwAway_81 : decode cX10_throwAway 81 = .ok (.iadd, 1) := by decide +kernel
theorem dX10_throwAway_82 : decode cX10_throwAway 82 = .ok (.invokevirtual 65, 3) := by decide +kernel
theorem dX10_throwAway_85 : decode cX10_throwAway 85 = .ok (.ifCond .eq 9, 3) := by decide +kernel
theorem dX10_throwAway_88 : decode cX10_throwAway 88 = .ok (.iload_n 1, 1) := by decide +kernel
theorem dX10_throwAway_89 : decode cX10_throwAway 89 = .ok (.iconst 1, 1) := by decide +kernel
theorem dX10_throwAway_90 : decode cX10_throwAway 90 = .ok (.iadd, 1) := by decide +kernel
theorem dX10_throwAway_91 : decode cX10_throwAway 91 = .ok (.goto 4, 3) := by decide +kernel
theorem dX10_throwAway_94 : decode cX10_throwAway 94 = .ok (.iconst 0, 1) := by decide +kernel
theorem dX10_throwAway_95 : decode cX10_throwAway 95 = .ok (.istore 7, 2) := by decide +kernel
theorem dX10_throwAway_97 : decode cX10_throwAway 97 = .ok (.aload_n 0, 1) := by decide +kernel
theorem dX10_throwAway_98 : decode cX10_throwAway 98 = .ok (.getfield 39, 3) := by decide +kernel
theorem dX10_throwAway_101 : decode cX10_throwAway 101 = .ok (.bipush 12, 2) := by decide +kernel
theorem dX10_throwAway_103 : decode cX10_throwAway 103 = .ok (.iload 7, 2) := by decide +kernel
theorem dX10_throwAway_105 : decode cX10_throwAway 105 = .ok (.imul, 1) := by decide +kernel
theorem dX10_throwAway_106 : decode cX10_throwAway 106 = .ok (.iload_n 2, 1) := by decide +kernel
theorem dX10_throwAway_107 : decode cX10_throwAway 107 = .ok (.iadd, 1) := by decide +kernel
theorem dX10_throwAway_108 : decode cX10_throwAway 108 = .ok (.iload_n 3, 1) := by decide +kernel
theorem dX10_throwAway_109 : decode cX10_throwAway 109 = .ok (.iload 5, 2) := by decide +kernel
theorem dX10_throwAway_111 : decode cX10_throwAway 111 = .ok (.invokevirtual 122, 3) := by decide +kernel
theorem dX10_throwAway_114 : decode cX10_throwAway 114 = .ok (.iload 6, 2) := by decide +kernel
theorem dX10_throwAway_116 : decode cX10_throwAway 116 = .ok (.ireturn, 1) := by decide +kernel
theorem dX11_init_0 : decode cX11_init 0 = .ok (.aload_n 0, 1) := by decide +kernel
theorem dX11_init_1 : decode cX11_init 1 = .ok (.invokespecial 3, 3) := by decide +kernel
theorem dX11_init_4 : decode cX11_init 4 = .ok (.aload_n 0, 1) := by decide +kernel
theorem dX11_init_5 : decode cX11_init 5 = .ok (.new 9, 3) := by decide +kernel
theorem dX11_init_8 : decode cX11_init 8 = .ok (.dup, 1) := by decide +kernel
theorem dX11_init_9 : decode cX11_init 9 = .ok (.invokespecial 11, 3) := by decide +kernel
theorem dX11_init_12 : decode cX11_init 12 = .ok (.putfield 12, 3) := by decide +kernel
theorem dX11_init_15 : decode cX11_init 15 = .ok (.aload_n 0, 1) := by decide +kernel
theorem dX11_init_16 : decode cX11_init 16 = .ok (.new 16, 3) := by decide +kernel
theorem dX11_init_19 : decode cX11_init 19 = .ok (.dup, 1) := by decide +kernel
theorem dX11_init_20 : decode cX11_init 20 = .ok (.invokespecial 18, 3) := by decide +kernel
theorem dX11_init_23 : decode cX11_init 23 = .ok (.putfield 19, 3) := by decide +kernel
theorem dX11_init_26 : decode cX11_init 26 = .ok (.aload_n 0, 1) := by decide +kernel
theorem dX11_init_27 : decode cX11_init 27 = .ok (.new 23, 3) := by decide +kernel
theorem dX11_init_30 : decode cX11_init 30 = .ok (.dup, 1) := by decide +kernel
theorem dX11_init_31 : decode cX11_init 31 = .ok (.invokespecial 25, 3) := by decide +kernel
theorem dX11_init_34 : decode cX11_init 34 = .ok (.putfield 26, 3) := by decide +kernel
theorem dX11_init_37 : decode cX11_init 37 = .ok (.aload_n 0, 1) := by decide +kernel
theorem dX11_init_38 : decode cX11_init 38 = .ok (.new 30, 3) := by decide +kernel
theorem dX11_init_41 : decode cX11_init 41 = .ok (.dup, 1) := by decide +kernel
theorem dX11_init_42 : decode cX11_init 42 = .ok (.aload_n 0, 1) := by decide +kernel
theorem dX11_init_43 : decode cX11_init 43 = .ok (.getfield 26, 3) := by decide +kernel
theorem dX11_init_46 : decode cX11_init 46 = .ok (.invokespecial 32, 3) := by decide +kernel
theorem dX11_init_49 : decode cX11_init 49 = .ok (.putfield 35, 3) := by decide +kernel
theorem dX11_init_52 : decode cX11_init 52 = .ok (.aload_n 0, 1) := by decide +kernel
theorem dX11_init_53 : decode cX11_init 53 = .ok (.new 39, 3) := by decide +kernel
theorem dX11_init_56 : decode cX11_init 56 = .ok (.dup, 1) := by decide +kernel
theorem dX11_init_57 : decode cX11_init 57 = .ok (.aload_n 0, 1) := by decide +kernel
theorem dX11_init_58 : decode cX11_init 58 = .ok (.getfield 26, 3) := by decide +kernel
theorem dX11_init_61 : decode cX11_init 61 = .ok (.aload_n 0, 1) := by decide +kernel
theorem dX11_init_62 : decode cX11_init 62 = .ok (.getfield 35, 3) := by decide +kernel
theorem dX11_init_65 : decode cX11_init 65 = .ok (.invokespecial 41, 3) := by decide +kernel
theorem dX11_init_68 : decode cX11_init 68 = .ok (.putfield 44, 3) := by decide +kernel
theorem dX11_init_71 : decode cX11_init 71 = .ok (.aload_n 0, 1) := by decide +kernel
theorem dX11_init_72 : decode cX11_init 72 = .ok (.new 48, 3) := by decide +kernel
theorem dX11_init_75 : decode cX11_init 75 = .ok (.dup, 1) := by decide +kernel
theorem dX11_init_76 : decode cX11_init 76 = .ok (.aload_n 0, 1) := by decide +kernel
theorem dX11_init_77 : decode cX11_init 77 = .ok (.getfield 44, 3) := by decide +kernel
theorem dX11_init_80 : decode cX11_init 80 = .ok (.aload_n 0, 1) := by decide +kernel
theorem dX11_init_81 : decode cX11_init 81 = .ok (.getfield 26, 3) := by decide +kernel
theorem dX11_init_84 : decode cX11_init 84 = .ok (.aload_n 0, 1) := by decide +kernel
theorem dX11_init_85 : decode cX11_init 85 = .ok (.getfield 12, 3) := by decide +kernel
theorem dX11_init_88 : decode cX11_init 88 = .ok (.invokespecial 50, 3) := by decide +kernel
theorem dX11_init_91 : decode cX11_init 91 = .ok (.putfield 53, 3) := by decide +kernel
theorem dX11_init_94 : decode cX11_init 94 = .ok (.aload_n 0, 1) := by decide +kernel
theorem dX11_init_95 : decode cX11_init 95 = .ok (.new 57, 3) := by decide +kernel
theorem dX11_init_98 : decode cX11_init 98 = .ok (.dup, 1) := by decide +kernel
theorem dX11_init_99 : decode cX11_init 99 = .ok (.aload_n 0, 1) := by decide +kernel
theorem dX11_init_100 : decode cX11_init 100 = .ok (.getfield 44, 3) := by decide +kernel
theorem dX11_init_103 : decode cX11_init 103 = .ok (.aload_n 0, 1) := by decide +kernel
theorem dX11_init_104 : decode cX11_init 104 = .ok (.getfield 26, 3) := by decide +kernel
theorem dX11_init_107 : decode cX11_init 107 = .ok (.aload_n 0, 1) := by decide +kernel
theorem dX11_init_108 : decode cX11_init 108 = .ok (.getfield 12, 3) := by decide +kernel
theorem dX11_init_111 : decode cX11_init 111 = .ok (.invokespecial 59, 3) := by decide +kernel
theorem dX11_init_114 : decode cX11_init 114 = .ok (.putfield 60, 3) := by decide +kernel
theorem dX11_init_117 : decode cX11_init 117 = .ok (.aload_n 0, 1) := by decide +kernel
theorem dX11_init_118 : decode cX11_init 118 = .ok (.new 64, 3) := by decide +kernel
theorem dX11_init_121 : decode cX11_init 121 = .ok (.dup, 1) := by decide +kernel
theorem dX11_init_122 : decode cX11_init 122 = .ok (.aload_n 0, 1) := by decide +kernel
theorem dX11_init_123 : decode cX11_init 123 = .ok (.getfield 44, 3) := by decide +kernel
theorem dX11_init_126 : decode cX11_init 126 = .ok (.aload_n 0, 1) := by decide +kernel
theorem dX11_init_127 : decode cX11_init 127 = .ok (.getfield 26, 3) := by decide +kernel
theorem dX11_init_130 : decode cX11_init 130 = .ok (.aload_n 0, 1) := by decide +kernel
theorem dX11_init_131 : decode cX11_init 131 = .ok (.getfield 12, 3) := by decide +kernel
theorem dX11_init_134 : decode cX11_init 134 = .ok (.invokespecial 66, 3) := by decide +kernel
theorem dX11_init_137 : decode cX11_init 137 = .ok (.putfield 67, 3) := by decide +kernel
theorem dX11_init_140 : decode cX11_init 140 = .ok (.aload_n 0, 1) := by decide +kernel
theorem dX11_init_141 : decode cX11_init 141 = .ok (.new 71, 3) := by decide +kernel
theorem dX11_init_144 : decode cX11_init 144 = .ok (.dup, 1) := by decide +kernel
theorem dX11_init_145 : decode cX11_init 145 = .ok (.aload_n 0, 1) := by decide +kernel
theorem dX11_init_146 : decode cX11_init 146 = .ok (.getfield 44, 3) := by decide +kernel
theorem dX11_init_149 : decode cX11_init 149 = .ok (.aload_n 0, 1) := by decide +kernel
theorem dX11_init_150 : decode cX11_init 150 = .ok (.getfield 26, 3) := by decide +kernel
theorem dX11_init_153 : decode cX11_init 153 = .ok (.aload_n 0, 1) := by decide +kernel
theorem dX11_init_154 : decode cX11_init 154 = .ok (.getfield 12, 3) := by decide +kernel
theorem dX11_init_157 : decode cX11_init 157 = .ok (.invokespecial 73, 3) := by decide +kernel
theorem dX11_init_160 : decode cX11_init 160 = .ok (.putfield 74, 3) := by decide +kernel
theorem dX11_init_163 : decode cX11_init 163 = .ok (.aload_n 0, 1) := by decide +kernel
theorem dX11_init_164 : decode cX11_init 164 = .ok (.new 78, 3) := by decide +kernel
theorem dX11_init_167 : decode cX11_init 167 = .ok (.dup, 1) := by decide +kernel
theorem dX11_init_168 : decode cX11_init 168 = .ok (.aload_n 0, 1) := by decide +kernel
theorem dX11_init_169 : decode cX11_init 169 = .ok (.getfield 44, 3) := by decide +kernel
theorem dX11_init_172 : decode cX11_init 172 = .ok (.aload_n 0, 1) := by decide +kernel
theorem dX11_init_173 : decode cX11_init 173 = .ok (.getfield 12, 3) := by decide +kernel
theorem dX11_init_176 : decode cX11_init 176 = .ok (.invokespecial 80, 3) := by decide +kernel
theorem dX11_init_179 : decode cX11_init 179 = .ok (.putfield 83, 3) := by decide +kernel
theorem dX11_init_182 : decode cX11_init 182 = .ok (.return_, 1) := by decide +kernel
theorem dX11_sort_0 : decode cX11_sort 0 = .ok (.aload_n 0, 1) := by decide +kernel
theorem dX11_sort_1 : decode cX11_sort 1 = .ok (.getfield 44, 3) := by decide +kernel
theorem dX11_sort_4 : decode cX11_sort 4 = .ok (.iload_n 1, 1) := by decide +kernel
theorem dX11_sort_5 : decode cX11_sort 5 = .ok (.iload_n 2, 1) := by decide +kernel
theorem dX11_sort_6 : decode cX11_sort 6 = .ok (.iload_n 3, 1) := by decide +kernel
theorem dX11_sort_7 : decode cX11_sort 7 = .ok (.invokevirtual 87, 3) := by decide +kernel
theorem dX11_sort_10 : decode cX11_sort 10 = .ok (.ireturn, 1) := by decide +kernel
theorem dX11_goes_0 : decode cX11_goes 0 = .ok (.aload_n 0, 1) := by decide +kernel
theorem dX11_goes_1 : decode cX11_goes 1 = .ok (.getfield 44, 3) := by decide +kernel
theorem dX11_goes_4 : decode cX11_goes 4 = .ok (.iload_n 1, 1) := by decide +kernel
theorem dX11_goes_5 : decode cX11_goes 5 = .ok (.iload_n 2, 1) := by decide +kernel
theorem dX11_goes_6 : decode cX11_goes 6 = .ok (.iload_n 3, 1) := by decide +kernel
theorem dX11_goes_7 : decode cX11_goes 7 = .ok (.iload 4, 2) := by decide +kernel
theorem dX11_goes_9 : decode cX11_goes 9 = .ok (.invokevirtual 91, 3) := by decide +kernel
theorem dX11_goes_12 : decode cX11_goes 12 = .ok (.ireturn, 1) := by decide +kernel
theorem dX11_street_0 : decode cX11_street 0 = .ok (.aload_n 0, 1) := by decide +kernel
theorem dX11_street_1 : decode cX11_street 1 = .ok (.getfield 44, 3) := by decide +kernel
theorem dX11_street_4 : decode cX11_street 4 = .ok (.iload_n 1, 1) := by decide +kernel
theorem dX11_street_5 : decode cX11_street 5 = .ok (.invokevirtual 95, 3) := by decide +kernel
theorem dX11_street_8 : decode cX11_street 8 = .ok (.ireturn, 1) := by decide +kernel
theorem dX11_lack_0 : decode cX11_lack 0 = .ok (.aload_n 0, 1) := by decide +kernel
theorem dX11_lack_1 : decode cX11_lack 1 = .ok (.getfield 44, 3) := by decide +kernel
theorem dX11_lack_4 : decode cX11_lack 4 = .ok (.iload_n 1, 1) := by decide +kernel
theorem dX11_lack_5 : decode cX11_lack 5 = .ok (.iload_n 2, 1) := by decide +kernel
theorem dX11_lack_6 : decode cX11_lack 6 = .ok (.iload_n 3, 1) := by decide +kernel
theorem dX11_lack_7 : decode cX11_lack 7 = .ok (.invokevirtual 99, 3) := by decide +kernel
theorem dX11_lack_10 : decode cX11_lack 10 = .ok (.ireturn, 1) := by decide +kernel
theorem dX11_put_0 : decode cX11_put 0 = .ok (.aload_n 0, 1) := by decide +kernel
theorem dX11_put_1 : decode cX11_put 1 = .ok (.getfield 44, 3) := by decide +kernel
theorem dX11_put_4 : decode cX11_put 4 = .ok (.iload_n 1, 1) := by decide +kernel
theorem dX11_put_5 : decode cX11_put 5 = .ok (.iload_n 2, 1) := by decide +kernel
theorem dX11_put_6 : decode cX11_put 6 = .ok (.iload_n 3, 1) := by decide +kernel
theorem dX11_put_7 : decode cX11_put 7 = .ok (.invokevirtual 103, 3) := by decide +kernel
theorem dX11_put_10 : decode cX11_put 10 = .ok (.ifCond .eq 15, 3) := by decide +kernel
theorem dX11_put_13 : decode cX11_put 13 = .ok (.iload 4, 2) := by decide +kernel
theorem dX11_put_15 : decode cX11_put 15 = .ok (.iconst (-1), 1) := by decide +kernel
theorem dX11_put_16 : decode cX11_put 16 = .ok (.sipush 999, 3) := by decide +kernel
theorem dX11_put_19 : decode cX11_put 19 = .ok (.invokestatic 107, 3) := by decide +kernel
theorem dX11_put_22 : decode cX11_put 22 = .ok (.ifCond .ne 6, 3) := by decide +kernel
theorem dX11_put_25 : decode cX11_put 25 = .ok (.bipush (-2), 2) := by decide +kernel
theorem dX11_put_27 : decode cX11_put 27 = .ok (.ireturn, 1) := by decide +kernel
theorem dX11_put_28 : decode cX11_put 28 = .ok (.aload_n 0, 1) := by decide +kernel
theorem dX11_put_29 : decode cX11_put 29 = .ok (.getfield 26, 3) := by decide +kernel
theorem dX11_put_32 : decode cX11_put 32 = .ok (.iload_n 1, 1) := by decide +kernel
theorem dX11_put_33 : decode cX11_put 33 = .ok (.iload_n 2, 1) := by decide +kernel
theorem dX11_put_34 : decode cX11_put 34 = .ok (.iload_n 3, 1) := by decide +kernel
theorem dX11_put_35 : decode cX11_put 35 = .ok (.invokevirtual 110, 3) := by decide +kernel
theorem dX11_put_38 : decode cX11_put 38 = .ok (.istore 5, 2) := by decide +kernel
theorem dX11_put_40 : decode cX11_put 40 = .ok (.aload_n 0, 1) := by decide +kernel
theorem dX11_put_41 : decode cX11_put 41 = .ok (.getfield 26, 3) := by decide +kernel
theorem dX11_put_44 : decode cX11_put 44 = .ok (.iload_n 1, 1) := by decide +kernel
theorem dX11_put_45 : decode cX11_put 45 = .ok (.iload_n 2, 1) := by decide +kernel
theorem dX11_put_46 : decode cX11_put 46 = .ok (.iload_n 3, 1) := by decide +kernel
theorem dX11_put_47 : decode cX11_put 47 = .ok (.iload 4, 2) := by decide +kernel
theorem dX11_put_49 : decode cX11_put 49 = .ok (.invokevirtual 113, 3) := by decide +kernel
theorem dX11_put_52 : decode cX11_put 52 = .ok (.iload 5, 2) := by decide +kernel
theorem dX11_put_54 : decode cX11_put 54 = .ok (.ireturn, 1) := by decide +kernel
theorem dX11_get_0 : decode cX11_get 0 = .ok (.aload_n 0, 1) := by decide +kernel
theorem dX11_get_1 : decode cX11_get 1 = .ok (.getfield 44, 3) := by decide +kernel
theorem dX11_get_4 : decode cX11_get 4 = .ok (.iload_n 1, 1) := by decide +kernel
theorem dX11_get_5 : decode cX11_get 5 = .ok (.iload_n 2, 1) := by decide +kernel
theorem dX11_get_6 : decode cX11_get 6 = .ok (.iload_n 3, 1) := by decide +kernel
theorem dX11_get_7 : decode cX11_get 7 = .ok (.invokevirtual 103, 3) := by decide +kernel
theorem dX11_get_10 : decode cX11_get 10 = .ok (.ifCond .eq 16, 3) := by decide +kernel
theorem dX11_get_13 : decode cX11_get 13 = .ok (.aload_n 0, 1) := by decide +kernel
theorem dX11_get_14 : decode cX11_get 14 = .ok (.getfield 26, 3) := by decide +kernel
theorem dX11_get_17 : decode cX11_get 17 = .ok (.iload_n 1, 1) := by decide +kernel
theorem dX11_get_18 : decode cX11_get 18 = .ok (.iload_n 2, 1) := by decide +kernel
theorem dX11_get_19 : decode cX11_get 19 = .ok (.iload_n 3, 1) := by decide +kernel
theorem dX11_get_20 : decode cX11_get 20 = .ok (.invokevirtual 110, 3) := by decide +kernel
theorem dX11_get_23 : decode cX11_get 23 = .ok (.goto 5, 3) := by decide +kernel
theorem dX11_get_26 : decode cX11_get 26 = .ok (.bipush (-2), 2) := by decide +kernel
theorem dX11_get_28 : decode cX11_get 28 = .ok (.ireturn, 1) := by decide +kernel
theorem dX11_sheet_0 : decode cX11_sheet 0 = .ok (.aload_n 0, 1) := by decide +kernel
theorem dX11_sheet_1 : decode cX11_sheet 1 = .ok (.getfield 44, 3) := by decide +kernel
theorem dX11_sheet_4 : decode cX11_sheet 4 = .ok (.iload_n 1, 1) := by decide +kernel
theorem dX11_sheet_5 : decode cX11_sheet 5 = .ok (.iload_n 2, 1) := by decide +kernel
theorem dX11_sheet_6 : decode cX11_sheet 6 = .ok (.iload_n 3, 1) := by decide +kernel
theorem dX11_sheet_7 : decode cX11_sheet 7 = .ok (.iload 4, 2) := by decide +kernel
theorem dX11_sheet_9 : decode cX11_sheet 9 = .ok (.iload 5, 2) := by decide +kernel
theorem dX11_sheet_11 : decode cX11_sheet 11 = .ok (.invokevirtual 117, 3) := by decide +kernel
theorem dX11_sheet_14 : decode cX11_sheet 14 = .ok (.ireturn, 1) := by decide +kernel
theorem dX11_sign_0 : decode cX11_sign 0 = .ok (.aload_n 0, 1) := by decide +kernel
theorem dX11_sign_1 : decode cX11_sign 1 = .ok (.getfield 19, 3) := by decide +kernel
theorem dX11_sign_4 : decode cX11_sign 4 = .ok (.iload_n 1, 1) := by decide +kernel
theorem dX11_sign_5 : decode cX11_sign 5 = .ok (.invokevirtual 121, 3) := by decide +kernel
theorem dX11_sign_8 : decode cX11_sign 8 = .ok (.ireturn, 1) := by decide +kernel
theorem dX11_end_0 : decode cX11_end 0 = .ok (.aload_n 0, 1) := by decide +kernel
theorem dX11_end_1 : decode cX11_end 1 = .ok (.getfield 19, 3) := by decide +kernel
theorem dX11_end_4 : decode cX11_end 4 = .ok (.iload_n 1, 1) := by decide +kernel
theorem dX11_end_5 : decode cX11_end 5 = .ok (.invokevirtual 124, 3) := by decide +kernel
theorem dX11_end_8 : decode cX11_end 8 = .ok (.ireturn, 1) := by decide +kernel
theorem dX11_law_0 : decode cX11_law 0 = .ok (.aload_n 0, 1) := by decide +kernel
theorem dX11_law_1 : decode cX11_law 1 = .ok (.getfield 35, 3) := by decide +kernel
theorem dX11_law_4 : decode cX11_law 4 = .ok (.iload_n 1, 1) := by decide +kernel
theorem dX11_law_5 : decode cX11_law 5 = .ok (.invokevirtual 128, 3) := by decide +kernel
theorem dX11_law_8 : decode cX11_law 8 = .ok (.ifCond .eq 18, 3) := by decide +kernel
theorem dX11_law_11 : decode cX11_law 11 = .ok (.aload_n 0, 1) := by decide +kernel
theorem dX11_law_12 : decode cX11_law 12 = .ok (.getfield 35, 3) := by decide +kernel
theorem dX11_law_15 : decode cX11_law 15 = .ok (.iload_n 1, 1) := by decide +kernel
theorem dX11_law_16 : decode cX11_law 16 = .ok (.aload_n 0, 1) := by decide +kernel
theorem dX11_law_17 : decode cX11_law 17 = .ok (.getfield 19, 3) := by decide +kernel
theorem dX11_law_20 : decode cX11_law 20 = .ok (.invokevirtual 131, 3) := by decide +kernel
theorem dX11_law_23 : decode cX11_law 23 = .ok (.goto 5, 3) := by decide +kernel
theorem dX11_law_26 : decode cX11_law 26 = .ok (.bipush (-100), 2) := by decide +kernel
theorem dX11_law_28 : decode cX11_law 28 = .ok (.istore_n 2, 1) := by decide +kernel
theorem dX11_law_29 : decode cX11_law 29 = .ok (.aload_n 0, 1) := by decide +kernel
theorem dX11_law_30 : decode cX11_law 30 = .ok (.getfield 19, 3) := by decide +kernel
theorem dX11_law_33 : decode cX11_law 33 = .ok (.iconst 0, 1) := by decide +kernel
theorem dX11_law_34 : decode cX11_law 34 = .ok (.invokevirtual 124, 3) := by decide +kernel
theorem dX11_law_37 : decode cX11_law 37 = .ok (.pop, 1) := by decide +kernel
theorem dX11_law_38 : decode cX11_law 38 = .ok (.iload_n 2, 1) := by decide +kernel
theorem dX11_law_39 : decode cX11_law 39 = .ok (.ireturn, 1) := by decide +kernel
theorem dX11_live_0 : decode cX11_live 0 = .ok (.aload_n 0, 1) := by decide +kernel
theorem dX11_live_1 : decode cX11_live 1 = .ok (.getfield 44, 3) := by decide +kernel
theorem dX11_live_4 : decode cX11_live 4 = .ok (.iload_n 1, 1) := by decide +kernel
theorem dX11_live_5 : decode cX11_live 5 = .ok (.iload_n 2, 1) := by decide +kernel
theorem dX11_live_6 : decode cX11_live 6 = .ok (.invokevirtual 135, 3) := by decide +kernel
theorem dX11_live_9 : decode cX11_live 9 = .ok (.ireturn, 1) := by decide +kernel
theorem dX11_seed_0 : decode cX11_seed 0 = .ok (.aload_n 0, 1) := by decide +kernel
theorem dX11_seed_1 : decode cX11_seed 1 = .ok (.getfield 26, 3) := by decide +kernel
theorem dX11_seed_4 : decode cX11_seed 4 = .ok (.iload_n 1, 1) := by decide +kernel
theorem dX11_seed_5 : decode cX11_seed 5 = .ok (.invokevirtual 139, 3) := by decide +kernel
theorem dX11_seed_8 : decode cX11_seed 8 = .ok (.ireturn, 1) := by decide +kernel
theorem dX11_sum_0 : decode cX11_sum 0 = .ok (.aload_n 0, 1) := by decide +kernel
theorem dX11_sum_1 : decode cX11_sum 1 = .ok (.getfield 53, 3) := by decide +kernel
theorem dX11_sum_4 : decode cX11_sum 4 = .ok (.iload_n 1, 1) := by decide +kernel
theorem dX11_sum_5 : decode cX11_sum 5 = .ok (.iload_n 2, 1) := by decide +kernel
theorem dX11_sum_6 : decode cX11_sum 6 = .ok (.iload_n 3, 1) := by decide +kernel
theorem dX11_sum_7 : decode cX11_sum 7 = .ok (.iload 4, 2) := by decide +kernel
theorem dX11_sum_9 : decode cX11_sum 9 = .ok (.invokevirtual 142, 3) := by decide +kernel
theorem dX11_sum_12 : decode cX11_sum 12 = .ok (.ireturn, 1) := by decide +kernel
theorem dX11_bounds_0 : decode cX11_bounds 0 = .ok (.aload_n 0, 1) := by decide +kernel
theorem dX11_bounds_1 : decode cX11_bounds 1 = .ok (.getfield 53, 3) := by decide +kernel
theorem dX11_bounds_4 : decode cX11_bounds 4 = .ok (.iload_n 1, 1) := by decide +kernel
theorem dX11_bounds_5 : decode cX11_bounds 5 = .ok (.iload_n 2, 1) := by decide +kernel
theorem dX11_bounds_6 : decode cX11_bounds 6 = .ok (.iload_n 3, 1) := by decide +kernel
theorem dX11_bounds_7 : decode cX11_bounds 7 = .ok (.invokevirtual 146, 3) := by decide +kernel
theorem dX11_bounds_10 : decode cX11_bounds 10 = .ok (.ireturn, 1) := by decide +kernel
theorem dX11_line_0 : decode cX11_line 0 = .ok (.aload_n 0, 1) := by decide +kernel
theorem dX11_line_1 : decode cX11_line 1 = .ok (.getfield 53, 3) := by decide +kernel
theorem dX11_line_4 : decode cX11_line 4 = .ok (.iload_n 1, 1) := by decide +kernel
theorem dX11_line_5 : decode cX11_line 5 = .ok (.iload_n 2, 1) := by decide +kernel
theorem dX11_line_6 : decode cX11_line 6 = .ok (.iload_n 3, 1) := by decide +kernel
theorem dX11_line_7 : decode cX11_line 7 = .ok (.invokevirtual 149, 3) := by decide +kernel
theorem dX11_line_10 : decode cX11_line 10 = .ok (.ireturn, 1) := by decide +kernel
theorem dX11_off_0 : decode cX11_off 0 = .ok (.aload_n 0, 1) := by decide +kernel
theorem dX11_off_1 : decode cX11_off 1 = .ok (.getfield 53, 3) := by decide +kernel
theorem dX11_off_4 : decode cX11_off 4 = .ok (.iload_n 1, 1) := by decide +kernel
theorem dX11_off_5 : decode cX11_off 5 = .ok (.iload_n 2, 1) := by decide +kernel
theorem dX11_off_6 : decode cX11_off 6 = .ok (.invokevirtual 152, 3) := by decide +kernel
theorem dX11_off_9 : decode cX11_off 9 = .ok (.ireturn, 1) := by decide +kernel
theorem dX11_nearest_0 : decode cX11_nearest 0 = .ok (.aload_n 0, 1) := by decide +kernel
theorem dX11_nearest_1 : decode cX11_nearest 1 = .ok (.getfield 53, 3) := by decide +kernel
theorem dX11_nearest_4 : decode cX11_nearest 4 = .ok (.iload_n 1, 1) := by decide +kernel
theorem dX11_nearest_5 : decode cX11_nearest 5 = .ok (.invokevirtual 155, 3) := by decide +kernel
theorem dX11_nearest_8 : decode cX11_nearest 8 = .ok (.ireturn, 1) := by decide +kernel
theorem dX11_worst_0 : decode cX11_worst 0 = .ok (.aload_n 0, 1) := by decide +kernel
theorem dX11_worst_1 : decode cX11_worst 1 = .ok (.getfield 53, 3) := by decide +kernel
theorem dX11_worst_4 : decode cX11_worst 4 = .ok (.iload_n 1, 1) := by decide +kernel
theorem dX11_worst_5 : decode cX11_worst 5 = .ok (.iload_n 2, 1) := by decide +kernel
theorem dX11_worst_6 : decode cX11_worst 6 = .ok (.invokevirtual 158, 3) := by decide +kernel
theorem dX11_worst_9 : decode cX11_worst 9 = .ok (.ireturn, 1) := by decide +kernel
theorem dX11_right_0 : decode cX11_right 0 = .ok (.aload_n 0, 1) := by decide +kernel
theorem dX11_right_1 : decode cX11_right 1 = .ok (.getfield 53, 3) := by decide +kernel
theorem dX11_right_4 : decode cX11_right 4 = .ok (.iload_n 1, 1) := by decide +kernel
theorem dX11_right_5 : decode cX11_right 5 = .ok (.invokevirtual 161, 3) := by decide +kernel
theorem dX11_right_8 : decode cX11_right 8 = .ok (.ireturn, 1) := by decide +kernel
theorem dX11_three_0 : decode cX11_three 0 = .ok (.aload_n 0, 1) := by decide +kernel
theorem dX11_three_1 : decode cX11_three 1 = .ok (.getfield 53, 3) := by decide +kernel
theorem dX11_three_4 : decode cX11_three 4 = .ok (.iload_n 1, 1) := by decide +kernel
theorem dX11_three_5 : decode cX11_three 5 = .ok (.iload_n 2, 1) := by decide +kernel
theorem dX11_three_6 : decode cX11_three 6 = .ok (.invokevirtual 164, 3) := by decide +kernel
theorem dX11_three_9 : decode cX11_three 9 = .ok (.ireturn, 1) := by decide +kernel
theorem dX11_slope_0 : decode cX11_slope 0 = .ok (.aload_n 0, 1) := by decide +kernel
theorem dX11_slope_1 : decode cX11_slope 1 = .ok (.getfield 53, 3) := by decide +kernel
theorem dX11_slope_4 : decode cX11_slope 4 = .ok (.iload_n 1, 1) := by decide +kernel
theorem dX11_slope_5 : decode cX11_slope 5 = .ok (.iload_n 2, 1) := by decide +kernel
theorem dX11_slope_6 : decode cX11_slope 6 = .ok (.invokevirtual 167, 3) := by decide +kernel
theorem dX11_slope_9 : decode cX11_slope 9 = .ok (.ireturn, 1) := by decide +kernel
theorem dX11_others_0 : decode cX11_others 0 = .ok (.aload_n 0, 1) := by decide +kernel
theorem dX11_others_1 : decode cX11_others 1 = .ok (.getfield 53, 3) := by decide +kernel
theorem dX11_others_4 : decode cX11_others 4 = .ok (.iload_n 1, 1) := by decide +kernel
theorem dX11_others_5 : decode cX11_others 5 = .ok (.iload_n 2, 1) := by decide +kernel
theorem dX11_others_6 : decode cX11_others 6 = .ok (.invokevirtual 170, 3) := by decide +kernel
theorem dX11_others_9 : decode cX11_others 9 = .ok (.ireturn, 1) := by decide +kernel
theorem dX11_worth_0 : decode cX11_worth 0 = .ok (.aload_n 0, 1) := by decide +kernel
theorem dX11_worth_1 : decode cX11_worth 1 = .ok (.getfield 53, 3) := by decide +kernel
theorem dX11_worth_4 : decode cX11_worth 4 = .ok (.iload_n 1, 1) := by decide +kernel
theorem dX11_worth_5 : decode cX11_worth 5 = .ok (.iload_n 2, 1) := by decide +kernel
theorem dX11_worth_6 : decode cX11_worth 6 = .ok (.invokevirtual 173, 3) := by decide +kernel
theorem dX11_worth_9 : decode cX11_worth 9 = .ok (.ireturn, 1) := by decide +kernel
theorem dX11_waste_0 : decode cX11_waste 0 = .ok (.aload_n 0, 1) := by decide +kernel
theorem dX11_waste_1 : decode cX11_waste 1 = .ok (.getfield 60, 3) := by decide +kernel
theorem dX11_waste_4 : decode cX11_waste 4 = .ok (.iload_n 1, 1) := by decide +kernel
theorem dX11_waste_5 : decode cX11_waste 5 = .ok (.invokevirtual 176, 3) := by decide +kernel
theorem dX11_waste_8 : decode cX11_waste 8 = .ok (.ireturn, 1) := by decide +kernel
theorem dX11_story_0 : decode cX11_story 0 = .ok (.aload_n 0, 1) := by decide +kernel
theorem dX11_story_1 : decode cX11_story 1 = .ok (.getfield 60, 3) := by decide +kernel
theorem dX11_story_4 : decode cX11_story 4 = .ok (.invokevirtual 179, 3) := by decide +kernel
theorem dX11_story_7 : decode cX11_story 7 = .ok (.ifCond .eq 8, 3) := by decide +kernel
theorem dX11_story_10 : decode cX11_story 10 = .ok (.bipush (-100), 2) := by decide +kernel
theorem dX11_story_12 : decode cX11_story 12 = .ok (.goto 14, 3) := by decide +kernel
theorem dX11_story_15 : decode cX11_story 15 = .ok (.aload_n 0, 1) := by decide +kernel
theorem dX11_story_16 : decode cX11_story 16 = .ok (.getfield 60, 3) := by decide +kernel
theorem dX11_story_19 : decode cX11_story 19 = .ok (.aload_n 0, 1) := by decide +kernel
theorem dX11_story_20 : decode cX11_story 20 = .ok (.getfield 19, 3) := by decide +kernel
theorem dX11_story_23 : decode cX11_story 23 = .ok (.invokevirtual 183, 3) := by decide +kernel
theorem dX11_story_26 : decode cX11_story 26 = .ok (.istore_n 1, 1) := by decide +kernel
theorem dX11_story_27 : decode cX11_story 27 = .ok (.aload_n 0, 1) := by decide +kernel
theorem dX11_story_28 : decode cX11_story 28 = .ok (.getfield 19, 3) := by decide +kernel
theorem dX11_story_31 : decode cX11_story 31 = .ok (.iconst 0, 1) := by decide +kernel
theorem dX11_story_32 : decode cX11_story 32 = .ok (.invokevirtual 124, 3) := by decide +kernel
theorem dX11_story_35 : decode cX11_story 35 = .ok (.pop, 1) := by decide +kernel
theorem dX11_story_36 : decode cX11_story 36 = .ok (.iload_n 1, 1) := by decide +kernel
theorem dX11_story_37 : decode cX11_story 37 = .ok (.ireturn, 1) := by decide +kernel
theorem dX11_holds_0 : decode cX11_holds 0 = .ok (.aload_n 0, 1) := by decide +kernel
theorem dX11_holds_1 : decode cX11_holds 1 = .ok (.getfield 60, 3) := by decide +kernel
theorem dX11_holds_4 : decode cX11_holds 4 = .ok (.iload_n 1, 1) := by decide +kernel
theorem dX11_holds_5 : decode cX11_holds 5 = .ok (.invokevirtual 187, 3) := by decide +kernel
theorem dX11_holds_8 : decode cX11_holds 8 = .ok (.ireturn, 1) := by decide +kernel
theorem dX11_parts_0 : decode cX11_parts 0 = .ok (.aload_n 0, 1) := by decide +kernel
theorem dX11_parts_1 : decode cX11_parts 1 = .ok (.getfield 60, 3) := by decide +kernel
theorem dX11_parts_4 : decode cX11_parts 4 = .ok (.invokevirtual 190, 3) := by decide +kernel
theorem dX11_parts_7 : decode cX11_parts 7 = .ok (.ireturn, 1) := by decide +kernel
theorem dX11_twice_0 : decode cX11_twice 0 = .ok (.aload_n 0, 1) := by decide +kernel
theorem dX11_twice_1 : decode cX11_twice 1 = .ok (.getfield 67, 3) := by decide +kernel
theorem dX11_twice_4 : decode cX11_twice 4 = .ok (.iload_n 1, 1) := by decide +kernel
theorem dX11_twice_5 : decode cX11_twice 5 = .ok (.iload_n 2, 1) := by decide +kernel
theorem dX11_twice_6 : decode cX11_twice 6 = .ok (.iload_n 3, 1) := by decide +kernel
theorem dX11_twice_7 : decode cX11_twice 7 = .ok (.invokevirtual 194, 3) := by decide +kernel
theorem dX11_twice_10 : decode cX11_twice 10 = .ok (.ireturn, 1) := by decide +kernel
theorem dX11_alike_0 : decode cX11_alike 0 = .ok (.aload_n 0, 1) := by decide +kernel
theorem dX11_alike_1 : decode cX11_alike 1 = .ok (.getfield 67, 3) := by decide +kernel
theorem dX11_alike_4 : decode cX11_alike 4 = .ok (.invokevirtual 197, 3) := by decide +kernel
theorem dX11_alike_7 : decode cX11_alike 7 = .ok (.ireturn, 1) := by decide +kernel
theorem dX11_mixed_0 : decode cX11_mixed 0 = .ok (.aload_n 0, 1) := by decide +kernel
theorem dX11_mixed_1 : decode cX11_mixed 1 = .ok (.getfield 67, 3) := by decide +kernel
theorem dX11_mixed_4 : decode cX11_mixed 4 = .ok (.invokevirtual 200, 3) := by decide +kernel
theorem dX11_mixed_7 : decode cX11_mixed 7 = .ok (.ireturn, 1) := by decide +kernel
theorem dX11_leans_0 : decode cX11_leans 0 = .ok (.aload_n 0, 1) := by decide +kernel
theorem dX11_leans_1 : decode cX11_leans 1 = .ok (.getfield 44, 3) := by decide +kernel
theorem dX11_leans_4 : decode cX11_leans 4 = .ok (.iload_n 1, 1) := by decide +kernel
theorem dX11_leans_5 : decode cX11_leans 5 = .ok (.invokevirtual 203, 3) := by decide +kernel
theorem dX11_leans_8 : decode cX11_leans 8 = .ok (.ifCond .ne 11, 3) := by decide +kernel
theorem dX11_leans_11 : decode cX11_leans 11 = .ok (.new 206, 3) := by decide +kernel
theorem dX11_leans_14 : decode cX11_leans 14 = .ok (.dup, 1) := by decide +kernel
theorem dX11_leans_15 : decode cX11_leans 15 = .ok (.invokespecial 208, 3) := by decide +kernel
theorem dX11_leans_18 : decode cX11_leans 18 = .ok (.athrow, 1) := by decide +kernel
theorem dX11_leans_19 : decode cX11_leans 19 = .ok (.aload_n 0, 1) := by decide +kernel
theorem dX11_leans_20 : decode cX11_leans 20 = .ok (.getfield 67, 3) := by decide +kernel
theorem dX11_leans_23 : decode cX11_leans 23 = .ok (.iload_n 1, 1) := by decide +kernel
theorem dX11_leans_24 : decode cX11_leans 24 = .ok (.invokevirtual 209, 3) := by decide +kernel
theorem dX11_leans_27 : decode cX11_leans 27 = .ok (.ireturn, 1) := by decide +kernel
theorem dX11_truly_0 : decode cX11_truly 0 = .ok (.aload_n 0, 1) := by decide +kernel
theorem dX11_truly_1 : decode cX11_truly 1 = .ok (.getfield 67, 3) := by decide +kernel
theorem dX11_truly_4 : decode cX11_truly 4 = .ok (.iload_n 1, 1) := by decide +kernel
theorem dX11_truly_5 : decode cX11_truly 5 = .ok (.iload_n 2, 1) := by decide +kernel
theorem dX11_truly_6 : decode cX11_truly 6 = .ok (.invokevirtual 212, 3) := by decide +kernel
theorem dX11_truly_9 : decode cX11_truly 9 = .ok (.ireturn, 1) := by decide +kernel
theorem dX11_moved_0 : decode cX11_moved 0 = .ok (.aload_n 0, 1) := by decide +kernel
theorem dX11_moved_1 : decode cX11_moved 1 = .ok (.getfield 74, 3) := by decide +kernel
theorem dX11_moved_4 : decode cX11_moved 4 = .ok (.iload_n 1, 1) := by decide +kernel
theorem dX11_moved_5 : decode cX11_moved 5 = .ok (.iload_n 2, 1) := by decide +kernel
theorem dX11_moved_6 : decode cX11_moved 6 = .ok (.invokevirtual 215, 3) := by decide +kernel
theorem dX11_moved_9 : decode cX11_moved 9 = .ok (.ireturn, 1) := by decide +kernel
theorem dX11_feasts_0 : decode cX11_feasts 0 = .ok (.aload_n 0, 1) := by decide +kernel
theorem dX11_feasts_1 : decode cX11_feasts 1 = .ok (.getfield 74, 3) := by decide +kernel
theorem dX11_feasts_4 : decode cX11_feasts 4 = .ok (.iload_n 1, 1) := by decide +kernel
theorem dX11_feasts_5 : decode cX11_feasts 5 = .ok (.invokevirtual 218, 3) := by decide +kernel
theorem dX11_feasts_8 : decode cX11_feasts 8 = .ok (.ireturn, 1) := by decide +kernel
theorem dX11_need_0 : decode cX11_need 0 = .ok (.aload_n 0, 1) := by decide +kernel
theorem dX11_need_1 : decode cX11_need 1 = .ok (.getfield 74, 3) := by decide +kernel
theorem dX11_need_4 : decode cX11_need 4 = .ok (.iload_n 1, 1) := by decide +kernel
theorem dX11_need_5 : decode cX11_need 5 = .ok (.iload_n 2, 1) := by decide +kernel
theorem dX11_need_6 : decode cX11_need 6 = .ok (.iload_n 3, 1) := by decide +kernel
theorem dX11_need_7 : decode cX11_need 7 = .ok (.iload 4, 2) := by decide +kernel
theorem dX11_need_9 : decode cX11_need 9 = .ok (.iconst 0, 1) := by decide +kernel
theorem dX11_need_10 : decode cX11_need 10 = .ok (.invokevirtual 221, 3) := by decide +kernel
theorem dX11_need_13 : decode cX11_need 13 = .ok (.ireturn, 1) := by decide +kernel
theorem dX11_weeks_0 : decode cX11_weeks 0 = .ok (.aload_n 0, 1) := by decide +kernel
theorem dX11_weeks_1 : decode cX11_weeks 1 = .ok (.getfield 74, 3) := by decide +kernel
theorem dX11_weeks_4 : decode cX11_weeks 4 = .ok (.iload_n 1, 1) := by decide +kernel
theorem dX11_weeks_5 : decode cX11_weeks 5 = .ok (.iload_n 2, 1) := by decide +kernel
theorem dX11_weeks_6 : decode cX11_weeks 6 = .ok (.iload_n 3, 1) := by decide +kernel
theorem dX11_weeks_7 : decode cX11_weeks 7 = .ok (.iload 4, 2) := by decide +kernel
theorem dX11_weeks_9 : decode cX11_weeks 9 = .ok (.iconst 1, 1) := by decide +kernel
theorem dX11_weeks_10 : decode cX11_weeks 10 = .ok (.invokevirtual 221, 3) := by decide +kernel
theorem dX11_weeks_13 : decode cX11_weeks 13 = .ok (.ireturn, 1) := by decide +kernel
theorem dX11_paper_0 : decode cX11_paper 0 = .ok (.aload_n 0, 1) := by decide +kernel
theorem dX11_paper_1 : decode cX11_paper 1 = .ok (.getfield 83, 3) := by decide +kernel
theorem dX11_paper_4 : decode cX11_paper 4 = .ok (.iload_n 1, 1) := by decide +kernel
theorem dX11_paper_5 : decode cX11_paper 5 = .ok (.iload_n 2, 1) := by decide +kernel
theorem dX11_paper_6 : decode cX11_paper 6 = .ok (.iload_n 3, 1) := by decide +kernel
theorem dX11_paper_7 : decode cX11_paper 7 = .ok (.invokevirtual 225, 3) := by decide +kernel
theorem dX11_paper_10 : decode cX11_paper 10 = .ok (.ireturn, 1) := by decide +kernel
theorem dX11_year_0 : decode cX11_year 0 = .ok (.aload_n 0, 1) := by decide +kernel
theorem dX11_year_1 : decode cX11_year 1 = .ok (.getfield 83, 3) := by decide +kernel
theorem dX11_year_4 : decode cX11_year 4 = .ok (.iload_n 1, 1) := by decide +kernel
theorem dX11_year_5 : decode cX11_year 5 = .ok (.invokevirtual 228, 3) := by decide +kernel
theorem dX11_year_8 : decode cX11_year 8 = .ok (.ireturn, 1) := by decide +kernel
theorem dX11_stray_0 : decode cX11_stray 0 = .ok (.aload_n 0, 1) := by decide +kernel
theorem dX11_stray_1 : decode cX11_stray 1 = .ok (.getfield 83, 3) := by decide +kernel
theorem dX11_stray_4 : decode cX11_stray 4 = .ok (.invokevirtual 231, 3) := by decide +kernel
theorem dX11_stray_7 : decode cX11_stray 7 = .ok (.ireturn, 1) := by decide +kernel
theorem dX11_was_0 : decode cX11_was 0 = .ok (.aload_n 0, 1) := by decide +kernel
theorem dX11_was_1 : decode cX11_was 1 = .ok (.getfield 83, 3) := by decide +kernel
theorem dX11_was_4 : decode cX11_was 4 = .ok (.iload_n 1, 1) := by decide +kernel
theorem dX11_was_5 : decode cX11_was 5 = .ok (.iload_n 2, 1) := by decide +kernel
theorem dX11_was_6 : decode cX11_was 6 = .ok (.iload_n 3, 1) := by decide +kernel
theorem dX11_was_7 : decode cX11_was 7 = .ok (.iload 4, 2) := by decide +kernel
theorem dX11_was_9 : decode cX11_was 9 = .ok (.invokevirtual 234, 3) := by decide +kernel
theorem dX11_was_12 : decode cX11_was 12 = .ok (.ireturn, 1) := by decide +kernel
theorem dX11_told_0 : decode cX11_told 0 = .ok (.aload_n 0, 1) := by decide +kernel
theorem dX11_told_1 : decode cX11_told 1 = .ok (.getfield 44, 3) := by decide +kernel
theorem dX11_told_4 : decode cX11_told 4 = .ok (.iload_n 1, 1) := by decide +kernel
theorem dX11_told_5 : decode cX11_told 5 = .ok (.iload_n 2, 1) := by decide +kernel
theorem dX11_told_6 : decode cX11_told 6 = .ok (.invokevirtual 237, 3) := by decide +kernel
theorem dX11_told_9 : decode cX11_told 9 = .ok (.ireturn, 1) := by decide +kernel
theorem dX11_does_0 : decode cX11_does 0 = .ok (.aload_n 0, 1) := by decide +kernel
theorem dX11_does_1 : decode cX11_does 1 = .ok (.getfield 74, 3) := by decide +kernel
theorem dX11_does_4 : decode cX11_does 4 = .ok (.iload_n 1, 1) := by decide +kernel
theorem dX11_does_5 : decode cX11_does 5 = .ok (.iload_n 2, 1) := by decide +kernel
theorem dX11_does_6 : decode cX11_does 6 = .ok (.iload_n 3, 1) := by decide +kernel
theorem dX11_does_7 : decode cX11_does 7 = .ok (.invokevirtual 241, 3) := by decide +kernel
theorem dX11_does_10 : decode cX11_does 10 = .ok (.ireturn, 1) := by decide +kernel
theorem dX11_keep_0 : decode cX11_keep 0 = .ok (.aload_n 0, 1) := by decide +kernel
theorem dX11_keep_1 : decode cX11_keep 1 = .ok (.getfield 26, 3) := by decide +kernel
theorem dX11_keep_4 : decode cX11_keep 4 = .ok (.iload_n 1, 1) := by decide +kernel
theorem dX11_keep_5 : decode cX11_keep 5 = .ok (.invokevirtual 244, 3) := by decide +kernel
theorem dX11_keep_8 : decode cX11_keep 8 = .ok (.ireturn, 1) := by decide +kernel
theorem dX11_again_0 : decode cX11_again 0 = .ok (.aload_n 0, 1) := by decide +kernel
theorem dX11_again_1 : decode cX11_again 1 = .ok (.getfield 26, 3) := by decide +kernel
theorem dX11_again_4 : decode cX11_again 4 = .ok (.iload_n 1, 1) := by decide +kernel
theorem dX11_again_5 : decode cX11_again 5 = .ok (.invokevirtual 247, 3) := by decide +kernel
theorem dX11_again_8 : decode cX11_again 8 = .ok (.ireturn, 1) := by decide +kernel
theorem dX11_count_0 : decode cX11_count 0 = .ok (.iload_n 1, 1) := by decide +kernel
theorem dX11_count_1 : decode cX11_count 1 = .ok (.tableswitch 123 0 8 #[51, 59, 67, 75, 83, 91, 99, 107, 115], 51) := by decide +kernel
theorem dX11_count_52 : decode cX11_count 52 = .ok (.aload_n 0, 1) := by decide +kernel
theorem dX11_count_53 : decode cX11_count 53 = .ok (.getfield 44, 3) := by decide +kernel
theorem dX11_count_56 : decode cX11_count 56 = .ok (.invokevirtual 250, 3) := by decide +kernel
theorem dX11_count_59 : decode cX11_count 59 = .ok (.ireturn, 1) := by decide +kernel
theorem dX11_count_60 : decode cX11_count 60 = .ok (.aload_n 0, 1) := by decide +kernel
theorem dX11_count_61 : decode cX11_count 61 = .ok (.getfield 44, 3) := by decide +kernel
theorem dX11_count_64 : decode cX11_count 64 = .ok (.invokevirtual 253, 3) := by decide +kernel
theorem dX11_count_67 : decode cX11_count 67 = .ok (.ireturn, 1) := by decide +kernel
theorem dX11_count_68 : decode cX11_count 68 = .ok (.aload_n 0, 1) := by decide +kernel
theorem dX11_count_69 : decode cX11_count 69 = .ok (.getfield 35, 3) := by decide +kernel
theorem dX11_count_72 : decode cX11_count 72 = .ok (.invokevirtual 256, 3) := by decide +kernel
theorem dX11_count_75 : decode cX11_count 75 = .ok (.ireturn, 1) := by decide +kernel
theorem dX11_count_76 : decode cX11_count 76 = .ok (.aload_n 0, 1) := by decide +kernel
theorem dX11_count_77 : decode cX11_count 77 = .ok (.getfield 60, 3) := by decide +kernel
theorem dX11_count_80 : decode cX11_count 80 = .ok (.invokevirtual 259, 3) := by decide +kernel
theorem dX11_count_83 : decode cX11_count 83 = .ok (.ireturn, 1) := by decide +kernel
theorem dX11_count_84 : decode cX11_count 84 = .ok (.aload_n 0, 1) := by decide +kernel
theorem dX11_count_85 : decode cX11_count 85 = .ok (.getfield 67, 3) := by decide +kernel
theorem dX11_count_88 : decode cX11_count 88 = .ok (.invokevirtual 262, 3) := by decide +kernel
theorem dX11_count_91 : decode cX11_count 91 = .ok (.ireturn, 1) := by decide +kernel
theorem dX11_count_92 : decode cX11_count 92 = .ok (.aload_n 0, 1) := by decide +kernel
theorem dX11_count_93 : decode cX11_count 93 = .ok (.getfield 83, 3) := by decide +kernel
theorem dX11_count_96 : decode cX11_count 96 = .ok (.invokevirtual 263, 3) := by decide +kernel
theorem dX11_count_99 : decode cX11_count 99 = .ok (.ireturn, 1) := by decide +kernel
theorem dX11_count_100 : decode cX11_count 100 = .ok (.aload_n 0, 1) := by decide +kernel
theorem dX11_count_101 : decode cX11_count 101 = .ok (.getfield 26, 3) := by decide +kernel
theorem dX11_count_104 : decode cX11_count 104 = .ok (.invokevirtual 264, 3) := by decide +kernel
theorem dX11_count_107 : decode cX11_count 107 = .ok (.ireturn, 1) := by decide +kernel
theorem dX11_count_108 : decode cX11_count 108 = .ok (.aload_n 0, 1) := by decide +kernel
theorem dX11_count_109 : decode cX11_count 109 = .ok (.getfield 12, 3) := by decide +kernel
theorem dX11_count_112 : decode cX11_count 112 = .ok (.invokevirtual 265, 3) := by decide +kernel
theorem dX11_count_115 : decode cX11_count 115 = .ok (.ireturn, 1) := by decide +kernel
theorem dX11_count_116 : decode cX11_count 116 = .ok (.aload_n 0, 1) := by decide +kernel
theorem dX11_count_117 : decode cX11_count 117 = .ok (.getfield 19, 3) := by decide +kernel
theorem dX11_count_120 : decode cX11_count 120 = .ok (.invokevirtual 266, 3) := by decide +kernel
theorem dX11_count_123 : decode cX11_count 123 = .ok (.ireturn, 1) := by decide +kernel
theorem dX11_count_124 : decode cX11_count 124 = .ok (.iconst (-1), 1) := by decide +kernel
theorem dX11_count_125 : decode cX11_count 125 = .ok (.ireturn, 1) := by decide +kernel
theorem dX11_row_0 : decode cX11_row 0 = .ok (.aload_n 0, 1) := by decide +kernel
theorem dX11_row_1 : decode cX11_row 1 = .ok (.getfield 12, 3) := by decide +kernel
theorem dX11_row_4 : decode cX11_row 4 = .ok (.iload_n 1, 1) := by decide +kernel
theorem dX11_row_5 : decode cX11_row 5 = .ok (.invokevirtual 267, 3) := by decide +kernel
theorem dX11_row_8 : decode cX11_row 8 = .ok (.ifCond .ne 11, 3) := by decide +kernel
theorem dX11_row_11 : decode cX11_row 11 = .ok (.new 206, 3) := by decide +kernel
theorem dX11_row_14 : decode cX11_row 14 = .ok (.dup, 1) := by decide +kernel
theorem dX11_row_15 : decode cX11_row 15 = .ok (.invokespecial 208, 3) := by decide +kernel
theorem dX11_row_18 : decode cX11_row 18 = .ok (.athrow, 1) := by decide +kernel
theorem dX11_row_19 : decode cX11_row 19 = .ok (.aload_n 0, 1) := by decide +kernel
theorem dX11_row_20 : decode cX11_row 20 = .ok (.getfield 12, 3) := by decide +kernel
theorem dX11_row_23 : decode cX11_row 23 = .ok (.iload_n 1, 1) := by decide +kernel
theorem dX11_row_24 : decode cX11_row 24 = .ok (.invokevirtual 270, 3) := by decide +kernel
theorem dX11_row_27 : decode cX11_row 27 = .ok (.lreturn, 1) := by decide +kernel
theorem dX11_between_0 : decode cX11_between 0 = .ok (.iload_n 0, 1) := by decide +kernel
theorem dX11_between_1 : decode cX11_between 1 = .ok (.iload_n 1, 1) := by decide +kernel
theorem dX11_between_2 : decode cX11_between 2 = .ok (.if_icmp .lt 12, 3) := by decide +kernel
theorem dX11_between_5 : decode cX11_between 5 = .ok (.iload_n 0, 1) := by decide +kernel
theorem dX11_between_6 : decode cX11_between 6 = .ok (.iload_n 2, 1) := by decide +kernel
theorem dX11_between_7 : decode cX11_between 7 = .ok (.if_icmp .gt 7, 3) := by decide +kernel
theorem dX11_between_10 : decode cX11_between 10 = .ok (.iconst 1, 1) := by decide +kernel
theorem dX11_between_11 : decode cX11_between 11 = .ok (.goto 4, 3) := by decide +kernel
theorem dX11_between_14 : decode cX11_between 14 = .ok (.iconst 0, 1) := by decide +kernel
theorem dX11_between_15 : decode cX11_between 15 = .ok (.ireturn, 1) := by decide +kernel
theorem dX11_within_0 : decode cX11_within 0 = .ok (.iload_n 0, 1) := by decide +kernel
theorem dX11_within_1 : decode cX11_within 1 = .ok (.iload_n 1, 1) := by decide +kernel
theorem dX11_within_2 : decode cX11_within 2 = .ok (.if_icmp .ge 7, 3) := by decide +kernel
theorem dX11_within_5 : decode cX11_within 5 = .ok (.iload_n 1, 1) := by decide +kernel
theorem dX11_within_6 : decode cX11_within 6 = .ok (.goto 13, 3) := by decide +kernel
theorem dX11_within_9 : decode cX11_within 9 = .ok (.iload_n 0, 1) := by decide +kernel
theorem dX11_within_10 : decode cX11_within 10 = .ok (.iload_n 2, 1) := by decide +kernel
theorem dX11_within_11 : decode cX11_within 11 = .ok (.if_icmp .le 7, 3) := by decide +kernel
theorem dX11_within_14 : decode cX11_within 14 = .ok (.iload_n 2, 1) := by decide +kernel
theorem dX11_within_15 : decode cX11_within 15 = .ok (.goto 4, 3) := by decide +kernel
theorem dX11_within_18 : decode cX11_within 18 = .ok (.iload_n 0, 1) := by decide +kernel
theorem dX11_within_19 : decode cX11_within 19 = .ok (.ireturn, 1) := by decide +kernel
theorem dX11_hasBit_0 : decode cX11_hasBit 0 = .ok (.iload_n 0, 1) := by decide +kernel
theorem dX11_hasBit_1 : decode cX11_hasBit 1 = .ok (.iload_n 1, 1) := by decide +kernel
theorem dX11_hasBit_2 : decode cX11_hasBit 2 = .ok (.ishr, 1) := by decide +kernel
theorem dX11_hasBit_3 : decode cX11_hasBit 3 = .ok (.iconst 1, 1) := by decide +kernel
theorem dX11_hasBit_4 : decode cX11_hasBit 4 = .ok (.iand, 1) := by decide +kernel
theorem dX11_hasBit_5 : decode cX11_hasBit 5 = .ok (.iconst 1, 1) := by decide +kernel
theorem dX11_hasBit_6 : decode cX11_hasBit 6 = .ok (.if_icmp .ne 7, 3) := by decide +kernel
theorem dX11_hasBit_9 : decode cX11_hasBit 9 = .ok (.iconst 1, 1) := by decide +kernel
theorem dX11_hasBit_10 : decode cX11_hasBit 10 = .ok (.goto 4, 3) := by decide +kernel
theorem dX11_hasBit_13 : decode cX11_hasBit 13 = .ok (.iconst 0, 1) := by decide +kernel
theorem dX11_hasBit_14 : decode cX11_hasBit 14 = .ok (.ireturn, 1) := by decide +kernel
theorem dX11_isKind_0 : decode cX11_isKind 0 = .ok (.iload_n 0, 1) := by decide +kernel
theorem dX11_isKind_1 : decode cX11_isKind 1 = .ok (.iconst 0, 1) := by decide +kernel
theorem dX11_isKind_2 : decode cX11_isKind 2 = .ok (.iconst 5, 1) := by decide +kernel
theorem dX11_isKind_3 : decode cX11_isKind 3 = .ok (.invokestatic 107, 3) := by decide +kernel
theorem dX11_isKind_6 : decode cX11_isKind 6 = .ok (.ireturn, 1) := by decide +kernel
theorem dX11_isWay_0 : decode cX11_isWay 0 = .ok (.iload_n 0, 1) := by decide +kernel
theorem dX11_isWay_1 : decode cX11_isWay 1 = .ok (.iconst 0, 1) := by decide +kernel
theorem dX11_isWay_2 : decode cX11_isWay 2 = .ok (.iconst 3, 1) := by decide +kernel
theorem dX11_isWay_3 : decode cX11_isWay 3 = .ok (.invokestatic 107, 3) := by decide +kernel
theorem dX11_isWay_6 : decode cX11_isWay 6 = .ok (.ireturn, 1) := by decide +kernel
theorem dX11_isWeek_0 : decode cX11_isWeek 0 = .ok (.iload_n 0, 1) := by decide +kernel
theorem dX11_isWeek_1 : decode cX11_isWeek 1 = .ok (.iconst 0, 1) := by decide +kernel
theorem dX11_isWeek_2 : decode cX11_isWeek 2 = .ok (.bipush 11, 2) := by decide +kernel
theorem dX11_isWeek_4 : decode cX11_isWeek 4 = .ok (.invokestatic 107, 3) := by decide +kernel
theorem dX11_isWeek_7 : decode cX11_isWeek 7 = .ok (.ireturn, 1) := by decide +kernel
theorem dX11_compareFractions_0 : decode cX11_compareFractions 0 = .ok (.lload_n 0, 1) := by decide +kernel
theorem dX11_compareFractions_1 : decode cX11_compareFractions 1 = .ok (.lload 6, 2) := by decide +kernel
theorem dX11_compareFractions_3 : decode cX11_compareFractions 3 = .ok (.lmul, 1) := by decide +kernel
theorem dX11_compareFractions_4 : decode cX11_compareFractions 4 = .ok (.lload 4, 2) := by decide +kernel
theorem dX11_compareFractions_6 : decode cX11_compareFractions 6 = .ok (.lload_n 2, 1) := by decide +kernel
theorem dX11_compareFractions_7 : decode cX11_compareFractions 7 = .ok (.lmul, 1) := by decide +kernel
theorem dX11_compareFractions_8 : decode cX11_compareFractions 8 = .ok (.invokestatic 274, 3) := by decide +kernel
theorem dX11_compareFractions_11 : decode cX11_compareFractions 11 = .ok (.ireturn, 1) := by decide +kernel
theorem dX11_commonDivisor_0 : decode cX11_commonDivisor 0 = .ok (.lload_n 0, 1) := by decide +kernel
theorem dX11_commonDivisor_1 : decode cX11_commonDivisor 1 = .ok (.invokestatic 280, 3) := by decide +kernel
theorem dX11_commonDivisor_4 : decode cX11_commonDivisor 4 = .ok (.lstore 4, 2) := by decide +kernel
theorem dX11_commonDivisor_6 : decode cX11_commonDivisor 6 = .ok (.lload_n 2, 1) := by decide +kernel
theorem dX11_commonDivisor_7 : decode cX11_commonDivisor 7 = .ok (.invokestatic 280, 3) := by decide +kernel
theorem dX11_commonDivisor_10 : decode cX11_commonDivisor 10 = .ok (.lstore 6, 2) := by decide +kernel
theorem dX11_commonDivisor_12 : decode cX11_commonDivisor 12 = .ok (.iconst 0, 1) := by decide +kernel
theorem dX11_commonDivisor_13 : decode cX11_commonDivisor 13 = .ok (.istore 8, 2) := by decide +kernel
theorem dX11_commonDivisor_15 : decode cX11_commonDivisor 15 = .ok (.iload 8, 2) := by decide +kernel
theorem dX11_commonDivisor_17 : decode cX11_commonDivisor 17 = .ok (.bipush 100, 2) := by decide +kernel
theorem dX11_commonDivisor_19 : decode cX11_commonDivisor 19 = .ok (.if_icmp .ge 31, 3) := by decide +kernel
theorem dX11_commonDivisor_22 : decode cX11_commonDivisor 22 = .ok (.lload 6, 2) := by decide +kernel
theorem dX11_commonDivisor_24 : decode cX11_commonDivisor 24 = .ok (.lconst 0, 1) := by decide +kernel
theorem dX11_commonDivisor_25 : decode cX11_commonDivisor 25 = .ok (.lcmp, 1) := by decide +kernel
theorem dX11_commonDivisor_26 : decode cX11_commonDivisor 26 = .ok (.ifCond .eq 24, 3) := by decide +kernel
theorem dX11_commonDivisor_29 : decode cX11_commonDivisor 29 = .ok (.lload 4, 2) := by decide +kernel
theorem dX11_commonDivisor_31 : decode cX11_commonDivisor 31 = .ok (.lload 6, 2) := by decide +kernel
theorem dX11_commonDivisor_33 : decode cX11_commonDivisor 33 = .ok (.lrem, 1) := by decide +kernel
theorem dX11_commonDivisor_34 : decode cX11_commonDivisor 34 = .ok (.lstore 9, 2) := by decide +kernel
theorem dX11_commonDivisor_36 : decode cX11_commonDivisor 36 = .ok (.lload 6, 2) := by decide +kernel
theorem dX11_commonDivisor_38 : decode cX11_commonDivisor 38 = .ok (.lstore 4, 2) := by decide +kernel
theorem dX11_commonDivisor_40 : decode cX11_commonDivisor 40 = .ok (.lload 9, 2) := by decide +kernel
theorem dX11_commonDivisor_42 : decode cX11_commonDivisor 42 = .ok (.lstore 6, 2) := by decide +kernel
theorem dX11_commonDivisor_44 : decode cX11_commonDivisor 44 = .ok (.iinc 8 1, 3) := by decide +kernel
theorem dX11_commonDivisor_47 : decode cX11_commonDivisor 47 = .ok (.goto (-32), 3) := by decide +kernel
theorem dX11_commonDivisor_50 : decode cX11_commonDivisor 50 = .ok (.lload 4, 2) := by decide +kernel
theorem dX11_commonDivisor_52 : decode cX11_commonDivisor 52 = .ok (.lreturn, 1) := by decide +kernel
