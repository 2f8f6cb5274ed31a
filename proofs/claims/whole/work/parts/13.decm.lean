theorem dX12_thrown_0 : decode cX12_thrown 0 = .ok (.aload_n 0, 1) := by decide +kernel
theorem dX12_thrown_1 : decode cX12_thrown 1 = .ok (.getfield 3, 3) := by decide +kernel
theorem dX12_thrown_4 : decode cX12_thrown 4 = .ok (.ireturn, 1) := by decide +kernel
theorem dX12_in_0 : decode cX12_in 0 = .ok (.lload_n 0, 1) := by decide +kernel
theorem dX12_in_1 : decode cX12_in 1 = .ok (.lload_n 2, 1) := by decide +kernel
theorem dX12_in_2 : decode cX12_in 2 = .ok (.lcmp, 1) := by decide +kernel
theorem dX12_in_3 : decode cX12_in 3 = .ok (.ifCond .lt 14, 3) := by decide +kernel
theorem dX12_in_6 : decode cX12_in 6 = .ok (.lload_n 0, 1) := by decide +kernel
theorem dX12_in_7 : decode cX12_in 7 = .ok (.lload 4, 2) := by decide +kernel
theorem dX12_in_9 : decode cX12_in 9 = .ok (.lcmp, 1) := by decide +kernel
theorem dX12_in_10 : decode cX12_in 10 = .ok (.ifCond .gt 7, 3) := by decide +kernel
theorem dX12_in_13 : decode cX12_in 13 = .ok (.iconst 1, 1) := by decide +kernel
theorem dX12_in_14 : decode cX12_in 14 = .ok (.goto 4, 3) := by decide +kernel
theorem dX12_in_17 : decode cX12_in 17 = .ok (.iconst 0, 1) := by decide +kernel
theorem dX12_in_18 : decode cX12_in 18 = .ok (.ireturn, 1) := by decide +kernel
theorem dX12_has_0 : decode cX12_has 0 = .ok (.iload_n 0, 1) := by decide +kernel
theorem dX12_has_1 : decode cX12_has 1 = .ok (.iload_n 1, 1) := by decide +kernel
theorem dX12_has_2 : decode cX12_has 2 = .ok (.ishr, 1) := by decide +kernel
theorem dX12_has_3 : decode cX12_has 3 = .ok (.iconst 1, 1) := by decide +kernel
theorem dX12_has_4 : decode cX12_has 4 = .ok (.iand, 1) := by decide +kernel
theorem dX12_has_5 : decode cX12_has 5 = .ok (.iconst 1, 1) := by decide +kernel
theorem dX12_has_6 : decode cX12_has 6 = .ok (.if_icmp .ne 7, 3) := by decide +kernel
theorem dX12_has_9 : decode cX12_has 9 = .ok (.iconst 1, 1) := by decide +kernel
theorem dX12_has_10 : decode cX12_has 10 = .ok (.goto 4, 3) := by decide +kernel
theorem dX12_has_13 : decode cX12_has 13 = .ok (.iconst 0, 1) := by decide +kernel
theorem dX12_has_14 : decode cX12_has 14 = .ok (.ireturn, 1) := by decide +kernel
theorem dX12_flag_0 : decode cX12_flag 0 = .ok (.iload_n 0, 1) := by decide +kernel
theorem dX12_flag_1 : decode cX12_flag 1 = .ok (.ifCond .eq 7, 3) := by decide +kernel
theorem dX12_flag_4 : decode cX12_flag 4 = .ok (.iconst 1, 1) := by decide +kernel
theorem dX12_flag_5 : decode cX12_flag 5 = .ok (.goto 4, 3) := by decide +kernel
theorem dX12_flag_8 : decode cX12_flag 8 = .ok (.iconst 0, 1) := by decide +kernel
theorem dX12_flag_9 : decode cX12_flag 9 = .ok (.ireturn, 1) := by decide +kernel
theorem dX12_enters_0 : decode cX12_enters 0 = .ok (.aload_n 0, 1) := by decide +kernel
theorem dX12_enters_1 : decode cX12_enters 1 = .ok (.getfield 7, 3) := by decide +kernel
theorem dX12_enters_4 : decode cX12_enters 4 = .ok (.aload_n 0, 1) := by decide +kernel
theorem dX12_enters_5 : decode cX12_enters 5 = .ok (.getfield 11, 3) := by decide +kernel
theorem dX12_enters_8 : decode cX12_enters 8 = .ok (.lload_n 1, 1) := by decide +kernel
theorem dX12_enters_9 : decode cX12_enters 9 = .ok (.lastore, 1) := by decide +kernel
theorem dX12_enters_10 : decode cX12_enters 10 = .ok (.aload_n 0, 1) := by decide +kernel
theorem dX12_enters_11 : decode cX12_enters 11 = .ok (.dup, 1) := by decide +kernel
theorem dX12_enters_12 : decode cX12_enters 12 = .ok (.getfield 11, 3) := by decide +kernel
theorem dX12_enters_15 : decode cX12_enters 15 = .ok (.iconst 1, 1) := by decide +kernel
theorem dX12_enters_16 : decode cX12_enters 16 = .ok (.iadd, 1) := by decide +kernel
theorem dX12_enters_17 : decode cX12_enters 17 = .ok (.putfield 11, 3) := by decide +kernel
theorem dX12_enters_20 : decode cX12_enters 20 = .ok (.return_, 1) := by decide +kernel
theorem dX12_common_0 : decode cX12_common 0 = .ok (.lload_n 0, 1) := by decide +kernel
theorem dX12_common_1 : decode cX12_common 1 = .ok (.lconst 0, 1) := by decide +kernel
theorem dX12_common_2 : decode cX12_common 2 = .ok (.lcmp, 1) := by decide +kernel
theorem dX12_common_3 : decode cX12_common 3 = .ok (.ifCond .ge 8, 3) := by decide +kernel
theorem dX12_common_6 : decode cX12_common 6 = .ok (.lload_n 0, 1) := by decide +kernel
theorem dX12_common_7 : decode cX12_common 7 = .ok (.lneg, 1) := by decide +kernel
theorem dX12_common_8 : decode cX12_common 8 = .ok (.goto 4, 3) := by decide +kernel
theorem dX12_common_11 : decode cX12_common 11 = .ok (.lload_n 0, 1) := by decide +kernel
theorem dX12_common_12 : decode cX12_common 12 = .ok (.lstore 4, 2) := by decide +kernel
theorem dX12_common_14 : decode cX12_common 14 = .ok (.lload_n 2, 1) := by decide +kernel
theorem dX12_common_15 : decode cX12_common 15 = .ok (.lconst 0, 1) := by decide +kernel
theorem dX12_common_16 : decode cX12_common 16 = .ok (.lcmp, 1) := by decide +kernel
theorem dX12_common_17 : decode cX12_common 17 = .ok (.ifCond .ge 8, 3) := by decide +kernel
theorem dX12_common_20 : decode cX12_common 20 = .ok (.lload_n 2, 1) := by decide +kernel
theorem dX12_common_21 : decode cX12_common 21 = .ok (.lneg, 1) := by decide +kernel
theorem dX12_common_22 : decode cX12_common 22 = .ok (.goto 4, 3) := by decide +kernel
theorem dX12_common_25 : decode cX12_common 25 = .ok (.lload_n 2, 1) := by decide +kernel
theorem dX12_common_26 : decode cX12_common 26 = .ok (.lstore 6, 2) := by decide +kernel
theorem dX12_common_28 : decode cX12_common 28 = .ok (.lload 6, 2) := by decide +kernel
theorem dX12_common_30 : decode cX12_common 30 = .ok (.lconst 0, 1) := by decide +kernel
theorem dX12_common_31 : decode cX12_common 31 = .ok (.lcmp, 1) := by decide +kernel
theorem dX12_common_32 : decode cX12_common 32 = .ok (.ifCond .eq 21, 3) := by decide +kernel
theorem dX12_common_35 : decode cX12_common 35 = .ok (.lload 4, 2) := by decide +kernel
theorem dX12_common_37 : decode cX12_common 37 = .ok (.lload 6, 2) := by decide +kernel
theorem dX12_common_39 : decode cX12_common 39 = .ok (.lrem, 1) := by decide +kernel
theorem dX12_common_40 : decode cX12_common 40 = .ok (.lstore 8, 2) := by decide +kernel
theorem dX12_common_42 : decode cX12_common 42 = .ok (.lload 6, 2) := by decide +kernel
theorem dX12_common_44 : decode cX12_common 44 = .ok (.lstore 4, 2) := by decide +kernel
theorem dX12_common_46 : decode cX12_common 46 = .ok (.lload 8, 2) := by decide +kernel
theorem dX12_common_48 : decode cX12_common 48 = .ok (.lstore 6, 2) := by decide +kernel
theorem dX12_common_50 : decode cX12_common 50 = .ok (.goto (-22), 3) := by decide +kernel
theorem dX12_common_53 : decode cX12_common 53 = .ok (.lload 4, 2) := by decide +kernel
theorem dX12_common_55 : decode cX12_common 55 = .ok (.lreturn, 1) := by decide +kernel
theorem dX12_entersFraction_0 : decode cX12_entersFraction 0 = .ok (.lload_n 3, 1) := by decide +kernel
theorem dX12_entersFraction_1 : decode cX12_entersFraction 1 = .ok (.lconst 0, 1) := by decide +kernel
theorem dX12_entersFraction_2 : decode cX12_entersFraction 2 = .ok (.lcmp, 1) := by decide +kernel
theorem dX12_entersFraction_3 : decode cX12_entersFraction 3 = .ok (.ifCond .ge 12, 3) := by decide +kernel
theorem dX12_entersFraction_6 : decode cX12_entersFraction 6 = .ok (.lload_n 1, 1) := by decide +kernel
theorem dX12_entersFraction_7 : decode cX12_entersFraction 7 = .ok (.lload_n 3, 1) := by decide +kernel
theorem dX12_entersFraction_8 : decode cX12_entersFraction 8 = .ok (.invokestatic 14, 3) := by decide +kernel
theorem dX12_entersFraction_11 : decode cX12_entersFraction 11 = .ok (.lneg, 1) := by decide +kernel
theorem dX12_entersFraction_12 : decode cX12_entersFraction 12 = .ok (.goto 8, 3) := by decide +kernel
theorem dX12_entersFraction_15 : decode cX12_entersFraction 15 = .ok (.lload_n 1, 1) := by decide +kernel
theorem dX12_entersFraction_16 : decode cX12_entersFraction 16 = .ok (.lload_n 3, 1) := by decide +kernel
theorem dX12_entersFraction_17 : decode cX12_entersFraction 17 = .ok (.invokestatic 14, 3) := by decide +kernel
theorem dX12_entersFraction_20 : decode cX12_entersFraction 20 = .ok (.lstore 5, 2) := by decide +kernel
theorem dX12_entersFraction_22 : decode cX12_entersFraction 22 = .ok (.aload_n 0, 1) := by decide +kernel
theorem dX12_entersFraction_23 : decode cX12_entersFraction 23 = .ok (.lload_n 1, 1) := by decide +kernel
theorem dX12_entersFraction_24 : decode cX12_entersFraction 24 = .ok (.lload 5, 2) := by decide +kernel
theorem dX12_entersFraction_26 : decode cX12_entersFraction 26 = .ok (.ldiv, 1) := by decide +kernel
theorem dX12_entersFraction_27 : decode cX12_entersFraction 27 = .ok (.invokevirtual 18, 3) := by decide +kernel
theorem dX12_entersFraction_30 : decode cX12_entersFraction 30 = .ok (.aload_n 0, 1) := by decide +kernel
theorem dX12_entersFraction_31 : decode cX12_entersFraction 31 = .ok (.lload_n 3, 1) := by decide +kernel
theorem dX12_entersFraction_32 : decode cX12_entersFraction 32 = .ok (.lload 5, 2) := by decide +kernel
theorem dX12_entersFraction_34 : decode cX12_entersFraction 34 = .ok (.ldiv, 1) := by decide +kernel
theorem dX12_entersFraction_35 : decode cX12_entersFraction 35 = .ok (.invokevirtual 18, 3) := by decide +kernel
theorem dX12_entersFraction_38 : decode cX12_entersFraction 38 = .ok (.return_, 1) := by decide +kernel
theorem dX12_isSort_0 : decode cX12_isSort 0 = .ok (.iload_n 1, 1) := by decide +kernel
theorem dX12_isSort_1 : decode cX12_isSort 1 = .ok (.i2l, 1) := by decide +kernel
theorem dX12_isSort_2 : decode cX12_isSort 2 = .ok (.lconst 0, 1) := by decide +kernel
theorem dX12_isSort_3 : decode cX12_isSort 3 = .ok (.aload_n 0, 1) := by decide +kernel
theorem dX12_isSort_4 : decode cX12_isSort 4 = .ok (.getfield 22, 3) := by decide +kernel
theorem dX12_isSort_7 : decode cX12_isSort 7 = .ok (.iconst 1, 1) := by decide +kernel
theorem dX12_isSort_8 : decode cX12_isSort 8 = .ok (.isub, 1) := by decide +kernel
theorem dX12_isSort_9 : decode cX12_isSort 9 = .ok (.i2l, 1) := by decide +kernel
theorem dX12_isSort_10 : decode cX12_isSort 10 = .ok (.invokestatic 25, 3) := by decide +kernel
theorem dX12_isSort_13 : decode cX12_isSort 13 = .ok (.ireturn, 1) := by decide +kernel
theorem dX12_isStreet_0 : decode cX12_isStreet 0 = .ok (.iload_n 1, 1) := by decide +kernel
theorem dX12_isStreet_1 : decode cX12_isStreet 1 = .ok (.i2l, 1) := by decide +kernel
theorem dX12_isStreet_2 : decode cX12_isStreet 2 = .ok (.lconst 0, 1) := by decide +kernel
theorem dX12_isStreet_3 : decode cX12_isStreet 3 = .ok (.aload_n 0, 1) := by decide +kernel
theorem dX12_isStreet_4 : decode cX12_isStreet 4 = .ok (.getfield 29, 3) := by decide +kernel
theorem dX12_isStreet_7 : decode cX12_isStreet 7 = .ok (.iconst 1, 1) := by decide +kernel
theorem dX12_isStreet_8 : decode cX12_isStreet 8 = .ok (.isub, 1) := by decide +kernel
theorem dX12_isStreet_9 : decode cX12_isStreet 9 = .ok (.i2l, 1) := by decide +kernel
theorem dX12_isStreet_10 : decode cX12_isStreet 10 = .ok (.invokestatic 25, 3) := by decide +kernel
theorem dX12_isStreet_13 : decode cX12_isStreet 13 = .ok (.ireturn, 1) := by decide +kernel
theorem dX12_isWeek_0 : decode cX12_isWeek 0 = .ok (.iload_n 0, 1) := by decide +kernel
theorem dX12_isWeek_1 : decode cX12_isWeek 1 = .ok (.i2l, 1) := by decide +kernel
theorem dX12_isWeek_2 : decode cX12_isWeek 2 = .ok (.lconst 0, 1) := by decide +kernel
theorem dX12_isWeek_3 : decode cX12_isWeek 3 = .ok (.ldc2_w 32, 3) := by decide +kernel
theorem dX12_isWeek_6 : decode cX12_isWeek 6 = .ok (.invokestatic 25, 3) := by decide +kernel
theorem dX12_isWeek_9 : decode cX12_isWeek 9 = .ok (.ireturn, 1) := by decide +kernel
theorem dX12_isKind_0 : decode cX12_isKind 0 = .ok (.iload_n 0, 1) := by decide +kernel
theorem dX12_isKind_1 : decode cX12_isKind 1 = .ok (.i2l, 1) := by decide +kernel
theorem dX12_isKind_2 : decode cX12_isKind 2 = .ok (.lconst 0, 1) := by decide +kernel
theorem dX12_isKind_3 : decode cX12_isKind 3 = .ok (.ldc2_w 34, 3) := by decide +kernel
theorem dX12_isKind_6 : decode cX12_isKind 6 = .ok (.invokestatic 25, 3) := by decide +kernel
theorem dX12_isKind_9 : decode cX12_isKind 9 = .ok (.ireturn, 1) := by decide +kernel
theorem dX12_isCell_0 : decode cX12_isCell 0 = .ok (.iload_n 1, 1) := by decide +kernel
theorem dX12_isCell_1 : decode cX12_isCell 1 = .ok (.i2l, 1) := by decide +kernel
theorem dX12_isCell_2 : decode cX12_isCell 2 = .ok (.lconst 0, 1) := by decide +kernel
theorem dX12_isCell_3 : decode cX12_isCell 3 = .ok (.bipush 12, 2) := by decide +kernel
theorem dX12_isCell_5 : decode cX12_isCell 5 = .ok (.aload_n 0, 1) := by decide +kernel
theorem dX12_isCell_6 : decode cX12_isCell 6 = .ok (.getfield 29, 3) := by decide +kernel
theorem dX12_isCell_9 : decode cX12_isCell 9 = .ok (.imul, 1) := by decide +kernel
theorem dX12_isCell_10 : decode cX12_isCell 10 = .ok (.iconst 1, 1) := by decide +kernel
theorem dX12_isCell_11 : decode cX12_isCell 11 = .ok (.isub, 1) := by decide +kernel
theorem dX12_isCell_12 : decode cX12_isCell 12 = .ok (.i2l, 1) := by decide +kernel
theorem dX12_isCell_13 : decode cX12_isCell 13 = .ok (.invokestatic 25, 3) := by decide +kernel
theorem dX12_isCell_16 : decode cX12_isCell 16 = .ok (.ireturn, 1) := by decide +kernel
theorem dX12_isWay_0 : decode cX12_isWay 0 = .ok (.iload_n 0, 1) := by decide +kernel
theorem dX12_isWay_1 : decode cX12_isWay 1 = .ok (.i2l, 1) := by decide +kernel
theorem dX12_isWay_2 : decode cX12_isWay 2 = .ok (.lconst 0, 1) := by decide +kernel
theorem dX12_isWay_3 : decode cX12_isWay 3 = .ok (.ldc2_w 36, 3) := by decide +kernel
theorem dX12_isWay_6 : decode cX12_isWay 6 = .ok (.invokestatic 25, 3) := by decide +kernel
theorem dX12_isWay_9 : decode cX12_isWay 9 = .ok (.ireturn, 1) := by decide +kernel
theorem dX12_sort_0 : decode cX12_sort 0 = .ok (.aload_n 0, 1) := by decide +kernel
theorem dX12_sort_1 : decode cX12_sort 1 = .ok (.iconst 0, 1) := by decide +kernel
theorem dX12_sort_2 : decode cX12_sort 2 = .ok (.putfield 3, 3) := by decide +kernel
theorem dX12_sort_5 : decode cX12_sort 5 = .ok (.iload_n 1, 1) := by decide +kernel
theorem dX12_sort_6 : decode cX12_sort 6 = .ok (.i2l, 1) := by decide +kernel
theorem dX12_sort_7 : decode cX12_sort 7 = .ok (.lconst 1, 1) := by decide +kernel
theorem dX12_sort_8 : decode cX12_sort 8 = .ok (.ldc2_w 38, 3) := by decide +kernel
theorem dX12_sort_11 : decode cX12_sort 11 = .ok (.invokestatic 25, 3) := by decide +kernel
theorem dX12_sort_14 : decode cX12_sort 14 = .ok (.ifCond .eq 38, 3) := by decide +kernel
theorem dX12_sort_17 : decode cX12_sort 17 = .ok (.iload_n 2, 1) := by decide +kernel
theorem dX12_sort_18 : decode cX12_sort 18 = .ok (.i2l, 1) := by decide +kernel
theorem dX12_sort_19 : decode cX12_sort 19 = .ok (.ldc2_w 40, 3) := by decide +kernel
theorem dX12_sort_22 : decode cX12_sort 22 = .ok (.ldc2_w 34, 3) := by decide +kernel
theorem dX12_sort_25 : decode cX12_sort 25 = .ok (.invokestatic 25, 3) := by decide +kernel
theorem dX12_sort_28 : decode cX12_sort 28 = .ok (.ifCond .eq 24, 3) := by decide +kernel
theorem dX12_sort_31 : decode cX12_sort 31 = .ok (.iload_n 3, 1) := by decide +kernel
theorem dX12_sort_32 : decode cX12_sort 32 = .ok (.i2l, 1) := by decide +kernel
theorem dX12_sort_33 : decode cX12_sort 33 = .ok (.lconst 1, 1) := by decide +kernel
theorem dX12_sort_34 : decode cX12_sort 34 = .ok (.ldc2_w 38, 3) := by decide +kernel
theorem dX12_sort_37 : decode cX12_sort 37 = .ok (.invokestatic 25, 3) := by decide +kernel
theorem dX12_sort_40 : decode cX12_sort 40 = .ok (.ifCond .eq 12, 3) := by decide +kernel
theorem dX12_sort_43 : decode cX12_sort 43 = .ok (.aload_n 0, 1) := by decide +kernel
theorem dX12_sort_44 : decode cX12_sort 44 = .ok (.getfield 22, 3) := by decide +kernel
theorem dX12_sort_47 : decode cX12_sort 47 = .ok (.bipush 8, 2) := by decide +kernel
theorem dX12_sort_49 : decode cX12_sort 49 = .ok (.if_icmp .ne 5, 3) := by decide +kernel
theorem dX12_sort_52 : decode cX12_sort 52 = .ok (.iconst (-1), 1) := by decide +kernel
theorem dX12_sort_53 : decode cX12_sort 53 = .ok (.ireturn, 1) := by decide +kernel
theorem dX12_sort_54 : decode cX12_sort 54 = .ok (.aload_n 0, 1) := by decide +kernel
theorem dX12_sort_55 : decode cX12_sort 55 = .ok (.getfield 42, 3) := by decide +kernel
theorem dX12_sort_58 : decode cX12_sort 58 = .ok (.aload_n 0, 1) := by decide +kernel
theorem dX12_sort_59 : decode cX12_sort 59 = .ok (.getfield 22, 3) := by decide +kernel
theorem dX12_sort_62 : decode cX12_sort 62 = .ok (.iload_n 1, 1) := by decide +kernel
theorem dX12_sort_63 : decode cX12_sort 63 = .ok (.iastore, 1) := by decide +kernel
theorem dX12_sort_64 : decode cX12_sort 64 = .ok (.aload_n 0, 1) := by decide +kernel
theorem dX12_sort_65 : decode cX12_sort 65 = .ok (.getfield 46, 3) := by decide +kernel
theorem dX12_sort_68 : decode cX12_sort 68 = .ok (.aload_n 0, 1) := by decide +kernel
theorem dX12_sort_69 : decode cX12_sort 69 = .ok (.getfield 22, 3) := by decide +kernel
theorem dX12_sort_72 : decode cX12_sort 72 = .ok (.iload_n 2, 1) := by decide +kernel
theorem dX12_sort_73 : decode cX12_sort 73 = .ok (.iastore, 1) := by decide +kernel
theorem dX12_sort_74 : decode cX12_sort 74 = .ok (.aload_n 0, 1) := by decide +kernel
theorem dX12_sort_75 : decode cX12_sort 75 = .ok (.getfield 49, 3) := by decide +kernel
theorem dX12_sort_78 : decode cX12_sort 78 = .ok (.aload_n 0, 1) := by decide +kernel
theorem dX12_sort_79 : decode cX12_sort 79 = .ok (.getfield 22, 3) := by decide +kernel
theorem dX12_sort_82 : decode cX12_sort 82 = .ok (.iload_n 3, 1) := by decide +kernel
theorem dX12_sort_83 : decode cX12_sort 83 = .ok (.iastore, 1) := by decide +kernel
theorem dX12_sort_84 : decode cX12_sort 84 = .ok (.aload_n 0, 1) := by decide +kernel
theorem dX12_sort_85 : decode cX12_sort 85 = .ok (.dup, 1) := by decide +kernel
theorem dX12_sort_86 : decode cX12_sort 86 = .ok (.getfield 22, 3) := by decide +kernel
theorem dX12_sort_89 : decode cX12_sort 89 = .ok (.iconst 1, 1) := by decide +kernel
theorem dX12_sort_90 : decode cX12_sort 90 = .ok (.iadd, 1) := by decide +kernel
theorem dX12_sort_91 : decode cX12_sort 91 = .ok (.putfield 22, 3) := by decide +kernel
theorem dX12_sort_94 : decode cX12_sort 94 = .ok (.aload_n 0, 1) := by decide +kernel
theorem dX12_sort_95 : decode cX12_sort 95 = .ok (.getfield 22, 3) := by decide +kernel
theorem dX12_sort_98 : decode cX12_sort 98 = .ok (.iconst 1, 1) := by decide +kernel
theorem dX12_sort_99 : decode cX12_sort 99 = .ok (.isub, 1) := by decide +kernel
theorem dX12_sort_100 : decode cX12_sort 100 = .ok (.ireturn, 1) := by decide +kernel
theorem dX12_goes_0 : decode cX12_goes 0 = .ok (.aload_n 0, 1) := by decide +kernel
theorem dX12_goes_1 : decode cX12_goes 1 = .ok (.iconst 0, 1) := by decide +kernel
theorem dX12_goes_2 : decode cX12_goes 2 = .ok (.putfield 3, 3) := by decide +kernel
theorem dX12_goes_5 : decode cX12_goes 5 = .ok (.aload_n 0, 1) := by decide +kernel
theorem dX12_goes_6 : decode cX12_goes 6 = .ok (.iload_n 1, 1) := by decide +kernel
theorem dX12_goes_7 : decode cX12_goes 7 = .ok (.invokevirtual 52, 3) := by decide +kernel
theorem dX12_goes_10 : decode cX12_goes 10 = .ok (.ifCond .eq 44, 3) := by decide +kernel
theorem dX12_goes_13 : decode cX12_goes 13 = .ok (.iload_n 2, 1) := by decide +kernel
theorem dX12_goes_14 : decode cX12_goes 14 = .ok (.i2l, 1) := by decide +kernel
theorem dX12_goes_15 : decode cX12_goes 15 = .ok (.lconst 0, 1) := by decide +kernel
theorem dX12_goes_16 : decode cX12_goes 16 = .ok (.ldc2_w 38, 3) := by decide +kernel
theorem dX12_goes_19 : decode cX12_goes 19 = .ok (.invokestatic 25, 3) := by decide +kernel
theorem dX12_goes_22 : decode cX12_goes 22 = .ok (.ifCond .eq 32, 3) := by decide +kernel
theorem dX12_goes_25 : decode cX12_goes 25 = .ok (.iload_n 3, 1) := by decide +kernel
theorem dX12_goes_26 : decode cX12_goes 26 = .ok (.i2l, 1) := by decide +kernel
theorem dX12_goes_27 : decode cX12_goes 27 = .ok (.lconst 0, 1) := by decide +kernel
theorem dX12_goes_28 : decode cX12_goes 28 = .ok (.ldc2_w 38, 3) := by decide +kernel
theorem dX12_goes_31 : decode cX12_goes 31 = .ok (.invokestatic 25, 3) := by decide +kernel
theorem dX12_goes_34 : decode cX12_goes 34 = .ok (.ifCond .eq 20, 3) := by decide +kernel
theorem dX12_goes_37 : decode cX12_goes 37 = .ok (.iload 4, 2) := by decide +kernel
theorem dX12_goes_39 : decode cX12_goes 39 = .ok (.i2l, 1) := by decide +kernel
theorem dX12_goes_40 : decode cX12_goes 40 = .ok (.lconst 0, 1) := by decide +kernel
theorem dX12_goes_41 : decode cX12_goes 41 = .ok (.ldc2_w 38, 3) := by decide +kernel
theorem dX12_goes_44 : decode cX12_goes 44 = .ok (.invokestatic 25, 3) := by decide +kernel
theorem dX12_goes_47 : decode cX12_goes 47 = .ok (.ifCond .eq 7, 3) := by decide +kernel
theorem dX12_goes_50 : decode cX12_goes 50 = .ok (.iconst 1, 1) := by decide +kernel
theorem dX12_goes_51 : decode cX12_goes 51 = .ok (.goto 4, 3) := by decide +kernel
theorem dX12_goes_54 : decode cX12_goes 54 = .ok (.iconst 0, 1) := by decide +kernel
theorem dX12_goes_55 : decode cX12_goes 55 = .ok (.istore 5, 2) := by decide +kernel
theorem dX12_goes_57 : decode cX12_goes 57 = .ok (.iload 5, 2) := by decide +kernel
theorem dX12_goes_59 : decode cX12_goes 59 = .ok (.ifCond .eq 14, 3) := by decide +kernel
theorem dX12_goes_62 : decode cX12_goes 62 = .ok (.iload_n 2, 1) := by decide +kernel
theorem dX12_goes_63 : decode cX12_goes 63 = .ok (.iload_n 3, 1) := by decide +kernel
theorem dX12_goes_64 : decode cX12_goes 64 = .ok (.iadd, 1) := by decide +kernel
theorem dX12_goes_65 : decode cX12_goes 65 = .ok (.iload 4, 2) := by decide +kernel
theorem dX12_goes_67 : decode cX12_goes 67 = .ok (.iadd, 1) := by decide +kernel
theorem dX12_goes_68 : decode cX12_goes 68 = .ok (.bipush 100, 2) := by decide +kernel
theorem dX12_goes_70 : decode cX12_goes 70 = .ok (.if_icmp .le 5, 3) := by decide +kernel
theorem dX12_goes_73 : decode cX12_goes 73 = .ok (.iconst 0, 1) := by decide +kernel
theorem dX12_goes_74 : decode cX12_goes 74 = .ok (.ireturn, 1) := by decide +kernel
theorem dX12_goes_75 : decode cX12_goes 75 = .ok (.aload_n 0, 1) := by decide +kernel
theorem dX12_goes_76 : decode cX12_goes 76 = .ok (.getfield 56, 3) := by decide +kernel
theorem dX12_goes_79 : decode cX12_goes 79 = .ok (.iload_n 1, 1) := by decide +kernel
theorem dX12_goes_80 : decode cX12_goes 80 = .ok (.iload_n 2, 1) := by decide +kernel
theorem dX12_goes_81 : decode cX12_goes 81 = .ok (.iastore, 1) := by decide +kernel
theorem dX12_goes_82 : decode cX12_goes 82 = .ok (.aload_n 0, 1) := by decide +kernel
theorem dX12_goes_83 : decode cX12_goes 83 = .ok (.getfield 59, 3) := by decide +kernel
theorem dX12_goes_86 : decode cX12_goes 86 = .ok (.iload_n 1, 1) := by decide +kernel
theorem dX12_goes_87 : decode cX12_goes 87 = .ok (.iload_n 3, 1) := by decide +kernel
theorem dX12_goes_88 : decode cX12_goes 88 = .ok (.iastore, 1) := by decide +kernel
theorem dX12_goes_89 : decode cX12_goes 89 = .ok (.aload_n 0, 1) := by decide +kernel
theorem dX12_goes_90 : decode cX12_goes 90 = .ok (.getfield 62, 3) := by decide +kernel
theorem dX12_goes_93 : decode cX12_goes 93 = .ok (.iload_n 1, 1) := by decide +kernel
theorem dX12_goes_94 : decode cX12_goes 94 = .ok (.iload 4, 2) := by decide +kernel
theorem dX12_goes_96 : decode cX12_goes 96 = .ok (.iastore, 1) := by decide +kernel
theorem dX12_goes_97 : decode cX12_goes 97 = .ok (.iconst 1, 1) := by decide +kernel
theorem dX12_goes_98 : decode cX12_goes 98 = .ok (.ireturn, 1) := by decide +kernel
theorem dX12_street_0 : decode cX12_street 0 = .ok (.aload_n 0, 1) := by decide +kernel
theorem dX12_street_1 : decode cX12_street 1 = .ok (.iconst 0, 1) := by decide +kernel
theorem dX12_street_2 : decode cX12_street 2 = .ok (.putfield 3, 3) := by decide +kernel
theorem dX12_street_5 : decode cX12_street 5 = .ok (.iload_n 1, 1) := by decide +kernel
theorem dX12_street_6 : decode cX12_street 6 = .ok (.i2l, 1) := by decide +kernel
theorem dX12_street_7 : decode cX12_street 7 = .ok (.lconst 1, 1) := by decide +kernel
theorem dX12_street_8 : decode cX12_street 8 = .ok (.ldc2_w 38, 3) := by decide +kernel
theorem dX12_street_11 : decode cX12_street 11 = .ok (.invokestatic 25, 3) := by decide +kernel
theorem dX12_street_14 : decode cX12_street 14 = .ok (.ifCond .eq 12, 3) := by decide +kernel
theorem dX12_street_17 : decode cX12_street 17 = .ok (.aload_n 0, 1) := by decide +kernel
theorem dX12_street_18 : decode cX12_street 18 = .ok (.getfield 29, 3) := by decide +kernel
theorem dX12_street_21 : decode cX12_street 21 = .ok (.bipush 8, 2) := by decide +kernel
theorem dX12_street_23 : decode cX12_street 23 = .ok (.if_icmp .ne 5, 3) := by decide +kernel
theorem dX12_street_26 : decode cX12_street 26 = .ok (.iconst (-1), 1) := by decide +kernel
theorem dX12_street_27 : decode cX12_street 27 = .ok (.ireturn, 1) := by decide +kernel
theorem dX12_street_28 : decode cX12_street 28 = .ok (.aload_n 0, 1) := by decide +kernel
theorem dX12_street_29 : decode cX12_street 29 = .ok (.getfield 65, 3) := by decide +kernel
theorem dX12_street_32 : decode cX12_street 32 = .ok (.aload_n 0, 1) := by decide +kernel
theorem dX12_street_33 : decode cX12_street 33 = .ok (.getfield 29, 3) := by decide +kernel
theorem dX12_street_36 : decode cX12_street 36 = .ok (.iload_n 1, 1) := by decide +kernel
theorem dX12_street_37 : decode cX12_street 37 = .ok (.iastore, 1) := by decide +kernel
theorem dX12_street_38 : decode cX12_street 38 = .ok (.aload_n 0, 1) := by decide +kernel
theorem dX12_street_39 : decode cX12_street 39 = .ok (.dup, 1) := by decide +kernel
theorem dX12_street_40 : decode cX12_street 40 = .ok (.getfield 29, 3) := by decide +kernel
theorem dX12_street_43 : decode cX12_street 43 = .ok (.iconst 1, 1) := by decide +kernel
theorem dX12_street_44 : decode cX12_street 44 = .ok (.iadd, 1) := by decide +kernel
theorem dX12_street_45 : decode cX12_street 45 = .ok (.putfield 29, 3) := by decide +kernel
theorem dX12_street_48 : decode cX12_street 48 = .ok (.aload_n 0, 1) := by decide +kernel
theorem dX12_street_49 : decode cX12_street 49 = .ok (.getfield 29, 3) := by decide +kernel
theorem dX12_street_52 : decode cX12_street 52 = .ok (.iconst 1, 1) := by decide +kernel
theorem dX12_street_53 : decode cX12_street 53 = .ok (.isub, 1) := by decide +kernel
theorem dX12_street_54 : decode cX12_street 54 = .ok (.ireturn, 1) := by decide +kernel
theorem dX12_lack_0 : decode cX12_lack 0 = .ok (.aload_n 0, 1) := by decide +kernel
theorem dX12_lack_1 : decode cX12_lack 1 = .ok (.iconst 0, 1) := by decide +kernel
theorem dX12_lack_2 : decode cX12_lack 2 = .ok (.putfield 3, 3) := by decide +kernel
theorem dX12_lack_5 : decode cX12_lack 5 = .ok (.aload_n 0, 1) := by decide +kernel
theorem dX12_lack_6 : decode cX12_lack 6 = .ok (.iload_n 1, 1) := by decide +kernel
theorem dX12_lack_7 : decode cX12_lack 7 = .ok (.invokevirtual 52, 3) := by decide +kernel
theorem dX12_lack_10 : decode cX12_lack 10 = .ok (.ifCond .eq 10, 3) := by decide +kernel
theorem dX12_lack_13 : decode cX12_lack 13 = .ok (.iload_n 2, 1) := by decide +kernel
theorem dX12_lack_14 : decode cX12_lack 14 = .ok (.invokestatic 68, 3) := by decide +kernel
theorem dX12_lack_17 : decode cX12_lack 17 = .ok (.ifCond .ne 5, 3) := by decide +kernel
theorem dX12_lack_20 : decode cX12_lack 20 = .ok (.iconst 0, 1) := by decide +kernel
theorem dX12_lack_21 : decode cX12_lack 21 = .ok (.ireturn, 1) := by decide +kernel
theorem dX12_lack_22 : decode cX12_lack 22 = .ok (.aload_n 0, 1) := by decide +kernel
theorem dX12_lack_23 : decode cX12_lack 23 = .ok (.getfield 71, 3) := by decide +kernel
theorem dX12_lack_26 : decode cX12_lack 26 = .ok (.bipush 12, 2) := by decide +kernel
theorem dX12_lack_28 : decode cX12_lack 28 = .ok (.iload_n 1, 1) := by decide +kernel
theorem dX12_lack_29 : decode cX12_lack 29 = .ok (.imul, 1) := by decide +kernel
theorem dX12_lack_30 : decode cX12_lack 30 = .ok (.iload_n 2, 1) := by decide +kernel
theorem dX12_lack_31 : decode cX12_lack 31 = .ok (.iadd, 1) := by decide +kernel
theorem dX12_lack_32 : decode cX12_lack 32 = .ok (.iload_n 3, 1) := by decide +kernel
theorem dX12_lack_33 : decode cX12_lack 33 = .ok (.bastore, 1) := by decide +kernel
theorem dX12_lack_34 : decode cX12_lack 34 = .ok (.iconst 1, 1) := by decide +kernel
theorem dX12_lack_35 : decode cX12_lack 35 = .ok (.ireturn, 1) := by decide +kernel
theorem dX12_placeOf_0 : decode cX12_placeOf 0 = .ok (.iload_n 0, 1) := by decide +kernel
theorem dX12_placeOf_1 : decode cX12_placeOf 1 = .ok (.bipush 96, 2) := by decide +kernel
theorem dX12_placeOf_3 : decode cX12_placeOf 3 = .ok (.imul, 1) := by decide +kernel
theorem dX12_placeOf_4 : decode cX12_placeOf 4 = .ok (.iload_n 1, 1) := by decide +kernel
theorem dX12_placeOf_5 : decode cX12_placeOf 5 = .ok (.iadd, 1) := by decide +kernel
theorem dX12_placeOf_6 : decode cX12_placeOf 6 = .ok (.bipush 8, 2) := by decide +kernel
theorem dX12_placeOf_8 : decode cX12_placeOf 8 = .ok (.imul, 1) := by decide +kernel
theorem dX12_placeOf_9 : decode cX12_placeOf 9 = .ok (.iload_n 2, 1) := by decide +kernel
theorem dX12_placeOf_10 : decode cX12_placeOf 10 = .ok (.iadd, 1) := by decide +kernel
theorem dX12_placeOf_11 : decode cX12_placeOf 11 = .ok (.ireturn, 1) := by decide +kernel
theorem dX12_isTold_0 : decode cX12_isTold 0 = .ok (.aload_n 0, 1) := by decide +kernel
theorem dX12_isTold_1 : decode cX12_isTold 1 = .ok (.getfield 75, 3) := by decide +kernel
theorem dX12_isTold_4 : decode cX12_isTold 4 = .ok (.iload_n 1, 1) := by decide +kernel
theorem dX12_isTold_5 : decode cX12_isTold 5 = .ok (.iload_n 2, 1) := by decide +kernel
theorem dX12_isTold_6 : decode cX12_isTold 6 = .ok (.iload_n 3, 1) := by decide +kernel
theorem dX12_isTold_7 : decode cX12_isTold 7 = .ok (.invokestatic 78, 3) := by decide +kernel
theorem dX12_isTold_10 : decode cX12_isTold 10 = .ok (.iaload, 1) := by decide +kernel
theorem dX12_isTold_11 : decode cX12_isTold 11 = .ok (.ifCond .le 7, 3) := by decide +kernel
theorem dX12_isTold_14 : decode cX12_isTold 14 = .ok (.iconst 1, 1) := by decide +kernel
theorem dX12_isTold_15 : decode cX12_isTold 15 = .ok (.goto 4, 3) := by decide +kernel
theorem dX12_isTold_18 : decode cX12_isTold 18 = .ok (.iconst 0, 1) := by decide +kernel
theorem dX12_isTold_19 : decode cX12_isTold 19 = .ok (.ireturn, 1) := by decide +kernel
theorem dX12_at_0 : decode cX12_at 0 = .ok (.aload_n 0, 1) := by decide +kernel
theorem dX12_at_1 : decode cX12_at 1 = .ok (.getfield 75, 3) := by decide +kernel
theorem dX12_at_4 : decode cX12_at 4 = .ok (.iload_n 1, 1) := by decide +kernel
theorem dX12_at_5 : decode cX12_at 5 = .ok (.iload_n 2, 1) := by decide +kernel
theorem dX12_at_6 : decode cX12_at 6 = .ok (.iload_n 3, 1) := by decide +kernel
theorem dX12_at_7 : decode cX12_at 7 = .ok (.invokestatic 78, 3) := by decide +kernel
theorem dX12_at_10 : decode cX12_at 10 = .ok (.iaload, 1) := by decide +kernel
theorem dX12_at_11 : decode cX12_at 11 = .ok (.iconst 1, 1) := by decide +kernel
theorem dX12_at_12 : decode cX12_at 12 = .ok (.isub, 1) := by decide +kernel
theorem dX12_at_13 : decode cX12_at 13 = .ok (.ireturn, 1) := by decide +kernel
theorem dX12_sets_0 : decode cX12_sets 0 = .ok (.aload_n 0, 1) := by decide +kernel
theorem dX12_sets_1 : decode cX12_sets 1 = .ok (.getfield 75, 3) := by decide +kernel
theorem dX12_sets_4 : decode cX12_sets 4 = .ok (.iload_n 1, 1) := by decide +kernel
theorem dX12_sets_5 : decode cX12_sets 5 = .ok (.iload_n 2, 1) := by decide +kernel
theorem dX12_sets_6 : decode cX12_sets 6 = .ok (.iload_n 3, 1) := by decide +kernel
theorem dX12_sets_7 : decode cX12_sets 7 = .ok (.invokestatic 78, 3) := by decide +kernel
theorem dX12_sets_10 : decode cX12_sets 10 = .ok (.iload 4, 2) := by decide +kernel
theorem dX12_sets_12 : decode cX12_sets 12 = .ok (.iconst 1, 1) := by decide +kernel
theorem dX12_sets_13 : decode cX12_sets 13 = .ok (.iadd, 1) := by decide +kernel
theorem dX12_sets_14 : decode cX12_sets 14 = .ok (.iastore, 1) := by decide +kernel
theorem dX12_sets_15 : decode cX12_sets 15 = .ok (.return_, 1) := by decide +kernel
theorem dX12_put_0 : decode cX12_put 0 = .ok (.aload_n 0, 1) := by decide +kernel
theorem dX12_put_1 : decode cX12_put 1 = .ok (.iconst 0, 1) := by decide +kernel
theorem dX12_put_2 : decode cX12_put 2 = .ok (.putfield 3, 3) := by decide +kernel
theorem dX12_put_5 : decode cX12_put 5 = .ok (.iload_n 1, 1) := by decide +kernel
theorem dX12_put_6 : decode cX12_put 6 = .ok (.invokestatic 82, 3) := by decide +kernel
theorem dX12_put_9 : decode cX12_put 9 = .ok (.ifCond .eq 34, 3) := by decide +kernel
theorem dX12_put_12 : decode cX12_put 12 = .ok (.aload_n 0, 1) := by decide +kernel
theorem dX12_put_13 : decode cX12_put 13 = .ok (.iload_n 2, 1) := by decide +kernel
theorem dX12_put_14 : decode cX12_put 14 = .ok (.invokevirtual 85, 3) := by decide +kernel
theorem dX12_put_17 : decode cX12_put 17 = .ok (.ifCond .eq 26, 3) := by decide +kernel
theorem dX12_put_20 : decode cX12_put 20 = .ok (.aload_n 0, 1) := by decide +kernel
theorem dX12_put_21 : decode cX12_put 21 = .ok (.iload_n 3, 1) := by decide +kernel
theorem dX12_put_22 : decode cX12_put 22 = .ok (.invokevirtual 52, 3) := by decide +kernel
theorem dX12_put_25 : decode cX12_put 25 = .ok (.ifCond .eq 18, 3) := by decide +kernel
theorem dX12_put_28 : decode cX12_put 28 = .ok (.iload 4, 2) := by decide +kernel
theorem dX12_put_30 : decode cX12_put 30 = .ok (.i2l, 1) := by decide +kernel
theorem dX12_put_31 : decode cX12_put 31 = .ok (.ldc2_w 88, 3) := by decide +kernel
theorem dX12_put_34 : decode cX12_put 34 = .ok (.ldc2_w 90, 3) := by decide +kernel
theorem dX12_put_37 : decode cX12_put 37 = .ok (.invokestatic 25, 3) := by decide +kernel
theorem dX12_put_40 : decode cX12_put 40 = .ok (.ifCond .ne 6, 3) := by decide +kernel
theorem dX12_put_43 : decode cX12_put 43 = .ok (.bipush (-2), 2) := by decide +kernel
theorem dX12_put_45 : decode cX12_put 45 = .ok (.ireturn, 1) := by decide +kernel
theorem dX12_put_46 : decode cX12_put 46 = .ok (.aload_n 0, 1) := by decide +kernel
theorem dX12_put_47 : decode cX12_put 47 = .ok (.iload_n 1, 1) := by decide +kernel
theorem dX12_put_48 : decode cX12_put 48 = .ok (.iload_n 2, 1) := by decide +kernel
theorem dX12_put_49 : decode cX12_put 49 = .ok (.iload_n 3, 1) := by decide +kernel
theorem dX12_put_50 : decode cX12_put 50 = .ok (.invokevirtual 92, 3) := by decide +kernel
theorem dX12_put_53 : decode cX12_put 53 = .ok (.istore 5, 2) := by decide +kernel
theorem dX12_put_55 : decode cX12_put 55 = .ok (.aload_n 0, 1) := by decide +kernel
theorem dX12_put_56 : decode cX12_put 56 = .ok (.iload_n 1, 1) := by decide +kernel
theorem dX12_put_57 : decode cX12_put 57 = .ok (.iload_n 2, 1) := by decide +kernel
theorem dX12_put_58 : decode cX12_put 58 = .ok (.iload_n 3, 1) := by decide +kernel
theorem dX12_put_59 : decode cX12_put 59 = .ok (.iload 4, 2) := by decide +kernel
theorem dX12_put_61 : decode cX12_put 61 = .ok (.invokevirtual 95, 3) := by decide +kernel
theorem dX12_put_64 : decode cX12_put 64 = .ok (.iload 5, 2) := by decide +kernel
theorem dX12_put_66 : decode cX12_put 66 = .ok (.ireturn, 1) := by decide +kernel
theorem dX12_get_0 : decode cX12_get 0 = .ok (.aload_n 0, 1) := by decide +kernel
theorem dX12_get_1 : decode cX12_get 1 = .ok (.iconst 0, 1) := by decide +kernel
theorem dX12_get_2 : decode cX12_get 2 = .ok (.putfield 3, 3) := by decide +kernel
theorem dX12_get_5 : decode cX12_get 5 = .ok (.iload_n 1, 1) := by decide +kernel
theorem dX12_get_6 : decode cX12_get 6 = .ok (.invokestatic 82, 3) := by decide +kernel
theorem dX12_get_9 : decode cX12_get 9 = .ok (.ifCond .eq 29, 3) := by decide +kernel
theorem dX12_get_12 : decode cX12_get 12 = .ok (.aload_n 0, 1) := by decide +kernel
theorem dX12_get_13 : decode cX12_get 13 = .ok (.iload_n 2, 1) := by decide +kernel
theorem dX12_get_14 : decode cX12_get 14 = .ok (.invokevirtual 85, 3) := by decide +kernel
theorem dX12_get_17 : decode cX12_get 17 = .ok (.ifCond .eq 21, 3) := by decide +kernel
theorem dX12_get_20 : decode cX12_get 20 = .ok (.aload_n 0, 1) := by decide +kernel
theorem dX12_get_21 : decode cX12_get 21 = .ok (.iload_n 3, 1) := by decide +kernel
theorem dX12_get_22 : decode cX12_get 22 = .ok (.invokevirtual 52, 3) := by decide +kernel
theorem dX12_get_25 : decode cX12_get 25 = .ok (.ifCond .eq 13, 3) := by decide +kernel
theorem dX12_get_28 : decode cX12_get 28 = .ok (.aload_n 0, 1) := by decide +kernel
theorem dX12_get_29 : decode cX12_get 29 = .ok (.iload_n 1, 1) := by decide +kernel
theorem dX12_get_30 : decode cX12_get 30 = .ok (.iload_n 2, 1) := by decide +kernel
theorem dX12_get_31 : decode cX12_get 31 = .ok (.iload_n 3, 1) := by decide +kernel
theorem dX12_get_32 : decode cX12_get 32 = .ok (.invokevirtual 92, 3) := by decide +kernel
theorem dX12_get_35 : decode cX12_get 35 = .ok (.goto 5, 3) := by decide +kernel
theorem dX12_get_38 : decode cX12_get 38 = .ok (.bipush (-2), 2) := by decide +kernel
theorem dX12_get_40 : decode cX12_get 40 = .ok (.ireturn, 1) := by decide +kernel
theorem dX12_sheet_0 : decode cX12_sheet 0 = .ok (.aload_n 0, 1) := by decide +kernel
theorem dX12_sheet_1 : decode cX12_sheet 1 = .ok (.iconst 0, 1) := by decide +kernel
theorem dX12_sheet_2 : decode cX12_sheet 2 = .ok (.putfield 3, 3) := by decide +kernel
theorem dX12_sheet_5 : decode cX12_sheet 5 = .ok (.aload_n 0, 1) := by decide +kernel
theorem dX12_sheet_6 : decode cX12_sheet 6 = .ok (.iload_n 1, 1) := by decide +kernel
theorem dX12_sheet_7 : decode cX12_sheet 7 = .ok (.invokevirtual 52, 3) := by decide +kernel
theorem dX12_sheet_10 : decode cX12_sheet 10 = .ok (.ifCond .eq 21, 3) := by decide +kernel
theorem dX12_sheet_13 : decode cX12_sheet 13 = .ok (.iload_n 2, 1) := by decide +kernel
theorem dX12_sheet_14 : decode cX12_sheet 14 = .ok (.i2l, 1) := by decide +kernel
theorem dX12_sheet_15 : decode cX12_sheet 15 = .ok (.lconst 0, 1) := by decide +kernel
theorem dX12_sheet_16 : decode cX12_sheet 16 = .ok (.ldc2_w 36, 3) := by decide +kernel
theorem dX12_sheet_19 : decode cX12_sheet 19 = .ok (.invokestatic 25, 3) := by decide +kernel
theorem dX12_sheet_22 : decode cX12_sheet 22 = .ok (.ifCond .eq 9, 3) := by decide +kernel
theorem dX12_sheet_25 : decode cX12_sheet 25 = .ok (.iload_n 3, 1) := by decide +kernel
theorem dX12_sheet_26 : decode cX12_sheet 26 = .ok (.bipush 96, 2) := by decide +kernel
theorem dX12_sheet_28 : decode cX12_sheet 28 = .ok (.if_icmp .le 5, 3) := by decide +kernel
theorem dX12_sheet_31 : decode cX12_sheet 31 = .ok (.iconst (-1), 1) := by decide +kernel
theorem dX12_sheet_32 : decode cX12_sheet 32 = .ok (.ireturn, 1) := by decide +kernel
theorem dX12_sheet_33 : decode cX12_sheet 33 = .ok (.iload_n 2, 1) := by decide +kernel
theorem dX12_sheet_34 : decode cX12_sheet 34 = .ok (.iconst 3, 1) := by decide +kernel
theorem dX12_sheet_35 : decode cX12_sheet 35 = .ok (.if_icmp .eq 10, 3) := by decide +kernel
theorem dX12_sheet_38 : decode cX12_sheet 38 = .ok (.iload_n 3, 1) := by decide +kernel
theorem dX12_sheet_39 : decode cX12_sheet 39 = .ok (.ifCond .ge 6, 3) := by decide +kernel
theorem dX12_sheet_42 : decode cX12_sheet 42 = .ok (.bipush (-2), 2) := by decide +kernel
theorem dX12_sheet_44 : decode cX12_sheet 44 = .ok (.ireturn, 1) := by decide +kernel
theorem dX12_sheet_45 : decode cX12_sheet 45 = .ok (.iload 4, 2) := by decide +kernel
theorem dX12_sheet_47 : decode cX12_sheet 47 = .ok (.istore 6, 2) := by decide +kernel
theorem dX12_sheet_49 : decode cX12_sheet 49 = .ok (.iconst 0, 1) := by decide +kernel
theorem dX12_sheet_50 : decode cX12_sheet 50 = .ok (.istore 7, 2) := by decide +kernel
theorem dX12_sheet_52 : decode cX12_sheet 52 = .ok (.iload 7, 2) := by decide +kernel
theorem dX12_sheet_54 : decode cX12_sheet 54 = .ok (.bipush 12, 2) := by decide +kernel
theorem dX12_sheet_56 : decode cX12_sheet 56 = .ok (.aload_n 0, 1) := by decide +kernel
theorem dX12_sheet_57 : decode cX12_sheet 57 = .ok (.getfield 29, 3) := by decide +kernel
theorem dX12_sheet_60 : decode cX12_sheet 60 = .ok (.imul, 1) := by decide +kernel
theorem dX12_sheet_61 : decode cX12_sheet 61 = .ok (.if_icmp .ge 86, 3) := by decide +kernel
theorem dX12_sheet_64 : decode cX12_sheet 64 = .ok (.iload_n 2, 1) := by decide +kernel
theorem dX12_sheet_65 : decode cX12_sheet 65 = .ok (.iconst 3, 1) := by decide +kernel
theorem dX12_sheet_66 : decode cX12_sheet 66 = .ok (.if_icmp .eq 9, 3) := by decide +kernel
theorem dX12_sheet_69 : decode cX12_sheet 69 = .ok (.iload 7, 2) := by decide +kernel
theorem dX12_sheet_71 : decode cX12_sheet 71 = .ok (.iload_n 3, 1) := by decide +kernel
theorem dX12_sheet_72 : decode cX12_sheet 72 = .ok (.if_icmp .ge 75, 3) := by decide +kernel
theorem dX12_sheet_75 : decode cX12_sheet 75 = .ok (.iload_n 2, 1) := by decide +kernel
theorem dX12_sheet_76 : decode cX12_sheet 76 = .ok (.iconst 3, 1) := by decide +kernel
theorem dX12_sheet_77 : decode cX12_sheet 77 = .ok (.if_icmp .ne 7, 3) := by decide +kernel
theorem dX12_sheet_80 : decode cX12_sheet 80 = .ok (.iconst (-1), 1) := by decide +kernel
theorem dX12_sheet_81 : decode cX12_sheet 81 = .ok (.goto 26, 3) := by decide +kernel
theorem dX12_sheet_84 : decode cX12_sheet 84 = .ok (.iload_n 2, 1) := by decide +kernel
theorem dX12_sheet_85 : decode cX12_sheet 85 = .ok (.ifCond .ne 9, 3) := by decide +kernel
theorem dX12_sheet_88 : decode cX12_sheet 88 = .ok (.iload 6, 2) := by decide +kernel
theorem dX12_sheet_90 : decode cX12_sheet 90 = .ok (.i2b, 1) := by decide +kernel
theorem dX12_sheet_91 : decode cX12_sheet 91 = .ok (.goto 16, 3) := by decide +kernel
theorem dX12_sheet_94 : decode cX12_sheet 94 = .ok (.iload_n 2, 1) := by decide +kernel
theorem dX12_sheet_95 : decode cX12_sheet 95 = .ok (.iconst 1, 1) := by decide +kernel
theorem dX12_sheet_96 : decode cX12_sheet 96 = .ok (.if_icmp .ne 9, 3) := by decide +kernel
theorem dX12_sheet_99 : decode cX12_sheet 99 = .ok (.iload 6, 2) := by decide +kernel
theorem dX12_sheet_101 : decode cX12_sheet 101 = .ok (.i2s, 1) := by decide +kernel
theorem dX12_sheet_102 : decode cX12_sheet 102 = .ok (.goto 5, 3) := by decide +kernel
theorem dX12_sheet_105 : decode cX12_sheet 105 = .ok (.iload 6, 2) := by decide +kernel
theorem dX12_sheet_107 : decode cX12_sheet 107 = .ok (.istore 8, 2) := by decide +kernel
theorem dX12_sheet_109 : decode cX12_sheet 109 = .ok (.aload_n 0, 1) := by decide +kernel
theorem dX12_sheet_110 : decode cX12_sheet 110 = .ok (.iconst 0, 1) := by decide +kernel
theorem dX12_sheet_111 : decode cX12_sheet 111 = .ok (.iload 7, 2) := by decide +kernel
theorem dX12_sheet_113 : decode cX12_sheet 113 = .ok (.iload_n 1, 1) := by decide +kernel
theorem dX12_sheet_114 : decode cX12_sheet 114 = .ok (.iload 8, 2) := by decide +kernel
theorem dX12_sheet_116 : decode cX12_sheet 116 = .ok (.ifCond .ge 7, 3) := by decide +kernel
theorem dX12_sheet_119 : decode cX12_sheet 119 = .ok (.iconst (-1), 1) := by decide +kernel
theorem dX12_sheet_120 : decode cX12_sheet 120 = .ok (.goto 11, 3) := by decide +kernel
theorem dX12_sheet_123 : decode cX12_sheet 123 = .ok (.sipush 999, 3) := by decide +kernel
theorem dX12_sheet_126 : decode cX12_sheet 126 = .ok (.iload 8, 2) := by decide +kernel
theorem dX12_sheet_128 : decode cX12_sheet 128 = .ok (.invokestatic 99, 3) := by decide +kernel
theorem dX12_sheet_131 : decode cX12_sheet 131 = .ok (.invokevirtual 95, 3) := by decide +kernel
theorem dX12_sheet_134 : decode cX12_sheet 134 = .ok (.iload 6, 2) := by decide +kernel
theorem dX12_sheet_136 : decode cX12_sheet 136 = .ok (.iload 5, 2) := by decide +kernel
theorem dX12_sheet_138 : decode cX12_sheet 138 = .ok (.iadd, 1) := by decide +kernel
theorem dX12_sheet_139 : decode cX12_sheet 139 = .ok (.istore 6, 2) := by decide +kernel
theorem dX12_sheet_141 : decode cX12_sheet 141 = .ok (.iinc 7 1, 3) := by decide +kernel
theorem dX12_sheet_144 : decode cX12_sheet 144 = .ok (.goto (-92), 3) := by decide +kernel
theorem dX12_sheet_147 : decode cX12_sheet 147 = .ok (.iload_n 2, 1) := by decide +kernel
theorem dX12_sheet_148 : decode cX12_sheet 148 = .ok (.iconst 3, 1) := by decide +kernel
theorem dX12_sheet_149 : decode cX12_sheet 149 = .ok (.if_icmp .ne 13, 3) := by decide +kernel
theorem dX12_sheet_152 : decode cX12_sheet 152 = .ok (.bipush 12, 2) := by decide +kernel
theorem dX12_sheet_154 : decode cX12_sheet 154 = .ok (.aload_n 0, 1) := by decide +kernel
theorem dX12_sheet_155 : decode cX12_sheet 155 = .ok (.getfield 29, 3) := by decide +kernel
theorem dX12_sheet_158 : decode cX12_sheet 158 = .ok (.imul, 1) := by decide +kernel
theorem dX12_sheet_159 : decode cX12_sheet 159 = .ok (.goto 14, 3) := by decide +kernel
theorem dX12_sheet_162 : decode cX12_sheet 162 = .ok (.iload_n 3, 1) := by decide +kernel
theorem dX12_sheet_163 : decode cX12_sheet 163 = .ok (.bipush 12, 2) := by decide +kernel
theorem dX12_sheet_165 : decode cX12_sheet 165 = .ok (.aload_n 0, 1) := by decide +kernel
theorem dX12_sheet_166 : decode cX12_sheet 166 = .ok (.getfield 29, 3) := by decide +kernel
theorem dX12_sheet_169 : decode cX12_sheet 169 = .ok (.imul, 1) := by decide +kernel
theorem dX12_sheet_170 : decode cX12_sheet 170 = .ok (.invokestatic 99, 3) := by decide +kernel
theorem dX12_sheet_173 : decode cX12_sheet 173 = .ok (.ireturn, 1) := by decide +kernel
theorem dX12_sign_0 : decode cX12_sign 0 = .ok (.aload_n 0, 1) := by decide +kernel
theorem dX12_sign_1 : decode cX12_sign 1 = .ok (.iconst 0, 1) := by decide +kernel
theorem dX12_sign_2 : decode cX12_sign 2 = .ok (.putfield 3, 3) := by decide +kernel
theorem dX12_sign_5 : decode cX12_sign 5 = .ok (.aload_n 0, 1) := by decide +kernel
theorem dX12_sign_6 : decode cX12_sign 6 = .ok (.getfield 105, 3) := by decide +kernel
theorem dX12_sign_9 : decode cX12_sign 9 = .ok (.bipush 56, 2) := by decide +kernel
theorem dX12_sign_11 : decode cX12_sign 11 = .ok (.if_icmp .le 5, 3) := by decide +kernel
theorem dX12_sign_14 : decode cX12_sign 14 = .ok (.iconst (-1), 1) := by decide +kernel
theorem dX12_sign_15 : decode cX12_sign 15 = .ok (.ireturn, 1) := by decide +kernel
theorem dX12_sign_16 : decode cX12_sign 16 = .ok (.iconst 0, 1) := by decide +kernel
theorem dX12_sign_17 : decode cX12_sign 17 = .ok (.istore_n 2, 1) := by decide +kernel
theorem dX12_sign_18 : decode cX12_sign 18 = .ok (.iload_n 2, 1) := by decide +kernel
theorem dX12_sign_19 : decode cX12_sign 19 = .ok (.iconst 4, 1) := by decide +kernel
theorem dX12_sign_20 : decode cX12_sign 20 = .ok (.if_icmp .ge 33, 3) := by decide +kernel
theorem dX12_sign_23 : decode cX12_sign 23 = .ok (.aload_n 0, 1) := by decide +kernel
theorem dX12_sign_24 : decode cX12_sign 24 = .ok (.getfield 108, 3) := by decide +kernel
theorem dX12_sign_27 : decode cX12_sign 27 = .ok (.aload_n 0, 1) := by decide +kernel
theorem dX12_sign_28 : decode cX12_sign 28 = .ok (.getfield 105, 3) := by decide +kernel
theorem dX12_sign_31 : decode cX12_sign 31 = .ok (.iload_n 2, 1) := by decide +kernel
theorem dX12_sign_32 : decode cX12_sign 32 = .ok (.iadd, 1) := by decide +kernel
theorem dX12_sign_33 : decode cX12_sign 33 = .ok (.iload_n 1, 1) := by decide +kernel
theorem dX12_sign_34 : decode cX12_sign 34 = .ok (.bipush 24, 2) := by decide +kernel
theorem dX12_sign_36 : decode cX12_sign 36 = .ok (.bipush 8, 2) := by decide +kernel
theorem dX12_sign_38 : decode cX12_sign 38 = .ok (.iload_n 2, 1) := by decide +kernel
theorem dX12_sign_39 : decode cX12_sign 39 = .ok (.imul, 1) := by decide +kernel
theorem dX12_sign_40 : decode cX12_sign 40 = .ok (.isub, 1) := by decide +kernel
theorem dX12_sign_41 : decode cX12_sign 41 = .ok (.ishr, 1) := by decide +kernel
theorem dX12_sign_42 : decode cX12_sign 42 = .ok (.sipush 255, 3) := by decide +kernel
theorem dX12_sign_45 : decode cX12_sign 45 = .ok (.iand, 1) := by decide +kernel
theorem dX12_sign_46 : decode cX12_sign 46 = .ok (.iastore, 1) := by decide +kernel
theorem dX12_sign_47 : decode cX12_sign 47 = .ok (.iinc 2 1, 3) := by decide +kernel
theorem dX12_sign_50 : decode cX12_sign 50 = .ok (.goto (-32), 3) := by decide +kernel
theorem dX12_sign_53 : decode cX12_sign 53 = .ok (.aload_n 0, 1) := by decide +kernel
theorem dX12_sign_54 : decode cX12_sign 54 = .ok (.dup, 1) := by decide +kernel
theorem dX12_sign_55 : decode cX12_sign 55 = .ok (.getfield 105, 3) := by decide +kernel
theorem dX12_sign_58 : decode cX12_sign 58 = .ok (.iconst 4, 1) := by decide +kernel
theorem dX12_sign_59 : decode cX12_sign 59 = .ok (.iadd, 1) := by decide +kernel
theorem dX12_sign_60 : decode cX12_sign 60 = .ok (.putfield 105, 3) := by decide +kernel
theorem dX12_sign_63 : decode cX12_sign 63 = .ok (.aload_n 0, 1) := by decide +kernel
theorem dX12_sign_64 : decode cX12_sign 64 = .ok (.getfield 105, 3) := by decide +kernel
theorem dX12_sign_67 : decode cX12_sign 67 = .ok (.ireturn, 1) := by decide +kernel
theorem dX12_end_0 : decode cX12_end 0 = .ok (.aload_n 0, 1) := by decide +kernel
theorem dX12_end_1 : decode cX12_end 1 = .ok (.iconst 0, 1) := by decide +kernel
theorem dX12_end_2 : decode cX12_end 2 = .ok (.putfield 3, 3) := by decide +kernel
theorem dX12_end_5 : decode cX12_end 5 = .ok (.iload_n 1, 1) := by decide +kernel
theorem dX12_end_6 : decode cX12_end 6 = .ok (.i2l, 1) := by decide +kernel
theorem dX12_end_7 : decode cX12_end 7 = .ok (.lconst 0, 1) := by decide +kernel
theorem dX12_end_8 : decode cX12_end 8 = .ok (.aload_n 0, 1) := by decide +kernel
theorem dX12_end_9 : decode cX12_end 9 = .ok (.getfield 105, 3) := by decide +kernel
theorem dX12_end_12 : decode cX12_end 12 = .ok (.i2l, 1) := by decide +kernel
theorem dX12_end_13 : decode cX12_end 13 = .ok (.invokestatic 25, 3) := by decide +kernel
theorem dX12_end_16 : decode cX12_end 16 = .ok (.ifCond .ne 5, 3) := by decide +kernel
theorem dX12_end_19 : decode cX12_end 19 = .ok (.iconst 0, 1) := by decide +kernel
theorem dX12_end_20 : decode cX12_end 20 = .ok (.ireturn, 1) := by decide +kernel
theorem dX12_end_21 : decode cX12_end 21 = .ok (.aload_n 0, 1) := by decide +kernel
theorem dX12_end_22 : decode cX12_end 22 = .ok (.iload_n 1, 1) := by decide +kernel
theorem dX12_end_23 : decode cX12_end 23 = .ok (.putfield 105, 3) := by decide +kernel
theorem dX12_end_26 : decode cX12_end 26 = .ok (.iconst 1, 1) := by decide +kernel
theorem dX12_end_27 : decode cX12_end 27 = .ok (.ireturn, 1) := by decide +kernel
theorem dX12_begins_0 : decode cX12_begins 0 = .ok (.aload_n 0, 1) := by decide +kernel
theorem dX12_begins_1 : decode cX12_begins 1 = .ok (.getfield 105, 3) := by decide +kernel
theorem dX12_begins_4 : decode cX12_begins 4 = .ok (.istore_n 1, 1) := by decide +kernel
theorem dX12_begins_5 : decode cX12_begins 5 = .ok (.aload_n 0, 1) := by decide +kernel
theorem dX12_begins_6 : decode cX12_begins 6 = .ok (.iconst 0, 1) := by decide +kernel
theorem dX12_begins_7 : decode cX12_begins 7 = .ok (.putfield 105, 3) := by decide +kernel
theorem dX12_begins_10 : decode cX12_begins 10 = .ok (.aload_n 0, 1) := by decide +kernel
theorem dX12_begins_11 : decode cX12_begins 11 = .ok (.iconst 0, 1) := by decide +kernel
theorem dX12_begins_12 : decode cX12_begins 12 = .ok (.putfield 111, 3) := by decide +kernel
theorem dX12_begins_15 : decode cX12_begins 15 = .ok (.aload_n 0, 1) := by decide +kernel
theorem dX12_begins_16 : decode cX12_begins 16 = .ok (.iconst 0, 1) := by decide +kernel
theorem dX12_begins_17 : decode cX12_begins 17 = .ok (.putfield 114, 3) := by decide +kernel
theorem dX12_begins_20 : decode cX12_begins 20 = .ok (.aload_n 0, 1) := by decide +kernel
theorem dX12_begins_21 : decode cX12_begins 21 = .ok (.iload_n 1, 1) := by decide +kernel
theorem dX12_begins_22 : decode cX12_begins 22 = .ok (.bipush 40, 2) := by decide +kernel
theorem dX12_begins_24 : decode cX12_begins 24 = .ok (.invokestatic 99, 3) := by decide +kernel
theorem dX12_begins_27 : decode cX12_begins 27 = .ok (.putfield 117, 3) := by decide +kernel
theorem dX12_begins_30 : decode cX12_begins 30 = .ok (.iload_n 1, 1) := by decide +kernel
theorem dX12_begins_31 : decode cX12_begins 31 = .ok (.ireturn, 1) := by decide +kernel
theorem dX12_fault_0 : decode cX12_fault 0 = .ok (.iload_n 2, 1) := by decide +kernel
theorem dX12_fault_1 : decode cX12_fault 1 = .ok (.ifCond .eq 18, 3) := by decide +kernel
theorem dX12_fault_4 : decode cX12_fault 4 = .ok (.aload_n 0, 1) := by decide +kernel
theorem dX12_fault_5 : decode cX12_fault 5 = .ok (.getfield 111, 3) := by decide +kernel
theorem dX12_fault_8 : decode cX12_fault 8 = .ok (.aload_n 0, 1) := by decide +kernel
theorem dX12_fault_9 : decode cX12_fault 9 = .ok (.getfield 117, 3) := by decide +kernel
theorem dX12_fault_12 : decode cX12_fault 12 = .ok (.if_icmp .ne 7, 3) := by decide +kernel
theorem dX12_fault_15 : decode cX12_fault 15 = .ok (.iconst 1, 1) := by decide +kernel
theorem dX12_fault_16 : decode cX12_fault 16 = .ok (.goto 4, 3) := by decide +kernel
theorem dX12_fault_19 : decode cX12_fault 19 = .ok (.iconst 0, 1) := by decide +kernel
theorem dX12_fault_20 : decode cX12_fault 20 = .ok (.istore_n 3, 1) := by decide +kernel
theorem dX12_fault_21 : decode cX12_fault 21 = .ok (.iload_n 1, 1) := by decide +kernel
theorem dX12_fault_22 : decode cX12_fault 22 = .ok (.bipush 40, 2) := by decide +kernel
theorem dX12_fault_24 : decode cX12_fault 24 = .ok (.if_icmp .le 19, 3) := by decide +kernel
theorem dX12_fault_27 : decode cX12_fault 27 = .ok (.iload_n 3, 1) := by decide +kernel
theorem dX12_fault_28 : decode cX12_fault 28 = .ok (.ifCond .ne 12, 3) := by decide +kernel
theorem dX12_fault_31 : decode cX12_fault 31 = .ok (.aload_n 0, 1) := by decide +kernel
theorem dX12_fault_32 : decode cX12_fault 32 = .ok (.getfield 111, 3) := by decide +kernel
theorem dX12_fault_35 : decode cX12_fault 35 = .ok (.bipush 40, 2) := by decide +kernel
theorem dX12_fault_37 : decode cX12_fault 37 = .ok (.if_icmp .lt 6, 3) := by decide +kernel
theorem dX12_fault_40 : decode cX12_fault 40 = .ok (.bipush (-41), 2) := by decide +kernel
theorem dX12_fault_42 : decode cX12_fault 42 = .ok (.ireturn, 1) := by decide +kernel
theorem dX12_fault_43 : decode cX12_fault 43 = .ok (.iload_n 3, 1) := by decide +kernel
theorem dX12_fault_44 : decode cX12_fault 44 = .ok (.ifCond .eq 7, 3) := by decide +kernel
theorem dX12_fault_47 : decode cX12_fault 47 = .ok (.iconst 0, 1) := by decide +kernel
theorem dX12_fault_48 : decode cX12_fault 48 = .ok (.goto 9, 3) := by decide +kernel
theorem dX12_fault_51 : decode cX12_fault 51 = .ok (.iconst (-1), 1) := by decide +kernel
theorem dX12_fault_52 : decode cX12_fault 52 = .ok (.aload_n 0, 1) := by decide +kernel
theorem dX12_fault_53 : decode cX12_fault 53 = .ok (.getfield 111, 3) := by decide +kernel
theorem dX12_fault_56 : decode cX12_fault 56 = .ok (.isub, 1) := by decide +kernel
theorem dX12_fault_57 : decode cX12_fault 57 = .ok (.ireturn, 1) := by decide +kernel
theorem dX12_isDigit_0 : decode cX12_isDigit 0 = .ok (.aload_n 0, 1) := by decide +kernel
theorem dX12_isDigit_1 : decode cX12_isDigit 1 = .ok (.getfield 111, 3) := by decide +kernel
theorem dX12_isDigit_4 : decode cX12_isDigit 4 = .ok (.aload_n 0, 1) := by decide +kernel
theorem dX12_isDigit_5 : decode cX12_isDigit 5 = .ok (.getfield 117, 3) := by decide +kernel
theorem dX12_isDigit_8 : decode cX12_isDigit 8 = .ok (.if_icmp .ge 29, 3) := by decide +kernel
theorem dX12_isDigit_11 : decode cX12_isDigit 11 = .ok (.aload_n 0, 1) := by decide +kernel
theorem dX12_isDigit_12 : decode cX12_isDigit 12 = .ok (.getfield 108, 3) := by decide +kernel
theorem dX12_isDigit_15 : decode cX12_isDigit 15 = .ok (.aload_n 0, 1) := by decide +kernel
theorem dX12_isDigit_16 : decode cX12_isDigit 16 = .ok (.getfield 111, 3) := by decide +kernel
theorem dX12_isDigit_19 : decode cX12_isDigit 19 = .ok (.iaload, 1) := by decide +kernel
theorem dX12_isDigit_20 : decode cX12_isDigit 20 = .ok (.i2l, 1) := by decide +kernel
theorem dX12_isDigit_21 : decode cX12_isDigit 21 = .ok (.ldc2_w 120, 3) := by decide +kernel
theorem dX12_isDigit_24 : decode cX12_isDigit 24 = .ok (.ldc2_w 122, 3) := by decide +kernel
theorem dX12_isDigit_27 : decode cX12_isDigit 27 = .ok (.invokestatic 25, 3) := by decide +kernel
theorem dX12_isDigit_30 : decode cX12_isDigit 30 = .ok (.ifCond .eq 7, 3) := by decide +kernel
theorem dX12_isDigit_33 : decode cX12_isDigit 33 = .ok (.iconst 1, 1) := by decide +kernel
theorem dX12_isDigit_34 : decode cX12_isDigit 34 = .ok (.goto 4, 3) := by decide +kernel
theorem dX12_isDigit_37 : decode cX12_isDigit 37 = .ok (.iconst 0, 1) := by decide +kernel
theorem dX12_isDigit_38 : decode cX12_isDigit 38 = .ok (.ireturn, 1) := by decide +kernel
theorem dX12_among_0 : decode cX12_among 0 = .ok (.iconst 0, 1) := by decide +kernel
theorem dX12_among_1 : decode cX12_among 1 = .ok (.istore_n 2, 1) := by decide +kernel
theorem dX12_among_2 : decode cX12_among 2 = .ok (.iload_n 2, 1) := by decide +kernel
theorem dX12_among_3 : decode cX12_among 3 = .ok (.aload_n 1, 1) := by decide +kernel
theorem dX12_among_4 : decode cX12_among 4 = .ok (.invokevirtual 124, 3) := by decide +kernel
theorem dX12_among_7 : decode cX12_among 7 = .ok (.if_icmp .ge 39, 3) := by decide +kernel
theorem dX12_among_10 : decode cX12_among 10 = .ok (.aload_n 0, 1) := by decide +kernel
theorem dX12_among_11 : decode cX12_among 11 = .ok (.getfield 111, 3) := by decide +kernel
theorem dX12_among_14 : decode cX12_among 14 = .ok (.aload_n 0, 1) := by decide +kernel
theorem dX12_among_15 : decode cX12_among 15 = .ok (.getfield 117, 3) := by decide +kernel
theorem dX12_among_18 : decode cX12_among 18 = .ok (.if_icmp .ge 28, 3) := by decide +kernel
theorem dX12_among_21 : decode cX12_among 21 = .ok (.aload_n 1, 1) := by decide +kernel
theorem dX12_among_22 : decode cX12_among 22 = .ok (.iload_n 2, 1) := by decide +kernel
theorem dX12_among_23 : decode cX12_among 23 = .ok (.invokevirtual 130, 3) := by decide +kernel
theorem dX12_among_26 : decode cX12_among 26 = .ok (.aload_n 0, 1) := by decide +kernel
theorem dX12_among_27 : decode cX12_among 27 = .ok (.getfield 108, 3) := by decide +kernel
theorem dX12_among_30 : decode cX12_among 30 = .ok (.aload_n 0, 1) := by decide +kernel
theorem dX12_among_31 : decode cX12_among 31 = .ok (.getfield 111, 3) := by decide +kernel
theorem dX12_among_34 : decode cX12_among 34 = .ok (.iaload, 1) := by decide +kernel
theorem dX12_among_35 : decode cX12_among 35 = .ok (.if_icmp .ne 5, 3) := by decide +kernel
theorem dX12_among_38 : decode cX12_among 38 = .ok (.iload_n 2, 1) := by decide +kernel
theorem dX12_among_39 : decode cX12_among 39 = .ok (.ireturn, 1) := by decide +kernel
theorem dX12_among_40 : decode cX12_among 40 = .ok (.iinc 2 1, 3) := by decide +kernel
theorem dX12_among_43 : decode cX12_among 43 = .ok (.goto (-41), 3) := by decide +kernel
theorem dX12_among_46 : decode cX12_among 46 = .ok (.iconst (-1), 1) := by decide +kernel
theorem dX12_among_47 : decode cX12_among 47 = .ok (.ireturn, 1) := by decide +kernel
theorem dX12_marks_0 : decode cX12_marks 0 = .ok (.aload_n 0, 1) := by decide +kernel
theorem dX12_marks_1 : decode cX12_marks 1 = .ok (.getfield 134, 3) := by decide +kernel
theorem dX12_marks_4 : decode cX12_marks 4 = .ok (.sipush 288, 3) := by decide +kernel
theorem dX12_marks_7 : decode cX12_marks 7 = .ok (.aload_n 0, 1) := by decide +kernel
theorem dX12_marks_8 : decode cX12_marks 8 = .ok (.getfield 137, 3) := by decide +kernel
theorem dX12_marks_11 : decode cX12_marks 11 = .ok (.bipush 6, 2) := by decide +kernel
theorem dX12_marks_13 : decode cX12_marks 13 = .ok (.iaload, 1) := by decide +kernel
theorem dX12_marks_14 : decode cX12_marks 14 = .ok (.iadd, 1) := by decide +kernel
theorem dX12_marks_15 : decode cX12_marks 15 = .ok (.iload_n 1, 1) := by decide +kernel
theorem dX12_marks_16 : decode cX12_marks 16 = .ok (.iastore, 1) := by decide +kernel
theorem dX12_marks_17 : decode cX12_marks 17 = .ok (.aload_n 0, 1) := by decide +kernel
theorem dX12_marks_18 : decode cX12_marks 18 = .ok (.getfield 137, 3) := by decide +kernel
theorem dX12_marks_21 : decode cX12_marks 21 = .ok (.bipush 6, 2) := by decide +kernel
theorem dX12_marks_23 : decode cX12_marks 23 = .ok (.dup2, 1) := by decide +kernel
theorem dX12_marks_24 : decode cX12_marks 24 = .ok (.iaload, 1) := by decide +kernel
theorem dX12_marks_25 : decode cX12_marks 25 = .ok (.iconst 1, 1) := by decide +kernel
theorem dX12_marks_26 : decode cX12_marks 26 = .ok (.iadd, 1) := by decide +kernel
theorem dX12_marks_27 : decode cX12_marks 27 = .ok (.iastore, 1) := by decide +kernel
theorem dX12_marks_28 : decode cX12_marks 28 = .ok (.return_, 1) := by decide +kernel
theorem dX12_thing_0 : decode cX12_thing 0 = .ok (.aload_n 0, 1) := by decide +kernel
theorem dX12_thing_1 : decode cX12_thing 1 = .ok (.invokevirtual 140, 3) := by decide +kernel
theorem dX12_thing_4 : decode cX12_thing 4 = .ok (.ifCond .eq 60, 3) := by decide +kernel
theorem dX12_thing_7 : decode cX12_thing 7 = .ok (.iconst 0, 1) := by decide +kernel
theorem dX12_thing_8 : decode cX12_thing 8 = .ok (.istore_n 1, 1) := by decide +kernel
theorem dX12_thing_9 : decode cX12_thing 9 = .ok (.iconst 0, 1) := by decide +kernel
theorem dX12_thing_10 : decode cX12_thing 10 = .ok (.istore_n 2, 1) := by decide +kernel
theorem dX12_thing_11 : decode cX12_thing 11 = .ok (.iload_n 2, 1) := by decide +kernel
theorem dX12_thing_12 : decode cX12_thing 12 = .ok (.iconst 3, 1) := by decide +kernel
theorem dX12_thing_13 : decode cX12_thing 13 = .ok (.if_icmp .ge 44, 3) := by decide +kernel
theorem dX12_thing_16 : decode cX12_thing 16 = .ok (.aload_n 0, 1) := by decide +kernel
theorem dX12_thing_17 : decode cX12_thing 17 = .ok (.invokevirtual 140, 3) := by decide +kernel
theorem dX12_thing_20 : decode cX12_thing 20 = .ok (.ifCond .eq 37, 3) := by decide +kernel
theorem dX12_thing_23 : decode cX12_thing 23 = .ok (.bipush 10, 2) := by decide +kernel
theorem dX12_thing_25 : decode cX12_thing 25 = .ok (.iload_n 1, 1) := by decide +kernel
theorem dX12_thing_26 : decode cX12_thing 26 = .ok (.imul, 1) := by decide +kernel
theorem dX12_thing_27 : decode cX12_thing 27 = .ok (.aload_n 0, 1) := by decide +kernel
theorem dX12_thing_28 : decode cX12_thing 28 = .ok (.getfield 108, 3) := by decide +kernel
theorem dX12_thing_31 : decode cX12_thing 31 = .ok (.aload_n 0, 1) := by decide +kernel
theorem dX12_thing_32 : decode cX12_thing 32 = .ok (.getfield 111, 3) := by decide +kernel
theorem dX12_thing_35 : decode cX12_thing 35 = .ok (.iaload, 1) := by decide +kernel
theorem dX12_thing_36 : decode cX12_thing 36 = .ok (.iadd, 1) := by decide +kernel
theorem dX12_thing_37 : decode cX12_thing 37 = .ok (.bipush 48, 2) := by decide +kernel
theorem dX12_thing_39 : decode cX12_thing 39 = .ok (.isub, 1) := by decide +kernel
theorem dX12_thing_40 : decode cX12_thing 40 = .ok (.istore_n 1, 1) := by decide +kernel
theorem dX12_thing_41 : decode cX12_thing 41 = .ok (.aload_n 0, 1) := by decide +kernel
theorem dX12_thing_42 : decode cX12_thing 42 = .ok (.dup, 1) := by decide +kernel
theorem dX12_thing_43 : decode cX12_thing 43 = .ok (.getfield 111, 3) := by decide +kernel
theorem dX12_thing_46 : decode cX12_thing 46 = .ok (.iconst 1, 1) := by decide +kernel
theorem dX12_thing_47 : decode cX12_thing 47 = .ok (.iadd, 1) := by decide +kernel
theorem dX12_thing_48 : decode cX12_thing 48 = .ok (.putfield 111, 3) := by decide +kernel
theorem dX12_thing_51 : decode cX12_thing 51 = .ok (.iinc 2 1, 3) := by decide +kernel
theorem dX12_thing_54 : decode cX12_thing 54 = .ok (.goto (-43), 3) := by decide +kernel
theorem dX12_thing_57 : decode cX12_thing 57 = .ok (.aload_n 0, 1) := by decide +kernel
theorem dX12_thing_58 : decode cX12_thing 58 = .ok (.iload_n 1, 1) := by decide +kernel
theorem dX12_thing_59 : decode cX12_thing 59 = .ok (.invokevirtual 144, 3) := by decide +kernel
theorem dX12_thing_62 : decode cX12_thing 62 = .ok (.iconst 1, 1) := by decide +kernel
theorem dX12_thing_63 : decode cX12_thing 63 = .ok (.ireturn, 1) := by decide +kernel
theorem dX12_thing_64 : decode cX12_thing 64 = .ok (.aload_n 0, 1) := by decide +kernel
theorem dX12_thing_65 : decode cX12_thing 65 = .ok (.aload_n 0, 1) := by decide +kernel
theorem dX12_thing_66 : decode cX12_thing 66 = .ok (.getfield 148, 3) := by decide +kernel
theorem dX12_thing_69 : decode cX12_thing 69 = .ok (.invokevirtual 152, 3) := by decide +kernel
theorem dX12_thing_72 : decode cX12_thing 72 = .ok (.istore_n 1, 1) := by decide +kernel
theorem dX12_thing_73 : decode cX12_thing 73 = .ok (.iload_n 1, 1) := by decide +kernel
theorem dX12_thing_74 : decode cX12_thing 74 = .ok (.ifCond .lt 24, 3) := by decide +kernel
theorem dX12_thing_77 : decode cX12_thing 77 = .ok (.aload_n 0, 1) := by decide +kernel
theorem dX12_thing_78 : decode cX12_thing 78 = .ok (.sipush 1000, 3) := by decide +kernel
theorem dX12_thing_81 : decode cX12_thing 81 = .ok (.iload_n 1, 1) := by decide +kernel
theorem dX12_thing_82 : decode cX12_thing 82 = .ok (.iadd, 1) := by decide +kernel
theorem dX12_thing_83 : decode cX12_thing 83 = .ok (.invokevirtual 144, 3) := by decide +kernel
theorem dX12_thing_86 : decode cX12_thing 86 = .ok (.aload_n 0, 1) := by decide +kernel
theorem dX12_thing_87 : decode cX12_thing 87 = .ok (.dup, 1) := by decide +kernel
theorem dX12_thing_88 : decode cX12_thing 88 = .ok (.getfield 111, 3) := by decide +kernel
theorem dX12_thing_91 : decode cX12_thing 91 = .ok (.iconst 1, 1) := by decide +kernel
theorem dX12_thing_92 : decode cX12_thing 92 = .ok (.iadd, 1) := by decide +kernel
theorem dX12_thing_93 : decode cX12_thing 93 = .ok (.putfield 111, 3) := by decide +kernel
theorem dX12_thing_96 : decode cX12_thing 96 = .ok (.iconst 1, 1) := by decide +kernel
theorem dX12_thing_97 : decode cX12_thing 97 = .ok (.ireturn, 1) := by decide +kernel
theorem dX12_thing_98 : decode cX12_thing 98 = .ok (.aload_n 0, 1) := by decide +kernel
theorem dX12_thing_99 : decode cX12_thing 99 = .ok (.ldc 156, 2) := by decide +kernel
theorem dX12_thing_101 : decode cX12_thing 101 = .ok (.invokevirtual 152, 3) := by decide +kernel
theorem dX12_thing_104 : decode cX12_thing 104 = .ok (.ifCond .lt 11, 3) := by decide +kernel
theorem dX12_thing_107 : decode cX12_thing 107 = .ok (.aload_n 0, 1) := by decide +kernel
theorem dX12_thing_108 : decode cX12_thing 108 = .ok (.getfield 114, 3) := by decide +kernel
theorem dX12_thing_111 : decode cX12_thing 111 = .ok (.iconst 5, 1) := by decide +kernel
theorem dX12_thing_112 : decode cX12_thing 112 = .ok (.if_icmp .ne 5, 3) := by decide +kernel
theorem dX12_thing_115 : decode cX12_thing 115 = .ok (.iconst 0, 1) := by decide +kernel
theorem dX12_thing_116 : decode cX12_thing 116 = .ok (.ireturn, 1) := by decide +kernel
theorem dX12_thing_117 : decode cX12_thing 117 = .ok (.aload_n 0, 1) := by decide +kernel
theorem dX12_thing_118 : decode cX12_thing 118 = .ok (.dup, 1) := by decide +kernel
theorem dX12_thing_119 : decode cX12_thing 119 = .ok (.getfield 111, 3) := by decide +kernel
theorem dX12_thing_122 : decode cX12_thing 122 = .ok (.iconst 1, 1) := by decide +kernel
theorem dX12_thing_123 : decode cX12_thing 123 = .ok (.iadd, 1) := by decide +kernel
theorem dX12_thing_124 : decode cX12_thing 124 = .ok (.putfield 111, 3) := by decide +kernel
theorem dX12_thing_127 : decode cX12_thing 127 = .ok (.aload_n 0, 1) := by decide +kernel
theorem dX12_thing_128 : decode cX12_thing 128 = .ok (.dup, 1) := by decide +kernel
theorem dX12_thing_129 : decode cX12_thing 129 = .ok (.getfield 114, 3) := by decide +kernel
theorem dX12_thing_132 : decode cX12_thing 132 = .ok (.iconst 1, 1) := by decide +kernel
theorem dX12_thing_133 : decode cX12_thing 133 = .ok (.iadd, 1) := by decide +kernel
theorem dX12_thing_134 : decode cX12_thing 134 = .ok (.putfield 114, 3) := by decide +kernel
theorem dX12_thing_137 : decode cX12_thing 137 = .ok (.aload_n 0, 1) := by decide +kernel
theorem dX12_thing_138 : decode cX12_thing 138 = .ok (.iconst 0, 1) := by decide +kernel
theorem dX12_thing_139 : decode cX12_thing 139 = .ok (.invokevirtual 158, 3) := by decide +kernel
theorem dX12_thing_142 : decode cX12_thing 142 = .ok (.ifCond .eq 12, 3) := by decide +kernel
theorem dX12_thing_145 : decode cX12_thing 145 = .ok (.aload_n 0, 1) := by decide +kernel
theorem dX12_thing_146 : decode cX12_thing 146 = .ok (.ldc 161, 2) := by decide +kernel
theorem dX12_thing_148 : decode cX12_thing 148 = .ok (.invokevirtual 152, 3) := by decide +kernel
theorem dX12_thing_151 : decode cX12_thing 151 = .ok (.ifCond .ge 5, 3) := by decide +kernel
theorem dX12_thing_154 : decode cX12_thing 154 = .ok (.iconst 0, 1) := by decide +kernel
theorem dX12_thing_155 : decode cX12_thing 155 = .ok (.ireturn, 1) := by decide +kernel
theorem dX12_thing_156 : decode cX12_thing 156 = .ok (.aload_n 0, 1) := by decide +kernel
theorem dX12_thing_157 : decode cX12_thing 157 = .ok (.dup, 1) := by decide +kernel
theorem dX12_thing_158 : decode cX12_thing 158 = .ok (.getfield 111, 3) := by decide +kernel
theorem dX12_thing_161 : decode cX12_thing 161 = .ok (.iconst 1, 1) := by decide +kernel
theorem dX12_thing_162 : decode cX12_thing 162 = .ok (.iadd, 1) := by decide +kernel
theorem dX12_thing_163 : decode cX12_thing 163 = .ok (.putfield 111, 3) := by decide +kernel
theorem dX12_thing_166 : decode cX12_thing 166 = .ok (.aload_n 0, 1) := by decide +kernel
theorem dX12_thing_167 : decode cX12_thing 167 = .ok (.dup, 1) := by decide +kernel
theorem dX12_thing_168 : decode cX12_thing 168 = .ok (.getfield 114, 3) := by decide +kernel
theorem dX12_thing_171 : decode cX12_thing 171 = .ok (.iconst 1, 1) := by decide +kernel
theorem dX12_thing_172 : decode cX12_thing 172 = .ok (.isub, 1) := by decide +kernel
theorem dX12_thing_173 : decode cX12_thing 173 = .ok (.putfield 114, 3) := by decide +kernel
theorem dX12_thing_176 : decode cX12_thing 176 = .ok (.iconst 1, 1) := by decide +kernel
theorem dX12_thing_177 : decode cX12_thing 177 = .ok (.ireturn, 1) := by decide +kernel
theorem dX12_ahead_0 : decode cX12_ahead 0 = .ok (.aload_n 0, 1) := by decide +kernel
theorem dX12_ahead_1 : decode cX12_ahead 1 = .ok (.ldc 163, 2) := by decide +kernel
theorem dX12_ahead_3 : decode cX12_ahead 3 = .ok (.invokevirtual 152, 3) := by decide +kernel
theorem dX12_ahead_6 : decode cX12_ahead 6 = .ok (.istore_n 1, 1) := by decide +kernel
theorem dX12_ahead_7 : decode cX12_ahead 7 = .ok (.iload_n 1, 1) := by decide +kernel
theorem dX12_ahead_8 : decode cX12_ahead 8 = .ok (.ifCond .ge 8, 3) := by decide +kernel
theorem dX12_ahead_11 : decode cX12_ahead 11 = .ok (.aload_n 0, 1) := by decide +kernel
theorem dX12_ahead_12 : decode cX12_ahead 12 = .ok (.invokevirtual 165, 3) := by decide +kernel
theorem dX12_ahead_15 : decode cX12_ahead 15 = .ok (.ireturn, 1) := by decide +kernel
theorem dX12_ahead_16 : decode cX12_ahead 16 = .ok (.aload_n 0, 1) := by decide +kernel
theorem dX12_ahead_17 : decode cX12_ahead 17 = .ok (.dup, 1) := by decide +kernel
theorem dX12_ahead_18 : decode cX12_ahead 18 = .ok (.getfield 111, 3) := by decide +kernel
theorem dX12_ahead_21 : decode cX12_ahead 21 = .ok (.iconst 1, 1) := by decide +kernel
theorem dX12_ahead_22 : decode cX12_ahead 22 = .ok (.iadd, 1) := by decide +kernel
theorem dX12_ahead_23 : decode cX12_ahead 23 = .ok (.putfield 111, 3) := by decide +kernel
theorem dX12_ahead_26 : decode cX12_ahead 26 = .ok (.aload_n 0, 1) := by decide +kernel
theorem dX12_ahead_27 : decode cX12_ahead 27 = .ok (.invokevirtual 168, 3) := by decide +kernel
theorem dX12_ahead_30 : decode cX12_ahead 30 = .ok (.istore_n 2, 1) := by decide +kernel
theorem dX12_ahead_31 : decode cX12_ahead 31 = .ok (.iload_n 2, 1) := by decide +kernel
theorem dX12_ahead_32 : decode cX12_ahead 32 = .ok (.ifCond .eq 22, 3) := by decide +kernel
theorem dX12_ahead_35 : decode cX12_ahead 35 = .ok (.aload_n 0, 1) := by decide +kernel
theorem dX12_ahead_36 : decode cX12_ahead 36 = .ok (.sipush 2000, 3) := by decide +kernel
theorem dX12_ahead_39 : decode cX12_ahead 39 = .ok (.iload_n 1, 1) := by decide +kernel
theorem dX12_ahead_40 : decode cX12_ahead 40 = .ok (.ifCond .ne 8, 3) := by decide +kernel
theorem dX12_ahead_43 : decode cX12_ahead 43 = .ok (.bipush 33, 2) := by decide +kernel
theorem dX12_ahead_45 : decode cX12_ahead 45 = .ok (.goto 5, 3) := by decide +kernel
theorem dX12_ahead_48 : decode cX12_ahead 48 = .ok (.bipush 126, 2) := by decide +kernel
theorem dX12_ahead_50 : decode cX12_ahead 50 = .ok (.iadd, 1) := by decide +kernel
theorem dX12_ahead_51 : decode cX12_ahead 51 = .ok (.invokevirtual 144, 3) := by decide +kernel
theorem dX12_ahead_54 : decode cX12_ahead 54 = .ok (.iload_n 2, 1) := by decide +kernel
theorem dX12_ahead_55 : decode cX12_ahead 55 = .ok (.ireturn, 1) := by decide +kernel
theorem dX12_ranked_0 : decode cX12_ranked 0 = .ok (.iload_n 1, 1) := by decide +kernel
theorem dX12_ranked_1 : decode cX12_ranked 1 = .ok (.iconst 5, 1) := by decide +kernel
theorem dX12_ranked_2 : decode cX12_ranked 2 = .ok (.if_icmp .ne 8, 3) := by decide +kernel
theorem dX12_ranked_5 : decode cX12_ranked 5 = .ok (.aload_n 0, 1) := by decide +kernel
theorem dX12_ranked_6 : decode cX12_ranked 6 = .ok (.invokevirtual 168, 3) := by decide +kernel
theorem dX12_ranked_9 : decode cX12_ranked 9 = .ok (.ireturn, 1) := by decide +kernel
theorem dX12_ranked_10 : decode cX12_ranked 10 = .ok (.iload_n 1, 1) := by decide +kernel
theorem dX12_ranked_11 : decode cX12_ranked 11 = .ok (.ifCond .ne 8, 3) := by decide +kernel
theorem dX12_ranked_14 : decode cX12_ranked 14 = .ok (.ldc 171, 2) := by decide +kernel
theorem dX12_ranked_16 : decode cX12_ranked 16 = .ok (.goto 35, 3) := by decide +kernel
theorem dX12_ranked_19 : decode cX12_ranked 19 = .ok (.iload_n 1, 1) := by decide +kernel
theorem dX12_ranked_20 : decode cX12_ranked 20 = .ok (.iconst 1, 1) := by decide +kernel
theorem dX12_ranked_21 : decode cX12_ranked 21 = .ok (.if_icmp .ne 8, 3) := by decide +kernel
theorem dX12_ranked_24 : decode cX12_ranked 24 = .ok (.ldc 173, 2) := by decide +kernel
theorem dX12_ranked_26 : decode cX12_ranked 26 = .ok (.goto 25, 3) := by decide +kernel
theorem dX12_ranked_29 : decode cX12_ranked 29 = .ok (.iload_n 1, 1) := by decide +kernel
theorem dX12_ranked_30 : decode cX12_ranked 30 = .ok (.iconst 2, 1) := by decide +kernel
theorem dX12_ranked_31 : decode cX12_ranked 31 = .ok (.if_icmp .ne 8, 3) := by decide +kernel
theorem dX12_ranked_34 : decode cX12_ranked 34 = .ok (.ldc 175, 2) := by decide +kernel
theorem dX12_ranked_36 : decode cX12_ranked 36 = .ok (.goto 15, 3) := by decide +kernel
theorem dX12_ranked_39 : decode cX12_ranked 39 = .ok (.iload_n 1, 1) := by decide +kernel
theorem dX12_ranked_40 : decode cX12_ranked 40 = .ok (.iconst 3, 1) := by decide +kernel
theorem dX12_ranked_41 : decode cX12_ranked 41 = .ok (.if_icmp .ne 8, 3) := by decide +kernel
theorem dX12_ranked_44 : decode cX12_ranked 44 = .ok (.ldc 177, 2) := by decide +kernel
theorem dX12_ranked_46 : decode cX12_ranked 46 = .ok (.goto 5, 3) := by decide +kernel
theorem dX12_ranked_49 : decode cX12_ranked 49 = .ok (.ldc 179, 2) := by decide +kernel
theorem dX12_ranked_51 : decode cX12_ranked 51 = .ok (.astore_n 2, 1) := by decide +kernel
theorem dX12_ranked_52 : decode cX12_ranked 52 = .ok (.aload_n 0, 1) := by decide +kernel
theorem dX12_ranked_53 : decode cX12_ranked 53 = .ok (.iload_n 1, 1) := by decide +kernel
theorem dX12_ranked_54 : decode cX12_ranked 54 = .ok (.iconst 1, 1) := by decide +kernel
theorem dX12_ranked_55 : decode cX12_ranked 55 = .ok (.iadd, 1) := by decide +kernel
theorem dX12_ranked_56 : decode cX12_ranked 56 = .ok (.invokevirtual 158, 3) := by decide +kernel
theorem dX12_ranked_59 : decode cX12_ranked 59 = .ok (.istore_n 3, 1) := by decide +kernel
theorem dX12_ranked_60 : decode cX12_ranked 60 = .ok (.iconst 1, 1) := by decide +kernel
theorem dX12_ranked_61 : decode cX12_ranked 61 = .ok (.istore 4, 2) := by decide +kernel
theorem dX12_ranked_63 : decode cX12_ranked 63 = .ok (.iload_n 3, 1) := by decide +kernel
theorem dX12_ranked_64 : decode cX12_ranked 64 = .ok (.ifCond .eq 74, 3) := by decide +kernel
theorem dX12_ranked_67 : decode cX12_ranked 67 = .ok (.iload 4, 2) := by decide +kernel
theorem dX12_ranked_69 : decode cX12_ranked 69 = .ok (.ifCond .eq 69, 3) := by decide +kernel
theorem dX12_ranked_72 : decode cX12_ranked 72 = .ok (.aload_n 0, 1) := by decide +kernel
theorem dX12_ranked_73 : decode cX12_ranked 73 = .ok (.aload_n 2, 1) := by decide +kernel
theorem dX12_ranked_74 : decode cX12_ranked 74 = .ok (.invokevirtual 152, 3) := by decide +kernel
theorem dX12_ranked_77 : decode cX12_ranked 77 = .ok (.ifCond .lt 61, 3) := by decide +kernel
theorem dX12_ranked_80 : decode cX12_ranked 80 = .ok (.aload_n 0, 1) := by decide +kernel
theorem dX12_ranked_81 : decode cX12_ranked 81 = .ok (.getfield 108, 3) := by decide +kernel
theorem dX12_ranked_84 : decode cX12_ranked 84 = .ok (.aload_n 0, 1) := by decide +kernel
theorem dX12_ranked_85 : decode cX12_ranked 85 = .ok (.getfield 111, 3) := by decide +kernel
theorem dX12_ranked_88 : decode cX12_ranked 88 = .ok (.iaload, 1) := by decide +kernel
theorem dX12_ranked_89 : decode cX12_ranked 89 = .ok (.istore 5, 2) := by decide +kernel
theorem dX12_ranked_91 : decode cX12_ranked 91 = .ok (.aload_n 0, 1) := by decide +kernel
theorem dX12_ranked_92 : decode cX12_ranked 92 = .ok (.dup, 1) := by decide +kernel
theorem dX12_ranked_93 : decode cX12_ranked 93 = .ok (.getfield 111, 3) := by decide +kernel
theorem dX12_ranked_96 : decode cX12_ranked 96 = .ok (.iconst 1, 1) := by decide +kernel
theorem dX12_ranked_97 : decode cX12_ranked 97 = .ok (.iadd, 1) := by decide +kernel
theorem dX12_ranked_98 : decode cX12_ranked 98 = .ok (.putfield 111, 3) := by decide +kernel
theorem dX12_ranked_101 : decode cX12_ranked 101 = .ok (.aload_n 0, 1) := by decide +kernel
theorem dX12_ranked_102 : decode cX12_ranked 102 = .ok (.iload_n 1, 1) := by decide +kernel
theorem dX12_ranked_103 : decode cX12_ranked 103 = .ok (.iconst 1, 1) := by decide +kernel
theorem dX12_ranked_104 : decode cX12_ranked 104 = .ok (.iadd, 1) := by decide +kernel
theorem dX12_ranked_105 : decode cX12_ranked 105 = .ok (.invokevirtual 158, 3) := by decide +kernel
theorem dX12_ranked_108 : decode cX12_ranked 108 = .ok (.istore_n 3, 1) := by decide +kernel
theorem dX12_ranked_109 : decode cX12_ranked 109 = .ok (.iload_n 3, 1) := by decide +kernel
theorem dX12_ranked_110 : decode cX12_ranked 110 = .ok (.ifCond .eq 13, 3) := by decide +kernel
theorem dX12_ranked_113 : decode cX12_ranked 113 = .ok (.aload_n 0, 1) := by decide +kernel
theorem dX12_ranked_114 : decode cX12_ranked 114 = .ok (.sipush 2000, 3) := by decide +kernel
theorem dX12_ranked_117 : decode cX12_ranked 117 = .ok (.iload 5, 2) := by decide +kernel
theorem dX12_ranked_119 : decode cX12_ranked 119 = .ok (.iadd, 1) := by decide +kernel
theorem dX12_ranked_120 : decode cX12_ranked 120 = .ok (.invokevirtual 144, 3) := by decide +kernel
theorem dX12_ranked_123 : decode cX12_ranked 123 = .ok (.iload_n 1, 1) := by decide +kernel
theorem dX12_ranked_124 : decode cX12_ranked 124 = .ok (.iconst 2, 1) := by decide +kernel
theorem dX12_ranked_125 : decode cX12_ranked 125 = .ok (.if_icmp .eq 7, 3) := by decide +kernel
theorem dX12_ranked_128 : decode cX12_ranked 128 = .ok (.iconst 1, 1) := by decide +kernel
theorem dX12_ranked_129 : decode cX12_ranked 129 = .ok (.goto 4, 3) := by decide +kernel
theorem dX12_ranked_132 : decode cX12_ranked 132 = .ok (.iconst 0, 1) := by decide +kernel
theorem dX12_ranked_133 : decode cX12_ranked 133 = .ok (.istore 4, 2) := by decide +kernel
theorem dX12_ranked_135 : decode cX12_ranked 135 = .ok (.goto (-72), 3) := by decide +kernel
theorem dX12_ranked_138 : decode cX12_ranked 138 = .ok (.iload_n 3, 1) := by decide +kernel
theorem dX12_ranked_139 : decode cX12_ranked 139 = .ok (.ireturn, 1) := by decide +kernel
theorem dX12_law_0 : decode cX12_law 0 = .ok (.aload_n 0, 1) := by decide +kernel
theorem dX12_law_1 : decode cX12_law 1 = .ok (.iconst 0, 1) := by decide +kernel
theorem dX12_law_2 : decode cX12_law 2 = .ok (.putfield 3, 3) := by decide +kernel
theorem dX12_law_5 : decode cX12_law 5 = .ok (.aload_n 0, 1) := by decide +kernel
theorem dX12_law_6 : decode cX12_law 6 = .ok (.invokevirtual 181, 3) := by decide +kernel
theorem dX12_law_9 : decode cX12_law 9 = .ok (.istore_n 2, 1) := by decide +kernel
theorem dX12_law_10 : decode cX12_law 10 = .ok (.iload_n 1, 1) := by decide +kernel
theorem dX12_law_11 : decode cX12_law 11 = .ok (.i2l, 1) := by decide +kernel
theorem dX12_law_12 : decode cX12_law 12 = .ok (.lconst 0, 1) := by decide +kernel
theorem dX12_law_13 : decode cX12_law 13 = .ok (.ldc2_w 34, 3) := by decide +kernel
theorem dX12_law_16 : decode cX12_law 16 = .ok (.invokestatic 25, 3) := by decide +kernel
theorem dX12_law_19 : decode cX12_law 19 = .ok (.ifCond .ne 6, 3) := by decide +kernel
theorem dX12_law_22 : decode cX12_law 22 = .ok (.bipush (-100), 2) := by decide +kernel
theorem dX12_law_24 : decode cX12_law 24 = .ok (.ireturn, 1) := by decide +kernel
theorem dX12_law_25 : decode cX12_law 25 = .ok (.aload_n 0, 1) := by decide +kernel
theorem dX12_law_26 : decode cX12_law 26 = .ok (.iload_n 1, 1) := by decide +kernel
theorem dX12_law_27 : decode cX12_law 27 = .ok (.ifCond .ne 8, 3) := by decide +kernel
theorem dX12_law_30 : decode cX12_law 30 = .ok (.ldc 184, 2) := by decide +kernel
theorem dX12_law_32 : decode cX12_law 32 = .ok (.goto 15, 3) := by decide +kernel
theorem dX12_law_35 : decode cX12_law 35 = .ok (.iload_n 1, 1) := by decide +kernel
theorem dX12_law_36 : decode cX12_law 36 = .ok (.iconst 1, 1) := by decide +kernel
theorem dX12_law_37 : decode cX12_law 37 = .ok (.if_icmp .ne 8, 3) := by decide +kernel
theorem dX12_law_40 : decode cX12_law 40 = .ok (.ldc 186, 2) := by decide +kernel
theorem dX12_law_42 : decode cX12_law 42 = .ok (.goto 5, 3) := by decide +kernel
theorem dX12_law_45 : decode cX12_law 45 = .ok (.ldc 188, 2) := by decide +kernel
theorem dX12_law_47 : decode cX12_law 47 = .ok (.putfield 148, 3) := by decide +kernel
theorem dX12_law_50 : decode cX12_law 50 = .ok (.aload_n 0, 1) := by decide +kernel
theorem dX12_law_51 : decode cX12_law 51 = .ok (.getfield 137, 3) := by decide +kernel
theorem dX12_law_54 : decode cX12_law 54 = .ok (.bipush 6, 2) := by decide +kernel
theorem dX12_law_56 : decode cX12_law 56 = .ok (.iconst 0, 1) := by decide +kernel
theorem dX12_law_57 : decode cX12_law 57 = .ok (.iastore, 1) := by decide +kernel
theorem dX12_law_58 : decode cX12_law 58 = .ok (.aload_n 0, 1) := by decide +kernel
theorem dX12_law_59 : decode cX12_law 59 = .ok (.iload_n 2, 1) := by decide +kernel
theorem dX12_law_60 : decode cX12_law 60 = .ok (.aload_n 0, 1) := by decide +kernel
theorem dX12_law_61 : decode cX12_law 61 = .ok (.iconst 0, 1) := by decide +kernel
theorem dX12_law_62 : decode cX12_law 62 = .ok (.invokevirtual 158, 3) := by decide +kernel
theorem dX12_law_65 : decode cX12_law 65 = .ok (.invokevirtual 190, 3) := by decide +kernel
theorem dX12_law_68 : decode cX12_law 68 = .ok (.istore_n 3, 1) := by decide +kernel
theorem dX12_law_69 : decode cX12_law 69 = .ok (.iload_n 3, 1) := by decide +kernel
theorem dX12_law_70 : decode cX12_law 70 = .ok (.ifCond .ge 5, 3) := by decide +kernel
theorem dX12_law_73 : decode cX12_law 73 = .ok (.iload_n 3, 1) := by decide +kernel
theorem dX12_law_74 : decode cX12_law 74 = .ok (.ireturn, 1) := by decide +kernel
theorem dX12_law_75 : decode cX12_law 75 = .ok (.aload_n 0, 1) := by decide +kernel
theorem dX12_law_76 : decode cX12_law 76 = .ok (.getfield 137, 3) := by decide +kernel
theorem dX12_law_79 : decode cX12_law 79 = .ok (.iload_n 1, 1) := by decide +kernel
theorem dX12_law_80 : decode cX12_law 80 = .ok (.aload_n 0, 1) := by decide +kernel
theorem dX12_law_81 : decode cX12_law 81 = .ok (.getfield 137, 3) := by decide +kernel
theorem dX12_law_84 : decode cX12_law 84 = .ok (.bipush 6, 2) := by decide +kernel
theorem dX12_law_86 : decode cX12_law 86 = .ok (.iaload, 1) := by decide +kernel
theorem dX12_law_87 : decode cX12_law 87 = .ok (.iastore, 1) := by decide +kernel
theorem dX12_law_88 : decode cX12_law 88 = .ok (.iconst 0, 1) := by decide +kernel
theorem dX12_law_89 : decode cX12_law 89 = .ok (.istore 4, 2) := by decide +kernel
theorem dX12_law_91 : decode cX12_law 91 = .ok (.iload 4, 2) := by decide +kernel
theorem dX12_law_93 : decode cX12_law 93 = .ok (.bipush 48, 2) := by decide +kernel
theorem dX12_law_95 : decode cX12_law 95 = .ok (.if_icmp .ge 32, 3) := by decide +kernel
theorem dX12_law_98 : decode cX12_law 98 = .ok (.aload_n 0, 1) := by decide +kernel
theorem dX12_law_99 : decode cX12_law 99 = .ok (.getfield 134, 3) := by decide +kernel
theorem dX12_law_102 : decode cX12_law 102 = .ok (.bipush 48, 2) := by decide +kernel
theorem dX12_law_104 : decode cX12_law 104 = .ok (.iload_n 1, 1) := by decide +kernel
theorem dX12_law_105 : decode cX12_law 105 = .ok (.imul, 1) := by decide +kernel
theorem dX12_law_106 : decode cX12_law 106 = .ok (.iload 4, 2) := by decide +kernel
theorem dX12_law_108 : decode cX12_law 108 = .ok (.iadd, 1) := by decide +kernel
theorem dX12_law_109 : decode cX12_law 109 = .ok (.aload_n 0, 1) := by decide +kernel
theorem dX12_law_110 : decode cX12_law 110 = .ok (.getfield 134, 3) := by decide +kernel
theorem dX12_law_113 : decode cX12_law 113 = .ok (.sipush 288, 3) := by decide +kernel
theorem dX12_law_116 : decode cX12_law 116 = .ok (.iload 4, 2) := by decide +kernel
theorem dX12_law_118 : decode cX12_law 118 = .ok (.iadd, 1) := by decide +kernel
theorem dX12_law_119 : decode cX12_law 119 = .ok (.iaload, 1) := by decide +kernel
theorem dX12_law_120 : decode cX12_law 120 = .ok (.iastore, 1) := by decide +kernel
theorem dX12_law_121 : decode cX12_law 121 = .ok (.iinc 4 1, 3) := by decide +kernel
theorem dX12_law_124 : decode cX12_law 124 = .ok (.goto (-33), 3) := by decide +kernel
theorem dX12_law_127 : decode cX12_law 127 = .ok (.iconst 0, 1) := by decide +kernel
theorem dX12_law_128 : decode cX12_law 128 = .ok (.ireturn, 1) := by decide +kernel
theorem dX12_draws_0 : decode cX12_draws 0 = .ok (.aload_n 0, 1) := by decide +kernel
theorem dX12_draws_1 : decode cX12_draws 1 = .ok (.aload_n 0, 1) := by decide +kernel
theorem dX12_draws_2 : decode cX12_draws 2 = .ok (.getfield 194, 3) := by decide +kernel
theorem dX12_draws_5 : decode cX12_draws 5 = .ok (.ldc 197, 2) := by decide +kernel
theorem dX12_draws_7 : decode cX12_draws 7 = .ok (.imul, 1) := by decide +kernel
theorem dX12_draws_8 : decode cX12_draws 8 = .ok (.sipush 12345, 3) := by decide +kernel
theorem dX12_draws_11 : decode cX12_draws 11 = .ok (.iadd, 1) := by decide +kernel
theorem dX12_draws_12 : decode cX12_draws 12 = .ok (.putfield 194, 3) := by decide +kernel
theorem dX12_draws_15 : decode cX12_draws 15 = .ok (.aload_n 0, 1) := by decide +kernel
theorem dX12_draws_16 : decode cX12_draws 16 = .ok (.getfield 194, 3) := by decide +kernel
theorem dX12_draws_19 : decode cX12_draws 19 = .ok (.bipush 16, 2) := by decide +kernel
theorem dX12_draws_21 : decode cX12_draws 21 = .ok (.iushr, 1) := by decide +kernel
theorem dX12_draws_22 : decode cX12_draws 22 = .ok (.iload_n 1, 1) := by decide +kernel
theorem dX12_draws_23 : decode cX12_draws 23 = .ok (.irem, 1) := by decide +kernel
theorem dX12_draws_24 : decode cX12_draws 24 = .ok (.ireturn, 1) := by decide +kernel
theorem dX12_valueOf_0 : decode cX12_valueOf 0 = .ok (.iload_n 1, 1) := by decide +kernel
theorem dX12_valueOf_1 : decode cX12_valueOf 1 = .ok (.tableswitch 129 0 8 #[51, 61, 66, 71, 76, 86, 96, 117, 124], 51) := by decide +kernel
theorem dX12_valueOf_52 : decode cX12_valueOf 52 = .ok (.aload_n 0, 1) := by decide +kernel
theorem dX12_valueOf_53 : decode cX12_valueOf 53 = .ok (.getfield 65, 3) := by decide +kernel
theorem dX12_valueOf_56 : decode cX12_valueOf 56 = .ok (.aload_n 0, 1) := by decide +kernel
theorem dX12_valueOf_57 : decode cX12_valueOf 57 = .ok (.getfield 198, 3) := by decide +kernel
theorem dX12_valueOf_60 : decode cX12_valueOf 60 = .ok (.iaload, 1) := by decide +kernel
theorem dX12_valueOf_61 : decode cX12_valueOf 61 = .ok (.ireturn, 1) := by decide +kernel
theorem dX12_valueOf_62 : decode cX12_valueOf 62 = .ok (.aload_n 0, 1) := by decide +kernel
theorem dX12_valueOf_63 : decode cX12_valueOf 63 = .ok (.getfield 198, 3) := by decide +kernel
theorem dX12_valueOf_66 : decode cX12_valueOf 66 = .ok (.ireturn, 1) := by decide +kernel
theorem dX12_valueOf_67 : decode cX12_valueOf 67 = .ok (.aload_n 0, 1) := by decide +kernel
theorem dX12_valueOf_68 : decode cX12_valueOf 68 = .ok (.getfield 201, 3) := by decide +kernel
theorem dX12_valueOf_71 : decode cX12_valueOf 71 = .ok (.ireturn, 1) := by decide +kernel
theorem dX12_valueOf_72 : decode cX12_valueOf 72 = .ok (.aload_n 0, 1) := by decide +kernel
theorem dX12_valueOf_73 : decode cX12_valueOf 73 = .ok (.getfield 204, 3) := by decide +kernel
theorem dX12_valueOf_76 : decode cX12_valueOf 76 = .ok (.ireturn, 1) := by decide +kernel
theorem dX12_valueOf_77 : decode cX12_valueOf 77 = .ok (.aload_n 0, 1) := by decide +kernel
theorem dX12_valueOf_78 : decode cX12_valueOf 78 = .ok (.getfield 46, 3) := by decide +kernel
theorem dX12_valueOf_81 : decode cX12_valueOf 81 = .ok (.aload_n 0, 1) := by decide +kernel
theorem dX12_valueOf_82 : decode cX12_valueOf 82 = .ok (.getfield 204, 3) := by decide +kernel
theorem dX12_valueOf_85 : decode cX12_valueOf 85 = .ok (.iaload, 1) := by decide +kernel
theorem dX12_valueOf_86 : decode cX12_valueOf 86 = .ok (.ireturn, 1) := by decide +kernel
theorem dX12_valueOf_87 : decode cX12_valueOf 87 = .ok (.aload_n 0, 1) := by decide +kernel
theorem dX12_valueOf_88 : decode cX12_valueOf 88 = .ok (.getfield 42, 3) := by decide +kernel
theorem dX12_valueOf_91 : decode cX12_valueOf 91 = .ok (.aload_n 0, 1) := by decide +kernel
theorem dX12_valueOf_92 : decode cX12_valueOf 92 = .ok (.getfield 204, 3) := by decide +kernel
theorem dX12_valueOf_95 : decode cX12_valueOf 95 = .ok (.iaload, 1) := by decide +kernel
theorem dX12_valueOf_96 : decode cX12_valueOf 96 = .ok (.ireturn, 1) := by decide +kernel
theorem dX12_valueOf_97 : decode cX12_valueOf 97 = .ok (.aload_n 0, 1) := by decide +kernel
theorem dX12_valueOf_98 : decode cX12_valueOf 98 = .ok (.getfield 71, 3) := by decide +kernel
theorem dX12_valueOf_101 : decode cX12_valueOf 101 = .ok (.bipush 12, 2) := by decide +kernel
theorem dX12_valueOf_103 : decode cX12_valueOf 103 = .ok (.aload_n 0, 1) := by decide +kernel
theorem dX12_valueOf_104 : decode cX12_valueOf 104 = .ok (.getfield 204, 3) := by decide +kernel
theorem dX12_valueOf_107 : decode cX12_valueOf 107 = .ok (.imul, 1) := by decide +kernel
theorem dX12_valueOf_108 : decode cX12_valueOf 108 = .ok (.aload_n 0, 1) := by decide +kernel
theorem dX12_valueOf_109 : decode cX12_valueOf 109 = .ok (.getfield 201, 3) := by decide +kernel
theorem dX12_valueOf_112 : decode cX12_valueOf 112 = .ok (.iadd, 1) := by decide +kernel
theorem dX12_valueOf_113 : decode cX12_valueOf 113 = .ok (.baload, 1) := by decide +kernel
theorem dX12_valueOf_114 : decode cX12_valueOf 114 = .ok (.invokestatic 207, 3) := by decide +kernel
theorem dX12_valueOf_117 : decode cX12_valueOf 117 = .ok (.ireturn, 1) := by decide +kernel
theorem dX12_valueOf_118 : decode cX12_valueOf 118 = .ok (.aload_n 0, 1) := by decide +kernel
theorem dX12_valueOf_119 : decode cX12_valueOf 119 = .ok (.bipush 10, 2) := by decide +kernel
theorem dX12_valueOf_121 : decode cX12_valueOf 121 = .ok (.invokevirtual 211, 3) := by decide +kernel
theorem dX12_valueOf_124 : decode cX12_valueOf 124 = .ok (.ireturn, 1) := by decide +kernel
theorem dX12_valueOf_125 : decode cX12_valueOf 125 = .ok (.aload_n 0, 1) := by decide +kernel
theorem dX12_valueOf_126 : decode cX12_valueOf 126 = .ok (.getfield 215, 3) := by decide +kernel
theorem dX12_valueOf_129 : decode cX12_valueOf 129 = .ok (.ireturn, 1) := by decide +kernel
theorem dX12_valueOf_130 : decode cX12_valueOf 130 = .ok (.aload_n 0, 1) := by decide +kernel
theorem dX12_valueOf_131 : decode cX12_valueOf 131 = .ok (.getfield 218, 3) := by decide +kernel
theorem dX12_valueOf_134 : decode cX12_valueOf 134 = .ok (.ireturn, 1) := by decide +kernel
theorem dX12_acted_0 : decode cX12_acted 0 = .ok (.iload_n 0, 1) := by decide +kernel
theorem dX12_acted_1 : decode cX12_acted 1 = .ok (.tableswitch 198 38 62 #[181, 198, 198, 198, 123, 115, 198, 119, 198, 127, 198, 198, 198, 198, 198, 198, 198, 198, 198, 198, 198, 198, 139, 167, 153], 115) := by decide +kernel
theorem dX12_acted_116 : decode cX12_acted 116 = .ok (.iload_n 1, 1) := by decide +kernel
theorem dX12_acted_117 : decode cX12_acted 117 = .ok (.iload_n 2, 1) := by decide +kernel
theorem dX12_acted_118 : decode cX12_acted 118 = .ok (.iadd, 1) := by decide +kernel
theorem dX12_acted_119 : decode cX12_acted 119 = .ok (.ireturn, 1) := by decide +kernel
theorem dX12_acted_120 : decode cX12_acted 120 = .ok (.iload_n 1, 1) := by decide +kernel
theorem dX12_acted_121 : decode cX12_acted 121 = .ok (.iload_n 2, 1) := by decide +kernel
theorem dX12_acted_122 : decode cX12_acted 122 = .ok (.isub, 1) := by decide +kernel
theorem dX12_acted_123 : decode cX12_acted 123 = .ok (.ireturn, 1) := by decide +kernel
theorem dX12_acted_124 : decode cX12_acted 124 = .ok (.iload_n 1, 1) := by decide +kernel
theorem dX12_acted_125 : decode cX12_acted 125 = .ok (.iload_n 2, 1) := by decide +kernel
theorem dX12_acted_126 : decode cX12_acted 126 = .ok (.imul, 1) := by decide +kernel
theorem dX12_acted_127 : decode cX12_acted 127 = .ok (.ireturn, 1) := by decide +kernel
theorem dX12_acted_128 : decode cX12_acted 128 = .ok (.iload_n 2, 1) := by decide +kernel
theorem dX12_acted_129 : decode cX12_acted 129 = .ok (.ifCond .ne 7, 3) := by decide +kernel
theorem dX12_acted_132 : decode cX12_acted 132 = .ok (.iconst 0, 1) := by decide +kernel
theorem dX12_acted_133 : decode cX12_acted 133 = .ok (.goto 6, 3) := by decide +kernel
theorem dX12_acted_136 : decode cX12_acted 136 = .ok (.iload_n 1, 1) := by decide +kernel
theorem dX12_acted_137 : decode cX12_acted 137 = .ok (.iload_n 2, 1) := by decide +kernel
theorem dX12_acted_138 : decode cX12_acted 138 = .ok (.idiv, 1) := by decide +kernel
theorem dX12_acted_139 : decode cX12_acted 139 = .ok (.ireturn, 1) := by decide +kernel
theorem dX12_acted_140 : decode cX12_acted 140 = .ok (.iload_n 1, 1) := by decide +kernel
theorem dX12_acted_141 : decode cX12_acted 141 = .ok (.iload_n 2, 1) := by decide +kernel
theorem dX12_acted_142 : decode cX12_acted 142 = .ok (.if_icmp .ge 7, 3) := by decide +kernel
theorem dX12_acted_145 : decode cX12_acted 145 = .ok (.iconst 1, 1) := by decide +kernel
theorem dX12_acted_146 : decode cX12_acted 146 = .ok (.goto 4, 3) := by decide +kernel
theorem dX12_acted_149 : decode cX12_acted 149 = .ok (.iconst 0, 1) := by decide +kernel
theorem dX12_acted_150 : decode cX12_acted 150 = .ok (.invokestatic 207, 3) := by decide +kernel
theorem dX12_acted_153 : decode cX12_acted 153 = .ok (.ireturn, 1) := by decide +kernel
theorem dX12_acted_154 : decode cX12_acted 154 = .ok (.iload_n 1, 1) := by decide +kernel
theorem dX12_acted_155 : decode cX12_acted 155 = .ok (.iload_n 2, 1) := by decide +kernel
theorem dX12_acted_156 : decode cX12_acted 156 = .ok (.if_icmp .le 7, 3) := by decide +kernel
theorem dX12_acted_159 : decode cX12_acted 159 = .ok (.iconst 1, 1) := by decide +kernel
theorem dX12_acted_160 : decode cX12_acted 160 = .ok (.goto 4, 3) := by decide +kernel
theorem dX12_acted_163 : decode cX12_acted 163 = .ok (.iconst 0, 1) := by decide +kernel
theorem dX12_acted_164 : decode cX12_acted 164 = .ok (.invokestatic 207, 3) := by decide +kernel
theorem dX12_acted_167 : decode cX12_acted 167 = .ok (.ireturn, 1) := by decide +kernel
theorem dX12_acted_168 : decode cX12_acted 168 = .ok (.iload_n 1, 1) := by decide +kernel
theorem dX12_acted_169 : decode cX12_acted 169 = .ok (.iload_n 2, 1) := by decide +kernel
theorem dX12_acted_170 : decode cX12_acted 170 = .ok (.if_icmp .ne 7, 3) := by decide +kernel
theorem dX12_acted_173 : decode cX12_acted 173 = .ok (.iconst 1, 1) := by decide +kernel
theorem dX12_acted_174 : decode cX12_acted 174 = .ok (.goto 4, 3) := by decide +kernel
theorem dX12_acted_177 : decode cX12_acted 177 = .ok (.iconst 0, 1) := by decide +kernel
theorem dX12_acted_178 : decode cX12_acted 178 = .ok (.invokestatic 207, 3) := by decide +kernel
theorem dX12_acted_181 : decode cX12_acted 181 = .ok (.ireturn, 1) := by decide +kernel
theorem dX12_acted_182 : decode cX12_acted 182 = .ok (.iload_n 1, 1) := by decide +kernel
theorem dX12_acted_183 : decode cX12_acted 183 = .ok (.ifCond .eq 11, 3) := by decide +kernel
theorem dX12_acted_186 : decode cX12_acted 186 = .ok (.iload_n 2, 1) := by decide +kernel
theorem dX12_acted_187 : decode cX12_acted 187 = .ok (.ifCond .eq 7, 3) := by decide +kernel
theorem dX12_acted_190 : decode cX12_acted 190 = .ok (.iconst 1, 1) := by decide +kernel
theorem dX12_acted_191 : decode cX12_acted 191 = .ok (.goto 4, 3) := by decide +kernel
theorem dX12_acted_194 : decode cX12_acted 194 = .ok (.iconst 0, 1) := by decide +kernel
theorem dX12_acted_195 : decode cX12_acted 195 = .ok (.invokestatic 207, 3) := by decide +kernel
theorem dX12_acted_198 : decode cX12_acted 198 = .ok (.ireturn, 1) := by decide +kernel
theorem dX12_acted_199 : decode cX12_acted 199 = .ok (.iload_n 1, 1) := by decide +kernel
theorem dX12_acted_200 : decode cX12_acted 200 = .ok (.ifCond .ne 7, 3) := by decide +kernel
theorem dX12_acted_203 : decode cX12_acted 203 = .ok (.iload_n 2, 1) := by decide +kernel
theorem dX12_acted_204 : decode cX12_acted 204 = .ok (.ifCond .eq 7, 3) := by decide +kernel
theorem dX12_acted_207 : decode cX12_acted 207 = .ok (.iconst 1, 1) := by decide +kernel
theorem dX12_acted_208 : decode cX12_acted 208 = .ok (.goto 4, 3) := by decide +kernel
theorem dX12_acted_211 : decode cX12_acted 211 = .ok (.iconst 0, 1) := by decide +kernel
theorem dX12_acted_212 : decode cX12_acted 212 = .ok (.invokestatic 207, 3) := by decide +kernel
theorem dX12_acted_215 : decode cX12_acted 215 = .ok (.ireturn, 1) := by decide +kernel
theorem dX12_worked_0 : decode cX12_worked 0 = .ok (.iconst 0, 1) := by decide +kernel
theorem dX12_worked_1 : decode cX12_worked 1 = .ok (.istore_n 2, 1) := by decide +kernel
theorem dX12_worked_2 : decode cX12_worked 2 = .ok (.iconst 0, 1) := by decide +kernel
theorem dX12_worked_3 : decode cX12_worked 3 = .ok (.istore_n 3, 1) := by decide +kernel
theorem dX12_worked_4 : decode cX12_worked 4 = .ok (.iload_n 3, 1) := by decide +kernel
theorem dX12_worked_5 : decode cX12_worked 5 = .ok (.aload_n 0, 1) := by decide +kernel
theorem dX12_worked_6 : decode cX12_worked 6 = .ok (.getfield 137, 3) := by decide +kernel
theorem dX12_worked_9 : decode cX12_worked 9 = .ok (.iload_n 1, 1) := by decide +kernel
theorem dX12_worked_10 : decode cX12_worked 10 = .ok (.iaload, 1) := by decide +kernel
theorem dX12_worked_11 : decode cX12_worked 11 = .ok (.if_icmp .ge 165, 3) := by decide +kernel
theorem dX12_worked_14 : decode cX12_worked 14 = .ok (.aload_n 0, 1) := by decide +kernel
theorem dX12_worked_15 : decode cX12_worked 15 = .ok (.getfield 134, 3) := by decide +kernel
theorem dX12_worked_18 : decode cX12_worked 18 = .ok (.bipush 48, 2) := by decide +kernel
theorem dX12_worked_20 : decode cX12_worked 20 = .ok (.iload_n 1, 1) := by decide +kernel
theorem dX12_worked_21 : decode cX12_worked 21 = .ok (.imul, 1) := by decide +kernel
theorem dX12_worked_22 : decode cX12_worked 22 = .ok (.iload_n 3, 1) := by decide +kernel
theorem dX12_worked_23 : decode cX12_worked 23 = .ok (.iadd, 1) := by decide +kernel
theorem dX12_worked_24 : decode cX12_worked 24 = .ok (.iaload, 1) := by decide +kernel
theorem dX12_worked_25 : decode cX12_worked 25 = .ok (.istore 4, 2) := by decide +kernel
theorem dX12_worked_27 : decode cX12_worked 27 = .ok (.iload 4, 2) := by decide +kernel
theorem dX12_worked_29 : decode cX12_worked 29 = .ok (.sipush 2000, 3) := by decide +kernel
theorem dX12_worked_32 : decode cX12_worked 32 = .ok (.if_icmp .ge 38, 3) := by decide +kernel
theorem dX12_worked_35 : decode cX12_worked 35 = .ok (.aload_n 0, 1) := by decide +kernel
theorem dX12_worked_36 : decode cX12_worked 36 = .ok (.getfield 221, 3) := by decide +kernel
theorem dX12_worked_39 : decode cX12_worked 39 = .ok (.iload_n 2, 1) := by decide +kernel
theorem dX12_worked_40 : decode cX12_worked 40 = .ok (.iload 4, 2) := by decide +kernel
theorem dX12_worked_42 : decode cX12_worked 42 = .ok (.sipush 1000, 3) := by decide +kernel
theorem dX12_worked_45 : decode cX12_worked 45 = .ok (.if_icmp .ge 8, 3) := by decide +kernel
theorem dX12_worked_48 : decode cX12_worked 48 = .ok (.iload 4, 2) := by decide +kernel
theorem dX12_worked_50 : decode cX12_worked 50 = .ok (.goto 13, 3) := by decide +kernel
theorem dX12_worked_53 : decode cX12_worked 53 = .ok (.aload_n 0, 1) := by decide +kernel
theorem dX12_worked_54 : decode cX12_worked 54 = .ok (.iload 4, 2) := by decide +kernel
theorem dX12_worked_56 : decode cX12_worked 56 = .ok (.sipush 1000, 3) := by decide +kernel
theorem dX12_worked_59 : decode cX12_worked 59 = .ok (.isub, 1) := by decide +kernel
theorem dX12_worked_60 : decode cX12_worked 60 = .ok (.invokevirtual 224, 3) := by decide +kernel
theorem dX12_worked_63 : decode cX12_worked 63 = .ok (.iastore, 1) := by decide +kernel
theorem dX12_worked_64 : decode cX12_worked 64 = .ok (.iinc 2 1, 3) := by decide +kernel
theorem dX12_worked_67 : decode cX12_worked 67 = .ok (.goto 103, 3) := by decide +kernel
theorem dX12_worked_70 : decode cX12_worked 70 = .ok (.iload 4, 2) := by decide +kernel
theorem dX12_worked_72 : decode cX12_worked 72 = .ok (.sipush 2033, 3) := by decide +kernel
theorem dX12_worked_75 : decode cX12_worked 75 = .ok (.if_icmp .ne 33, 3) := by decide +kernel
theorem dX12_worked_78 : decode cX12_worked 78 = .ok (.aload_n 0, 1) := by decide +kernel
theorem dX12_worked_79 : decode cX12_worked 79 = .ok (.getfield 221, 3) := by decide +kernel
theorem dX12_worked_82 : decode cX12_worked 82 = .ok (.iload_n 2, 1) := by decide +kernel
theorem dX12_worked_83 : decode cX12_worked 83 = .ok (.iconst 1, 1) := by decide +kernel
theorem dX12_worked_84 : decode cX12_worked 84 = .ok (.isub, 1) := by decide +kernel
theorem dX12_worked_85 : decode cX12_worked 85 = .ok (.aload_n 0, 1) := by decide +kernel
theorem dX12_worked_86 : decode cX12_worked 86 = .ok (.getfield 221, 3) := by decide +kernel
theorem dX12_worked_89 : decode cX12_worked 89 = .ok (.iload_n 2, 1) := by decide +kernel
theorem dX12_worked_90 : decode cX12_worked 90 = .ok (.iconst 1, 1) := by decide +kernel
theorem dX12_worked_91 : decode cX12_worked 91 = .ok (.isub, 1) := by decide +kernel
theorem dX12_worked_92 : decode cX12_worked 92 = .ok (.iaload, 1) := by decide +kernel
theorem dX12_worked_93 : decode cX12_worked 93 = .ok (.ifCond .ne 7, 3) := by decide +kernel
theorem dX12_worked_96 : decode cX12_worked 96 = .ok (.iconst 1, 1) := by decide +kernel
theorem dX12_worked_97 : decode cX12_worked 97 = .ok (.goto 4, 3) := by decide +kernel
theorem dX12_worked_100 : decode cX12_worked 100 = .ok (.iconst 0, 1) := by decide +kernel
theorem dX12_worked_101 : decode cX12_worked 101 = .ok (.invokestatic 207, 3) := by decide +kernel
theorem dX12_worked_104 : decode cX12_worked 104 = .ok (.iastore, 1) := by decide +kernel
theorem dX12_worked_105 : decode cX12_worked 105 = .ok (.goto 65, 3) := by decide +kernel
theorem dX12_worked_108 : decode cX12_worked 108 = .ok (.iload 4, 2) := by decide +kernel
theorem dX12_worked_110 : decode cX12_worked 110 = .ok (.sipush 2126, 3) := by decide +kernel
theorem dX12_worked_113 : decode cX12_worked 113 = .ok (.if_icmp .ne 23, 3) := by decide +kernel
theorem dX12_worked_116 : decode cX12_worked 116 = .ok (.aload_n 0, 1) := by decide +kernel
theorem dX12_worked_117 : decode cX12_worked 117 = .ok (.getfield 221, 3) := by decide +kernel
theorem dX12_worked_120 : decode cX12_worked 120 = .ok (.iload_n 2, 1) := by decide +kernel
theorem dX12_worked_121 : decode cX12_worked 121 = .ok (.iconst 1, 1) := by decide +kernel
theorem dX12_worked_122 : decode cX12_worked 122 = .ok (.isub, 1) := by decide +kernel
theorem dX12_worked_123 : decode cX12_worked 123 = .ok (.aload_n 0, 1) := by decide +kernel
theorem dX12_worked_124 : decode cX12_worked 124 = .ok (.getfield 221, 3) := by decide +kernel
theorem dX12_worked_127 : decode cX12_worked 127 = .ok (.iload_n 2, 1) := by decide +kernel
theorem dX12_worked_128 : decode cX12_worked 128 = .ok (.iconst 1, 1) := by decide +kernel
theorem dX12_worked_129 : decode cX12_worked 129 = .ok (.isub, 1) := by decide +kernel
theorem dX12_worked_130 : decode cX12_worked 130 = .ok (.iaload, 1) := by decide +kernel
theorem dX12_worked_131 : decode cX12_worked 131 = .ok (.ineg, 1) := by decide +kernel
theorem dX12_worked_132 : decode cX12_worked 132 = .ok (.iastore, 1) := by decide +kernel
theorem dX12_worked_133 : decode cX12_worked 133 = .ok (.goto 37, 3) := by decide +kernel
theorem dX12_worked_136 : decode cX12_worked 136 = .ok (.iinc 2 (-1), 3) := by decide +kernel
theorem dX12_worked_139 : decode cX12_worked 139 = .ok (.aload_n 0, 1) := by decide +kernel
theorem dX12_worked_140 : decode cX12_worked 140 = .ok (.getfield 221, 3) := by decide +kernel
theorem dX12_worked_143 : decode cX12_worked 143 = .ok (.iload_n 2, 1) := by decide +kernel
theorem dX12_worked_144 : decode cX12_worked 144 = .ok (.iconst 1, 1) := by decide +kernel
theorem dX12_worked_145 : decode cX12_worked 145 = .ok (.isub, 1) := by decide +kernel
theorem dX12_worked_146 : decode cX12_worked 146 = .ok (.iload 4, 2) := by decide +kernel
theorem dX12_worked_148 : decode cX12_worked 148 = .ok (.sipush 2000, 3) := by decide +kernel
theorem dX12_worked_151 : decode cX12_worked 151 = .ok (.isub, 1) := by decide +kernel
theorem dX12_worked_152 : decode cX12_worked 152 = .ok (.aload_n 0, 1) := by decide +kernel
theorem dX12_worked_153 : decode cX12_worked 153 = .ok (.getfield 221, 3) := by decide +kernel
theorem dX12_worked_156 : decode cX12_worked 156 = .ok (.iload_n 2, 1) := by decide +kernel
theorem dX12_worked_157 : decode cX12_worked 157 = .ok (.iconst 1, 1) := by decide +kernel
theorem dX12_worked_158 : decode cX12_worked 158 = .ok (.isub, 1) := by decide +kernel
theorem dX12_worked_159 : decode cX12_worked 159 = .ok (.iaload, 1) := by decide +kernel
theorem dX12_worked_160 : decode cX12_worked 160 = .ok (.aload_n 0, 1) := by decide +kernel
theorem dX12_worked_161 : decode cX12_worked 161 = .ok (.getfield 221, 3) := by decide +kernel
theorem dX12_worked_164 : decode cX12_worked 164 = .ok (.iload_n 2, 1) := by decide +kernel
theorem dX12_worked_165 : decode cX12_worked 165 = .ok (.iaload, 1) := by decide +kernel
theorem dX12_worked_166 : decode cX12_worked 166 = .ok (.invokestatic 227, 3) := by decide +kernel
theorem dX12_worked_169 : decode cX12_worked 169 = .ok (.iastore, 1) := by decide +kernel
theorem dX12_worked_170 : decode cX12_worked 170 = .ok (.iinc 3 1, 3) := by decide +kernel
theorem dX12_worked_173 : decode cX12_worked 173 = .ok (.goto (-169), 3) := by decide +kernel
theorem dX12_worked_176 : decode cX12_worked 176 = .ok (.aload_n 0, 1) := by decide +kernel
theorem dX12_worked_177 : decode cX12_worked 177 = .ok (.getfield 221, 3) := by decide +kernel
theorem dX12_worked_180 : decode cX12_worked 180 = .ok (.iconst 0, 1) := by decide +kernel
theorem dX12_worked_181 : decode cX12_worked 181 = .ok (.iaload, 1) := by decide +kernel
theorem dX12_worked_182 : decode cX12_worked 182 = .ok (.ireturn, 1) := by decide +kernel
theorem dX12_lawed_0 : decode cX12_lawed 0 = .ok (.aload_n 0, 1) := by decide +kernel
theorem dX12_lawed_1 : decode cX12_lawed 1 = .ok (.getfield 137, 3) := by decide +kernel
theorem dX12_lawed_4 : decode cX12_lawed 4 = .ok (.iload_n 1, 1) := by decide +kernel
theorem dX12_lawed_5 : decode cX12_lawed 5 = .ok (.iaload, 1) := by decide +kernel
theorem dX12_lawed_6 : decode cX12_lawed 6 = .ok (.ifCond .le 11, 3) := by decide +kernel
theorem dX12_lawed_9 : decode cX12_lawed 9 = .ok (.aload_n 0, 1) := by decide +kernel
theorem dX12_lawed_10 : decode cX12_lawed 10 = .ok (.iload_n 1, 1) := by decide +kernel
theorem dX12_lawed_11 : decode cX12_lawed 11 = .ok (.invokevirtual 230, 3) := by decide +kernel
theorem dX12_lawed_14 : decode cX12_lawed 14 = .ok (.goto 4, 3) := by decide +kernel
theorem dX12_lawed_17 : decode cX12_lawed 17 = .ok (.iload_n 2, 1) := by decide +kernel
theorem dX12_lawed_18 : decode cX12_lawed 18 = .ok (.istore 4, 2) := by decide +kernel
theorem dX12_lawed_20 : decode cX12_lawed 20 = .ok (.iconst 0, 1) := by decide +kernel
theorem dX12_lawed_21 : decode cX12_lawed 21 = .ok (.iload_n 3, 1) := by decide +kernel
theorem dX12_lawed_22 : decode cX12_lawed 22 = .ok (.iload 4, 2) := by decide +kernel
theorem dX12_lawed_24 : decode cX12_lawed 24 = .ok (.invokestatic 99, 3) := by decide +kernel
theorem dX12_lawed_27 : decode cX12_lawed 27 = .ok (.invokestatic 233, 3) := by decide +kernel
theorem dX12_lawed_30 : decode cX12_lawed 30 = .ok (.ireturn, 1) := by decide +kernel
theorem dX12_bags_0 : decode cX12_bags 0 = .ok (.aload_n 0, 1) := by decide +kernel
theorem dX12_bags_1 : decode cX12_bags 1 = .ok (.iconst 0, 1) := by decide +kernel
theorem dX12_bags_2 : decode cX12_bags 2 = .ok (.iload_n 1, 1) := by decide +kernel
theorem dX12_bags_3 : decode cX12_bags 3 = .ok (.iload_n 2, 1) := by decide +kernel
theorem dX12_bags_4 : decode cX12_bags 4 = .ok (.sipush 999, 3) := by decide +kernel
theorem dX12_bags_7 : decode cX12_bags 7 = .ok (.iconst 0, 1) := by decide +kernel
theorem dX12_bags_8 : decode cX12_bags 8 = .ok (.aload_n 0, 1) := by decide +kernel
theorem dX12_bags_9 : decode cX12_bags 9 = .ok (.iconst 0, 1) := by decide +kernel
theorem dX12_bags_10 : decode cX12_bags 10 = .ok (.iload_n 1, 1) := by decide +kernel
theorem dX12_bags_11 : decode cX12_bags 11 = .ok (.iload_n 2, 1) := by decide +kernel
theorem dX12_bags_12 : decode cX12_bags 12 = .ok (.invokevirtual 92, 3) := by decide +kernel
theorem dX12_bags_15 : decode cX12_bags 15 = .ok (.invokestatic 233, 3) := by decide +kernel
theorem dX12_bags_18 : decode cX12_bags 18 = .ok (.iload_n 3, 1) := by decide +kernel
theorem dX12_bags_19 : decode cX12_bags 19 = .ok (.iadd, 1) := by decide +kernel
theorem dX12_bags_20 : decode cX12_bags 20 = .ok (.invokestatic 99, 3) := by decide +kernel
theorem dX12_bags_23 : decode cX12_bags 23 = .ok (.invokevirtual 95, 3) := by decide +kernel
theorem dX12_bags_26 : decode cX12_bags 26 = .ok (.return_, 1) := by decide +kernel
theorem dX12_live_0 : decode cX12_live 0 = .ok (.aload_n 0, 1) := by decide +kernel
theorem dX12_live_1 : decode cX12_live 1 = .ok (.iconst 0, 1) := by decide +kernel
theorem dX12_live_2 : decode cX12_live 2 = .ok (.putfield 3, 3) := by decide +kernel
theorem dX12_live_5 : decode cX12_live 5 = .ok (.aload_n 0, 1) := by decide +kernel
theorem dX12_live_6 : decode cX12_live 6 = .ok (.iload_n 1, 1) := by decide +kernel
theorem dX12_live_7 : decode cX12_live 7 = .ok (.invokevirtual 236, 3) := by decide +kernel
theorem dX12_live_10 : decode cX12_live 10 = .ok (.ifCond .eq 10, 3) := by decide +kernel
theorem dX12_live_13 : decode cX12_live 13 = .ok (.iload_n 2, 1) := by decide +kernel
theorem dX12_live_14 : decode cX12_live 14 = .ok (.invokestatic 68, 3) := by decide +kernel
theorem dX12_live_17 : decode cX12_live 17 = .ok (.ifCond .ne 5, 3) := by decide +kernel
theorem dX12_live_20 : decode cX12_live 20 = .ok (.iconst (-1), 1) := by decide +kernel
theorem dX12_live_21 : decode cX12_live 21 = .ok (.ireturn, 1) := by decide +kernel
theorem dX12_live_22 : decode cX12_live 22 = .ok (.bipush 12, 2) := by decide +kernel
theorem dX12_live_24 : decode cX12_live 24 = .ok (.iload_n 1, 1) := by decide +kernel
theorem dX12_live_25 : decode cX12_live 25 = .ok (.imul, 1) := by decide +kernel
theorem dX12_live_26 : decode cX12_live 26 = .ok (.iload_n 2, 1) := by decide +kernel
theorem dX12_live_27 : decode cX12_live 27 = .ok (.iadd, 1) := by decide +kernel
theorem dX12_live_28 : decode cX12_live 28 = .ok (.istore_n 3, 1) := by decide +kernel
theorem dX12_live_29 : decode cX12_live 29 = .ok (.bipush 12, 2) := by decide +kernel
theorem dX12_live_31 : decode cX12_live 31 = .ok (.iload_n 1, 1) := by decide +kernel
theorem dX12_live_32 : decode cX12_live 32 = .ok (.iconst 1, 1) := by decide +kernel
theorem dX12_live_33 : decode cX12_live 33 = .ok (.iadd, 1) := by decide +kernel
theorem dX12_live_34 : decode cX12_live 34 = .ok (.aload_n 0, 1) := by decide +kernel
theorem dX12_live_35 : decode cX12_live 35 = .ok (.getfield 29, 3) := by decide +kernel
theorem dX12_live_38 : decode cX12_live 38 = .ok (.irem, 1) := by decide +kernel
theorem dX12_live_39 : decode cX12_live 39 = .ok (.imul, 1) := by decide +kernel
theorem dX12_live_40 : decode cX12_live 40 = .ok (.iload_n 2, 1) := by decide +kernel
theorem dX12_live_41 : decode cX12_live 41 = .ok (.iadd, 1) := by decide +kernel
theorem dX12_live_42 : decode cX12_live 42 = .ok (.istore 4, 2) := by decide +kernel
theorem dX12_live_44 : decode cX12_live 44 = .ok (.iconst 0, 1) := by decide +kernel
theorem dX12_live_45 : decode cX12_live 45 = .ok (.istore 5, 2) := by decide +kernel
theorem dX12_live_47 : decode cX12_live 47 = .ok (.aload_n 0, 1) := by decide +kernel
theorem dX12_live_48 : decode cX12_live 48 = .ok (.iload_n 1, 1) := by decide +kernel
theorem dX12_live_49 : decode cX12_live 49 = .ok (.putfield 198, 3) := by decide +kernel
theorem dX12_live_52 : decode cX12_live 52 = .ok (.aload_n 0, 1) := by decide +kernel
theorem dX12_live_53 : decode cX12_live 53 = .ok (.iload_n 2, 1) := by decide +kernel
theorem dX12_live_54 : decode cX12_live 54 = .ok (.putfield 201, 3) := by decide +kernel
theorem dX12_live_57 : decode cX12_live 57 = .ok (.iconst 0, 1) := by decide +kernel
theorem dX12_live_58 : decode cX12_live 58 = .ok (.istore 6, 2) := by decide +kernel
theorem dX12_live_60 : decode cX12_live 60 = .ok (.iload 6, 2) := by decide +kernel
theorem dX12_live_62 : decode cX12_live 62 = .ok (.aload_n 0, 1) := by decide +kernel
theorem dX12_live_63 : decode cX12_live 63 = .ok (.getfield 22, 3) := by decide +kernel
theorem dX12_live_66 : decode cX12_live 66 = .ok (.if_icmp .ge 206, 3) := by decide +kernel
theorem dX12_live_69 : decode cX12_live 69 = .ok (.aload_n 0, 1) := by decide +kernel
theorem dX12_live_70 : decode cX12_live 70 = .ok (.iload 6, 2) := by decide +kernel
theorem dX12_live_72 : decode cX12_live 72 = .ok (.putfield 204, 3) := by decide +kernel
theorem dX12_live_75 : decode cX12_live 75 = .ok (.aload_n 0, 1) := by decide +kernel
theorem dX12_live_76 : decode cX12_live 76 = .ok (.aload_n 0, 1) := by decide +kernel
theorem dX12_live_77 : decode cX12_live 77 = .ok (.iconst 0, 1) := by decide +kernel
theorem dX12_live_78 : decode cX12_live 78 = .ok (.iconst 0, 1) := by decide +kernel
theorem dX12_live_79 : decode cX12_live 79 = .ok (.sipush 999, 3) := by decide +kernel
theorem dX12_live_82 : decode cX12_live 82 = .ok (.invokevirtual 239, 3) := by decide +kernel
theorem dX12_live_85 : decode cX12_live 85 = .ok (.putfield 215, 3) := by decide +kernel
theorem dX12_live_88 : decode cX12_live 88 = .ok (.aload_n 0, 1) := by decide +kernel
theorem dX12_live_89 : decode cX12_live 89 = .ok (.aload_n 0, 1) := by decide +kernel
theorem dX12_live_90 : decode cX12_live 90 = .ok (.iconst 1, 1) := by decide +kernel
theorem dX12_live_91 : decode cX12_live 91 = .ok (.aload_n 0, 1) := by decide +kernel
theorem dX12_live_92 : decode cX12_live 92 = .ok (.getfield 215, 3) := by decide +kernel
theorem dX12_live_95 : decode cX12_live 95 = .ok (.aload_n 0, 1) := by decide +kernel
theorem dX12_live_96 : decode cX12_live 96 = .ok (.getfield 215, 3) := by decide +kernel
theorem dX12_live_99 : decode cX12_live 99 = .ok (.invokevirtual 239, 3) := by decide +kernel
theorem dX12_live_102 : decode cX12_live 102 = .ok (.putfield 218, 3) := by decide +kernel
theorem dX12_live_105 : decode cX12_live 105 = .ok (.aload_n 0, 1) := by decide +kernel
theorem dX12_live_106 : decode cX12_live 106 = .ok (.getfield 218, 3) := by decide +kernel
theorem dX12_live_109 : decode cX12_live 109 = .ok (.aload_n 0, 1) := by decide +kernel
theorem dX12_live_110 : decode cX12_live 110 = .ok (.getfield 42, 3) := by decide +kernel
theorem dX12_live_113 : decode cX12_live 113 = .ok (.iload 6, 2) := by decide +kernel
theorem dX12_live_115 : decode cX12_live 115 = .ok (.iaload, 1) := by decide +kernel
theorem dX12_live_116 : decode cX12_live 116 = .ok (.imul, 1) := by decide +kernel
theorem dX12_live_117 : decode cX12_live 117 = .ok (.bipush 100, 2) := by decide +kernel
theorem dX12_live_119 : decode cX12_live 119 = .ok (.idiv, 1) := by decide +kernel
theorem dX12_live_120 : decode cX12_live 120 = .ok (.aload_n 0, 1) := by decide +kernel
theorem dX12_live_121 : decode cX12_live 121 = .ok (.getfield 215, 3) := by decide +kernel
theorem dX12_live_124 : decode cX12_live 124 = .ok (.iadd, 1) := by decide +kernel
theorem dX12_live_125 : decode cX12_live 125 = .ok (.aload_n 0, 1) := by decide +kernel
theorem dX12_live_126 : decode cX12_live 126 = .ok (.getfield 218, 3) := by decide +kernel
theorem dX12_live_129 : decode cX12_live 129 = .ok (.isub, 1) := by decide +kernel
theorem dX12_live_130 : decode cX12_live 130 = .ok (.istore 7, 2) := by decide +kernel
theorem dX12_live_132 : decode cX12_live 132 = .ok (.iload 7, 2) := by decide +kernel
theorem dX12_live_134 : decode cX12_live 134 = .ok (.aload_n 0, 1) := by decide +kernel
theorem dX12_live_135 : decode cX12_live 135 = .ok (.getfield 62, 3) := by decide +kernel
theorem dX12_live_138 : decode cX12_live 138 = .ok (.iload 6, 2) := by decide +kernel
theorem dX12_live_140 : decode cX12_live 140 = .ok (.iaload, 1) := by decide +kernel
theorem dX12_live_141 : decode cX12_live 141 = .ok (.imul, 1) := by decide +kernel
theorem dX12_live_142 : decode cX12_live 142 = .ok (.bipush 100, 2) := by decide +kernel
theorem dX12_live_144 : decode cX12_live 144 = .ok (.idiv, 1) := by decide +kernel
theorem dX12_live_145 : decode cX12_live 145 = .ok (.istore 8, 2) := by decide +kernel
theorem dX12_live_147 : decode cX12_live 147 = .ok (.iload 7, 2) := by decide +kernel
theorem dX12_live_149 : decode cX12_live 149 = .ok (.iload 7, 2) := by decide +kernel
theorem dX12_live_151 : decode cX12_live 151 = .ok (.aload_n 0, 1) := by decide +kernel
theorem dX12_live_152 : decode cX12_live 152 = .ok (.getfield 56, 3) := by decide +kernel
theorem dX12_live_155 : decode cX12_live 155 = .ok (.iload 6, 2) := by decide +kernel
theorem dX12_live_157 : decode cX12_live 157 = .ok (.iaload, 1) := by decide +kernel
theorem dX12_live_158 : decode cX12_live 158 = .ok (.imul, 1) := by decide +kernel
theorem dX12_live_159 : decode cX12_live 159 = .ok (.bipush 100, 2) := by decide +kernel
theorem dX12_live_161 : decode cX12_live 161 = .ok (.idiv, 1) := by decide +kernel
theorem dX12_live_162 : decode cX12_live 162 = .ok (.isub, 1) := by decide +kernel
theorem dX12_live_163 : decode cX12_live 163 = .ok (.iload 7, 2) := by decide +kernel
theorem dX12_live_165 : decode cX12_live 165 = .ok (.aload_n 0, 1) := by decide +kernel
theorem dX12_live_166 : decode cX12_live 166 = .ok (.getfield 59, 3) := by decide +kernel
theorem dX12_live_169 : decode cX12_live 169 = .ok (.iload 6, 2) := by decide +kernel
theorem dX12_live_171 : decode cX12_live 171 = .ok (.iaload, 1) := by decide +kernel
theorem dX12_live_172 : decode cX12_live 172 = .ok (.imul, 1) := by decide +kernel
theorem dX12_live_173 : decode cX12_live 173 = .ok (.bipush 100, 2) := by decide +kernel
theorem dX12_live_175 : decode cX12_live 175 = .ok (.idiv, 1) := by decide +kernel
theorem dX12_live_176 : decode cX12_live 176 = .ok (.isub, 1) := by decide +kernel
theorem dX12_live_177 : decode cX12_live 177 = .ok (.iload 8, 2) := by decide +kernel
theorem dX12_live_179 : decode cX12_live 179 = .ok (.isub, 1) := by decide +kernel
theorem dX12_live_180 : decode cX12_live 180 = .ok (.istore 9, 2) := by decide +kernel
theorem dX12_live_182 : decode cX12_live 182 = .ok (.aload_n 0, 1) := by decide +kernel
theorem dX12_live_183 : decode cX12_live 183 = .ok (.iload_n 3, 1) := by decide +kernel
theorem dX12_live_184 : decode cX12_live 184 = .ok (.iload 6, 2) := by decide +kernel
theorem dX12_live_186 : decode cX12_live 186 = .ok (.iload 9, 2) := by decide +kernel
theorem dX12_live_188 : decode cX12_live 188 = .ok (.invokevirtual 242, 3) := by decide +kernel
theorem dX12_live_191 : decode cX12_live 191 = .ok (.iload 8, 2) := by decide +kernel
theorem dX12_live_193 : decode cX12_live 193 = .ok (.ifCond .le 13, 3) := by decide +kernel
theorem dX12_live_196 : decode cX12_live 196 = .ok (.aload_n 0, 1) := by decide +kernel
theorem dX12_live_197 : decode cX12_live 197 = .ok (.iload 4, 2) := by decide +kernel
theorem dX12_live_199 : decode cX12_live 199 = .ok (.iload 6, 2) := by decide +kernel
theorem dX12_live_201 : decode cX12_live 201 = .ok (.iload 8, 2) := by decide +kernel
theorem dX12_live_203 : decode cX12_live 203 = .ok (.invokevirtual 242, 3) := by decide +kernel
theorem dX12_live_206 : decode cX12_live 206 = .ok (.iload 5, 2) := by decide +kernel
theorem dX12_live_208 : decode cX12_live 208 = .ok (.iload 9, 2) := by decide +kernel
theorem dX12_live_210 : decode cX12_live 210 = .ok (.iadd, 1) := by decide +kernel
theorem dX12_live_211 : decode cX12_live 211 = .ok (.istore 5, 2) := by decide +kernel
theorem dX12_live_213 : decode cX12_live 213 = .ok (.aload_n 0, 1) := by decide +kernel
theorem dX12_live_214 : decode cX12_live 214 = .ok (.iconst 1, 1) := by decide +kernel
theorem dX12_live_215 : decode cX12_live 215 = .ok (.iload_n 3, 1) := by decide +kernel
theorem dX12_live_216 : decode cX12_live 216 = .ok (.iload 6, 2) := by decide +kernel
theorem dX12_live_218 : decode cX12_live 218 = .ok (.aload_n 0, 1) := by decide +kernel
theorem dX12_live_219 : decode cX12_live 219 = .ok (.getfield 215, 3) := by decide +kernel
theorem dX12_live_222 : decode cX12_live 222 = .ok (.invokevirtual 95, 3) := by decide +kernel
theorem dX12_live_225 : decode cX12_live 225 = .ok (.iconst 0, 1) := by decide +kernel
theorem dX12_live_226 : decode cX12_live 226 = .ok (.istore 10, 2) := by decide +kernel
theorem dX12_live_228 : decode cX12_live 228 = .ok (.iload 10, 2) := by decide +kernel
theorem dX12_live_230 : decode cX12_live 230 = .ok (.iconst 4, 1) := by decide +kernel
theorem dX12_live_231 : decode cX12_live 231 = .ok (.if_icmp .ge 35, 3) := by decide +kernel
theorem dX12_live_234 : decode cX12_live 234 = .ok (.aload_n 0, 1) := by decide +kernel
theorem dX12_live_235 : decode cX12_live 235 = .ok (.iconst 2, 1) := by decide +kernel
theorem dX12_live_236 : decode cX12_live 236 = .ok (.iload 10, 2) := by decide +kernel
theorem dX12_live_238 : decode cX12_live 238 = .ok (.iadd, 1) := by decide +kernel
theorem dX12_live_239 : decode cX12_live 239 = .ok (.iload_n 3, 1) := by decide +kernel
theorem dX12_live_240 : decode cX12_live 240 = .ok (.iload 6, 2) := by decide +kernel
theorem dX12_live_242 : decode cX12_live 242 = .ok (.aload_n 0, 1) := by decide +kernel
theorem dX12_live_243 : decode cX12_live 243 = .ok (.iconst 2, 1) := by decide +kernel
theorem dX12_live_244 : decode cX12_live 244 = .ok (.iload 10, 2) := by decide +kernel
theorem dX12_live_246 : decode cX12_live 246 = .ok (.iadd, 1) := by decide +kernel
theorem dX12_live_247 : decode cX12_live 247 = .ok (.aload_n 0, 1) := by decide +kernel
theorem dX12_live_248 : decode cX12_live 248 = .ok (.getfield 218, 3) := by decide +kernel
theorem dX12_live_251 : decode cX12_live 251 = .ok (.sipush 999, 3) := by decide +kernel
theorem dX12_live_254 : decode cX12_live 254 = .ok (.invokevirtual 239, 3) := by decide +kernel
theorem dX12_live_257 : decode cX12_live 257 = .ok (.invokevirtual 95, 3) := by decide +kernel
theorem dX12_live_260 : decode cX12_live 260 = .ok (.iinc 10 1, 3) := by decide +kernel
theorem dX12_live_263 : decode cX12_live 263 = .ok (.goto (-35), 3) := by decide +kernel
theorem dX12_live_266 : decode cX12_live 266 = .ok (.iinc 6 1, 3) := by decide +kernel
theorem dX12_live_269 : decode cX12_live 269 = .ok (.goto (-209), 3) := by decide +kernel
theorem dX12_live_272 : decode cX12_live 272 = .ok (.iload 5, 2) := by decide +kernel
theorem dX12_live_274 : decode cX12_live 274 = .ok (.ireturn, 1) := by decide +kernel
theorem dX12_seed_0 : decode cX12_seed 0 = .ok (.aload_n 0, 1) := by decide +kernel
theorem dX12_seed_1 : decode cX12_seed 1 = .ok (.iconst 0, 1) := by decide +kernel
theorem dX12_seed_2 : decode cX12_seed 2 = .ok (.putfield 3, 3) := by decide +kernel
theorem dX12_seed_5 : decode cX12_seed 5 = .ok (.aload_n 0, 1) := by decide +kernel
theorem dX12_seed_6 : decode cX12_seed 6 = .ok (.getfield 194, 3) := by decide +kernel
theorem dX12_seed_9 : decode cX12_seed 9 = .ok (.istore_n 2, 1) := by decide +kernel
theorem dX12_seed_10 : decode cX12_seed 10 = .ok (.aload_n 0, 1) := by decide +kernel
theorem dX12_seed_11 : decode cX12_seed 11 = .ok (.iload_n 1, 1) := by decide +kernel
theorem dX12_seed_12 : decode cX12_seed 12 = .ok (.putfield 194, 3) := by decide +kernel
theorem dX12_seed_15 : decode cX12_seed 15 = .ok (.iload_n 2, 1) := by decide +kernel
theorem dX12_seed_16 : decode cX12_seed 16 = .ok (.ireturn, 1) := by decide +kernel
theorem dX12_sum_0 : decode cX12_sum 0 = .ok (.aload_n 0, 1) := by decide +kernel
theorem dX12_sum_1 : decode cX12_sum 1 = .ok (.iconst 0, 1) := by decide +kernel
theorem dX12_sum_2 : decode cX12_sum 2 = .ok (.putfield 3, 3) := by decide +kernel
theorem dX12_sum_5 : decode cX12_sum 5 = .ok (.iload_n 1, 1) := by decide +kernel
theorem dX12_sum_6 : decode cX12_sum 6 = .ok (.invokestatic 82, 3) := by decide +kernel
theorem dX12_sum_9 : decode cX12_sum 9 = .ok (.ifCond .eq 36, 3) := by decide +kernel
theorem dX12_sum_12 : decode cX12_sum 12 = .ok (.aload_n 0, 1) := by decide +kernel
theorem dX12_sum_13 : decode cX12_sum 13 = .ok (.iload_n 2, 1) := by decide +kernel
theorem dX12_sum_14 : decode cX12_sum 14 = .ok (.invokevirtual 52, 3) := by decide +kernel
theorem dX12_sum_17 : decode cX12_sum 17 = .ok (.ifCond .eq 28, 3) := by decide +kernel
theorem dX12_sum_20 : decode cX12_sum 20 = .ok (.iload_n 3, 1) := by decide +kernel
theorem dX12_sum_21 : decode cX12_sum 21 = .ok (.i2l, 1) := by decide +kernel
theorem dX12_sum_22 : decode cX12_sum 22 = .ok (.lconst 1, 1) := by decide +kernel
theorem dX12_sum_23 : decode cX12_sum 23 = .ok (.ldc2_w 246, 3) := by decide +kernel
theorem dX12_sum_26 : decode cX12_sum 26 = .ok (.invokestatic 25, 3) := by decide +kernel
theorem dX12_sum_29 : decode cX12_sum 29 = .ok (.ifCond .eq 16, 3) := by decide +kernel
theorem dX12_sum_32 : decode cX12_sum 32 = .ok (.iload 4, 2) := by decide +kernel
theorem dX12_sum_34 : decode cX12_sum 34 = .ok (.i2l, 1) := by decide +kernel
theorem dX12_sum_35 : decode cX12_sum 35 = .ok (.lconst 1, 1) := by decide +kernel
theorem dX12_sum_36 : decode cX12_sum 36 = .ok (.ldc2_w 248, 3) := by decide +kernel
theorem dX12_sum_39 : decode cX12_sum 39 = .ok (.invokestatic 25, 3) := by decide +kernel
theorem dX12_sum_42 : decode cX12_sum 42 = .ok (.ifCond .ne 5, 3) := by decide +kernel
theorem dX12_sum_45 : decode cX12_sum 45 = .ok (.iconst (-1), 1) := by decide +kernel
theorem dX12_sum_46 : decode cX12_sum 46 = .ok (.ireturn, 1) := by decide +kernel
theorem dX12_sum_47 : decode cX12_sum 47 = .ok (.iconst 0, 1) := by decide +kernel
theorem dX12_sum_48 : decode cX12_sum 48 = .ok (.istore 5, 2) := by decide +kernel
theorem dX12_sum_50 : decode cX12_sum 50 = .ok (.iconst 0, 1) := by decide +kernel
theorem dX12_sum_51 : decode cX12_sum 51 = .ok (.istore 6, 2) := by decide +kernel
theorem dX12_sum_53 : decode cX12_sum 53 = .ok (.iconst 0, 1) := by decide +kernel
theorem dX12_sum_54 : decode cX12_sum 54 = .ok (.istore 7, 2) := by decide +kernel
theorem dX12_sum_56 : decode cX12_sum 56 = .ok (.iload 7, 2) := by decide +kernel
theorem dX12_sum_58 : decode cX12_sum 58 = .ok (.bipush 12, 2) := by decide +kernel
theorem dX12_sum_60 : decode cX12_sum 60 = .ok (.aload_n 0, 1) := by decide +kernel
theorem dX12_sum_61 : decode cX12_sum 61 = .ok (.getfield 29, 3) := by decide +kernel
theorem dX12_sum_64 : decode cX12_sum 64 = .ok (.imul, 1) := by decide +kernel
theorem dX12_sum_65 : decode cX12_sum 65 = .ok (.if_icmp .ge 61, 3) := by decide +kernel
theorem dX12_sum_68 : decode cX12_sum 68 = .ok (.iload_n 3, 1) := by decide +kernel
theorem dX12_sum_69 : decode cX12_sum 69 = .ok (.iload 7, 2) := by decide +kernel
theorem dX12_sum_71 : decode cX12_sum 71 = .ok (.bipush 12, 2) := by decide +kernel
theorem dX12_sum_73 : decode cX12_sum 73 = .ok (.idiv, 1) := by decide +kernel
theorem dX12_sum_74 : decode cX12_sum 74 = .ok (.invokestatic 250, 3) := by decide +kernel
theorem dX12_sum_77 : decode cX12_sum 77 = .ok (.ifCond .eq 43, 3) := by decide +kernel
theorem dX12_sum_80 : decode cX12_sum 80 = .ok (.iload 4, 2) := by decide +kernel
theorem dX12_sum_82 : decode cX12_sum 82 = .ok (.iload 7, 2) := by decide +kernel
theorem dX12_sum_84 : decode cX12_sum 84 = .ok (.bipush 12, 2) := by decide +kernel
theorem dX12_sum_86 : decode cX12_sum 86 = .ok (.irem, 1) := by decide +kernel
theorem dX12_sum_87 : decode cX12_sum 87 = .ok (.invokestatic 250, 3) := by decide +kernel
theorem dX12_sum_90 : decode cX12_sum 90 = .ok (.ifCond .eq 30, 3) := by decide +kernel
theorem dX12_sum_93 : decode cX12_sum 93 = .ok (.aload_n 0, 1) := by decide +kernel
theorem dX12_sum_94 : decode cX12_sum 94 = .ok (.iload_n 1, 1) := by decide +kernel
theorem dX12_sum_95 : decode cX12_sum 95 = .ok (.iload 7, 2) := by decide +kernel
theorem dX12_sum_97 : decode cX12_sum 97 = .ok (.iload_n 2, 1) := by decide +kernel
theorem dX12_sum_98 : decode cX12_sum 98 = .ok (.invokevirtual 254, 3) := by decide +kernel
theorem dX12_sum_101 : decode cX12_sum 101 = .ok (.ifCond .eq 19, 3) := by decide +kernel
theorem dX12_sum_104 : decode cX12_sum 104 = .ok (.iload 5, 2) := by decide +kernel
theorem dX12_sum_106 : decode cX12_sum 106 = .ok (.aload_n 0, 1) := by decide +kernel
theorem dX12_sum_107 : decode cX12_sum 107 = .ok (.iload_n 1, 1) := by decide +kernel
theorem dX12_sum_108 : decode cX12_sum 108 = .ok (.iload 7, 2) := by decide +kernel
theorem dX12_sum_110 : decode cX12_sum 110 = .ok (.iload_n 2, 1) := by decide +kernel
theorem dX12_sum_111 : decode cX12_sum 111 = .ok (.invokevirtual 92, 3) := by decide +kernel
theorem dX12_sum_114 : decode cX12_sum 114 = .ok (.iadd, 1) := by decide +kernel
theorem dX12_sum_115 : decode cX12_sum 115 = .ok (.istore 5, 2) := by decide +kernel
theorem dX12_sum_117 : decode cX12_sum 117 = .ok (.iinc 6 1, 3) := by decide +kernel
theorem dX12_sum_120 : decode cX12_sum 120 = .ok (.iinc 7 1, 3) := by decide +kernel
theorem dX12_sum_123 : decode cX12_sum 123 = .ok (.goto (-67), 3) := by decide +kernel
theorem dX12_sum_126 : decode cX12_sum 126 = .ok (.aload_n 0, 1) := by decide +kernel
theorem dX12_sum_127 : decode cX12_sum 127 = .ok (.iconst 0, 1) := by decide +kernel
theorem dX12_sum_128 : decode cX12_sum 128 = .ok (.putfield 11, 3) := by decide +kernel
theorem dX12_sum_131 : decode cX12_sum 131 = .ok (.aload_n 0, 1) := by decide +kernel
theorem dX12_sum_132 : decode cX12_sum 132 = .ok (.iload 6, 2) := by decide +kernel
theorem dX12_sum_134 : decode cX12_sum 134 = .ok (.i2l, 1) := by decide +kernel
theorem dX12_sum_135 : decode cX12_sum 135 = .ok (.invokevirtual 18, 3) := by decide +kernel
theorem dX12_sum_138 : decode cX12_sum 138 = .ok (.iload 5, 2) := by decide +kernel
theorem dX12_sum_140 : decode cX12_sum 140 = .ok (.ireturn, 1) := by decide +kernel
theorem dX12_goesAll_0 : decode cX12_goesAll 0 = .ok (.aload_n 0, 1) := by decide +kernel
theorem dX12_goesAll_1 : decode cX12_goesAll 1 = .ok (.getfield 56, 3) := by decide +kernel
theorem dX12_goesAll_4 : decode cX12_goesAll 4 = .ok (.iload_n 1, 1) := by decide +kernel
theorem dX12_goesAll_5 : decode cX12_goesAll 5 = .ok (.iaload, 1) := by decide +kernel
theorem dX12_goesAll_6 : decode cX12_goesAll 6 = .ok (.aload_n 0, 1) := by decide +kernel
theorem dX12_goesAll_7 : decode cX12_goesAll 7 = .ok (.getfield 59, 3) := by decide +kernel
theorem dX12_goesAll_10 : decode cX12_goesAll 10 = .ok (.iload_n 1, 1) := by decide +kernel
theorem dX12_goesAll_11 : decode cX12_goesAll 11 = .ok (.iaload, 1) := by decide +kernel
theorem dX12_goesAll_12 : decode cX12_goesAll 12 = .ok (.iadd, 1) := by decide +kernel
theorem dX12_goesAll_13 : decode cX12_goesAll 13 = .ok (.aload_n 0, 1) := by decide +kernel
theorem dX12_goesAll_14 : decode cX12_goesAll 14 = .ok (.getfield 62, 3) := by decide +kernel
theorem dX12_goesAll_17 : decode cX12_goesAll 17 = .ok (.iload_n 1, 1) := by decide +kernel
theorem dX12_goesAll_18 : decode cX12_goesAll 18 = .ok (.iaload, 1) := by decide +kernel
theorem dX12_goesAll_19 : decode cX12_goesAll 19 = .ok (.iadd, 1) := by decide +kernel
theorem dX12_goesAll_20 : decode cX12_goesAll 20 = .ok (.ireturn, 1) := by decide +kernel
theorem dX12_bounds_0 : decode cX12_bounds 0 = .ok (.aload_n 0, 1) := by decide +kernel
theorem dX12_bounds_1 : decode cX12_bounds 1 = .ok (.iconst 0, 1) := by decide +kernel
theorem dX12_bounds_2 : decode cX12_bounds 2 = .ok (.putfield 3, 3) := by decide +kernel
theorem dX12_bounds_5 : decode cX12_bounds 5 = .ok (.aload_n 0, 1) := by decide +kernel
theorem dX12_bounds_6 : decode cX12_bounds 6 = .ok (.iload_n 1, 1) := by decide +kernel
theorem dX12_bounds_7 : decode cX12_bounds 7 = .ok (.invokevirtual 52, 3) := by decide +kernel
theorem dX12_bounds_10 : decode cX12_bounds 10 = .ok (.ifCond .eq 23, 3) := by decide +kernel
theorem dX12_bounds_13 : decode cX12_bounds 13 = .ok (.aload_n 0, 1) := by decide +kernel
theorem dX12_bounds_14 : decode cX12_bounds 14 = .ok (.iload_n 2, 1) := by decide +kernel
theorem dX12_bounds_15 : decode cX12_bounds 15 = .ok (.invokevirtual 85, 3) := by decide +kernel
theorem dX12_bounds_18 : decode cX12_bounds 18 = .ok (.ifCond .eq 15, 3) := by decide +kernel
theorem dX12_bounds_21 : decode cX12_bounds 21 = .ok (.iload_n 3, 1) := by decide +kernel
theorem dX12_bounds_22 : decode cX12_bounds 22 = .ok (.i2l, 1) := by decide +kernel
theorem dX12_bounds_23 : decode cX12_bounds 23 = .ok (.lconst 0, 1) := by decide +kernel
theorem dX12_bounds_24 : decode cX12_bounds 24 = .ok (.ldc2_w 38, 3) := by decide +kernel
theorem dX12_bounds_27 : decode cX12_bounds 27 = .ok (.invokestatic 25, 3) := by decide +kernel
theorem dX12_bounds_30 : decode cX12_bounds 30 = .ok (.ifCond .ne 5, 3) := by decide +kernel
theorem dX12_bounds_33 : decode cX12_bounds 33 = .ok (.iconst (-1), 1) := by decide +kernel
theorem dX12_bounds_34 : decode cX12_bounds 34 = .ok (.ireturn, 1) := by decide +kernel
theorem dX12_bounds_35 : decode cX12_bounds 35 = .ok (.aload_n 0, 1) := by decide +kernel
theorem dX12_bounds_36 : decode cX12_bounds 36 = .ok (.iconst 0, 1) := by decide +kernel
theorem dX12_bounds_37 : decode cX12_bounds 37 = .ok (.iload_n 2, 1) := by decide +kernel
theorem dX12_bounds_38 : decode cX12_bounds 38 = .ok (.iload_n 1, 1) := by decide +kernel
theorem dX12_bounds_39 : decode cX12_bounds 39 = .ok (.invokevirtual 254, 3) := by decide +kernel
theorem dX12_bounds_42 : decode cX12_bounds 42 = .ok (.ifCond .ne 6, 3) := by decide +kernel
theorem dX12_bounds_45 : decode cX12_bounds 45 = .ok (.bipush (-2), 2) := by decide +kernel
theorem dX12_bounds_47 : decode cX12_bounds 47 = .ok (.ireturn, 1) := by decide +kernel
theorem dX12_bounds_48 : decode cX12_bounds 48 = .ok (.aload_n 0, 1) := by decide +kernel
theorem dX12_bounds_49 : decode cX12_bounds 49 = .ok (.iconst 0, 1) := by decide +kernel
theorem dX12_bounds_50 : decode cX12_bounds 50 = .ok (.iload_n 2, 1) := by decide +kernel
theorem dX12_bounds_51 : decode cX12_bounds 51 = .ok (.iload_n 1, 1) := by decide +kernel
theorem dX12_bounds_52 : decode cX12_bounds 52 = .ok (.invokevirtual 92, 3) := by decide +kernel
theorem dX12_bounds_55 : decode cX12_bounds 55 = .ok (.i2l, 1) := by decide +kernel
theorem dX12_bounds_56 : decode cX12_bounds 56 = .ok (.lstore 4, 2) := by decide +kernel
theorem dX12_bounds_58 : decode cX12_bounds 58 = .ok (.aload_n 0, 1) := by decide +kernel
theorem dX12_bounds_59 : decode cX12_bounds 59 = .ok (.iconst 0, 1) := by decide +kernel
theorem dX12_bounds_60 : decode cX12_bounds 60 = .ok (.putfield 11, 3) := by decide +kernel
theorem dX12_bounds_63 : decode cX12_bounds 63 = .ok (.aload_n 0, 1) := by decide +kernel
theorem dX12_bounds_64 : decode cX12_bounds 64 = .ok (.lload 4, 2) := by decide +kernel
theorem dX12_bounds_66 : decode cX12_bounds 66 = .ok (.bipush 100, 2) := by decide +kernel
theorem dX12_bounds_68 : decode cX12_bounds 68 = .ok (.iload_n 3, 1) := by decide +kernel
theorem dX12_bounds_69 : decode cX12_bounds 69 = .ok (.isub, 1) := by decide +kernel
theorem dX12_bounds_70 : decode cX12_bounds 70 = .ok (.i2l, 1) := by decide +kernel
theorem dX12_bounds_71 : decode cX12_bounds 71 = .ok (.lmul, 1) := by decide +kernel
theorem dX12_bounds_72 : decode cX12_bounds 72 = .ok (.aload_n 0, 1) := by decide +kernel
theorem dX12_bounds_73 : decode cX12_bounds 73 = .ok (.getfield 42, 3) := by decide +kernel
theorem dX12_bounds_76 : decode cX12_bounds 76 = .ok (.iload_n 1, 1) := by decide +kernel
theorem dX12_bounds_77 : decode cX12_bounds 77 = .ok (.iaload, 1) := by decide +kernel
theorem dX12_bounds_78 : decode cX12_bounds 78 = .ok (.i2l, 1) := by decide +kernel
theorem dX12_bounds_79 : decode cX12_bounds 79 = .ok (.invokevirtual 258, 3) := by decide +kernel
theorem dX12_bounds_82 : decode cX12_bounds 82 = .ok (.aload_n 0, 1) := by decide +kernel
theorem dX12_bounds_83 : decode cX12_bounds 83 = .ok (.iload_n 1, 1) := by decide +kernel
theorem dX12_bounds_84 : decode cX12_bounds 84 = .ok (.invokevirtual 262, 3) := by decide +kernel
theorem dX12_bounds_87 : decode cX12_bounds 87 = .ok (.bipush 100, 2) := by decide +kernel
theorem dX12_bounds_89 : decode cX12_bounds 89 = .ok (.if_icmp .ne 6, 3) := by decide +kernel
theorem dX12_bounds_92 : decode cX12_bounds 92 = .ok (.bipush (-3), 2) := by decide +kernel
theorem dX12_bounds_94 : decode cX12_bounds 94 = .ok (.ireturn, 1) := by decide +kernel
theorem dX12_bounds_95 : decode cX12_bounds 95 = .ok (.aload_n 0, 1) := by decide +kernel
theorem dX12_bounds_96 : decode cX12_bounds 96 = .ok (.lload 4, 2) := by decide +kernel
theorem dX12_bounds_98 : decode cX12_bounds 98 = .ok (.ldc2_w 265, 3) := by decide +kernel
theorem dX12_bounds_101 : decode cX12_bounds 101 = .ok (.lmul, 1) := by decide +kernel
theorem dX12_bounds_102 : decode cX12_bounds 102 = .ok (.aload_n 0, 1) := by decide +kernel
theorem dX12_bounds_103 : decode cX12_bounds 103 = .ok (.getfield 42, 3) := by decide +kernel
theorem dX12_bounds_106 : decode cX12_bounds 106 = .ok (.iload_n 1, 1) := by decide +kernel
theorem dX12_bounds_107 : decode cX12_bounds 107 = .ok (.iaload, 1) := by decide +kernel
theorem dX12_bounds_108 : decode cX12_bounds 108 = .ok (.i2l, 1) := by decide +kernel
theorem dX12_bounds_109 : decode cX12_bounds 109 = .ok (.bipush 100, 2) := by decide +kernel
theorem dX12_bounds_111 : decode cX12_bounds 111 = .ok (.aload_n 0, 1) := by decide +kernel
theorem dX12_bounds_112 : decode cX12_bounds 112 = .ok (.iload_n 1, 1) := by decide +kernel
theorem dX12_bounds_113 : decode cX12_bounds 113 = .ok (.invokevirtual 262, 3) := by decide +kernel
theorem dX12_bounds_116 : decode cX12_bounds 116 = .ok (.isub, 1) := by decide +kernel
theorem dX12_bounds_117 : decode cX12_bounds 117 = .ok (.i2l, 1) := by decide +kernel
theorem dX12_bounds_118 : decode cX12_bounds 118 = .ok (.lmul, 1) := by decide +kernel
theorem dX12_bounds_119 : decode cX12_bounds 119 = .ok (.invokevirtual 258, 3) := by decide +kernel
theorem dX12_bounds_122 : decode cX12_bounds 122 = .ok (.iconst 0, 1) := by decide +kernel
theorem dX12_bounds_123 : decode cX12_bounds 123 = .ok (.ireturn, 1) := by decide +kernel
theorem dX12_line_0 : decode cX12_line 0 = .ok (.aload_n 0, 1) := by decide +kernel
theorem dX12_line_1 : decode cX12_line 1 = .ok (.iconst 0, 1) := by decide +kernel
theorem dX12_line_2 : decode cX12_line 2 = .ok (.putfield 3, 3) := by decide +kernel
theorem dX12_line_5 : decode cX12_line 5 = .ok (.aload_n 0, 1) := by decide +kernel
theorem dX12_line_6 : decode cX12_line 6 = .ok (.iload_n 1, 1) := by decide +kernel
theorem dX12_line_7 : decode cX12_line 7 = .ok (.invokevirtual 52, 3) := by decide +kernel
theorem dX12_line_10 : decode cX12_line 10 = .ok (.ifCond .eq 22, 3) := by decide +kernel
theorem dX12_line_13 : decode cX12_line 13 = .ok (.iload_n 2, 1) := by decide +kernel
theorem dX12_line_14 : decode cX12_line 14 = .ok (.invokestatic 267, 3) := by decide +kernel
theorem dX12_line_17 : decode cX12_line 17 = .ok (.ifCond .eq 15, 3) := by decide +kernel
theorem dX12_line_20 : decode cX12_line 20 = .ok (.iload_n 3, 1) := by decide +kernel
theorem dX12_line_21 : decode cX12_line 21 = .ok (.i2l, 1) := by decide +kernel
theorem dX12_line_22 : decode cX12_line 22 = .ok (.lconst 0, 1) := by decide +kernel
theorem dX12_line_23 : decode cX12_line 23 = .ok (.ldc2_w 38, 3) := by decide +kernel
theorem dX12_line_26 : decode cX12_line 26 = .ok (.invokestatic 25, 3) := by decide +kernel
theorem dX12_line_29 : decode cX12_line 29 = .ok (.ifCond .ne 5, 3) := by decide +kernel
theorem dX12_line_32 : decode cX12_line 32 = .ok (.iconst (-1), 1) := by decide +kernel
theorem dX12_line_33 : decode cX12_line 33 = .ok (.ireturn, 1) := by decide +kernel
theorem dX12_line_34 : decode cX12_line 34 = .ok (.lconst 0, 1) := by decide +kernel
theorem dX12_line_35 : decode cX12_line 35 = .ok (.lstore 4, 2) := by decide +kernel
theorem dX12_line_37 : decode cX12_line 37 = .ok (.lconst 0, 1) := by decide +kernel
theorem dX12_line_38 : decode cX12_line 38 = .ok (.lstore 6, 2) := by decide +kernel
theorem dX12_line_40 : decode cX12_line 40 = .ok (.iconst 0, 1) := by decide +kernel
theorem dX12_line_41 : decode cX12_line 41 = .ok (.istore 8, 2) := by decide +kernel
theorem dX12_line_43 : decode cX12_line 43 = .ok (.iconst 0, 1) := by decide +kernel
theorem dX12_line_44 : decode cX12_line 44 = .ok (.istore 9, 2) := by decide +kernel
theorem dX12_line_46 : decode cX12_line 46 = .ok (.iload 9, 2) := by decide +kernel
theorem dX12_line_48 : decode cX12_line 48 = .ok (.bipush 12, 2) := by decide +kernel
theorem dX12_line_50 : decode cX12_line 50 = .ok (.aload_n 0, 1) := by decide +kernel
theorem dX12_line_51 : decode cX12_line 51 = .ok (.getfield 29, 3) := by decide +kernel
theorem dX12_line_54 : decode cX12_line 54 = .ok (.imul, 1) := by decide +kernel
theorem dX12_line_55 : decode cX12_line 55 = .ok (.if_icmp .ge 66, 3) := by decide +kernel
theorem dX12_line_58 : decode cX12_line 58 = .ok (.aload_n 0, 1) := by decide +kernel
theorem dX12_line_59 : decode cX12_line 59 = .ok (.iconst 0, 1) := by decide +kernel
theorem dX12_line_60 : decode cX12_line 60 = .ok (.iload 9, 2) := by decide +kernel
theorem dX12_line_62 : decode cX12_line 62 = .ok (.iload_n 1, 1) := by decide +kernel
theorem dX12_line_63 : decode cX12_line 63 = .ok (.invokevirtual 254, 3) := by decide +kernel
theorem dX12_line_66 : decode cX12_line 66 = .ok (.ifCond .eq 49, 3) := by decide +kernel
theorem dX12_line_69 : decode cX12_line 69 = .ok (.aload_n 0, 1) := by decide +kernel
theorem dX12_line_70 : decode cX12_line 70 = .ok (.iconst 2, 1) := by decide +kernel
theorem dX12_line_71 : decode cX12_line 71 = .ok (.iload_n 2, 1) := by decide +kernel
theorem dX12_line_72 : decode cX12_line 72 = .ok (.iadd, 1) := by decide +kernel
theorem dX12_line_73 : decode cX12_line 73 = .ok (.iload 9, 2) := by decide +kernel
theorem dX12_line_75 : decode cX12_line 75 = .ok (.iload_n 1, 1) := by decide +kernel
theorem dX12_line_76 : decode cX12_line 76 = .ok (.invokevirtual 254, 3) := by decide +kernel
theorem dX12_line_79 : decode cX12_line 79 = .ok (.ifCond .eq 36, 3) := by decide +kernel
theorem dX12_line_82 : decode cX12_line 82 = .ok (.lload 4, 2) := by decide +kernel
theorem dX12_line_84 : decode cX12_line 84 = .ok (.aload_n 0, 1) := by decide +kernel
theorem dX12_line_85 : decode cX12_line 85 = .ok (.iconst 0, 1) := by decide +kernel
theorem dX12_line_86 : decode cX12_line 86 = .ok (.iload 9, 2) := by decide +kernel
theorem dX12_line_88 : decode cX12_line 88 = .ok (.iload_n 1, 1) := by decide +kernel
theorem dX12_line_89 : decode cX12_line 89 = .ok (.invokevirtual 92, 3) := by decide +kernel
theorem dX12_line_92 : decode cX12_line 92 = .ok (.i2l, 1) := by decide +kernel
theorem dX12_line_93 : decode cX12_line 93 = .ok (.ladd, 1) := by decide +kernel
theorem dX12_line_94 : decode cX12_line 94 = .ok (.lstore 4, 2) := by decide +kernel
theorem dX12_line_96 : decode cX12_line 96 = .ok (.lload 6, 2) := by decide +kernel
theorem dX12_line_98 : decode cX12_line 98 = .ok (.aload_n 0, 1) := by decide +kernel
theorem dX12_line_99 : decode cX12_line 99 = .ok (.iconst 2, 1) := by decide +kernel
theorem dX12_line_100 : decode cX12_line 100 = .ok (.iload_n 2, 1) := by decide +kernel
theorem dX12_line_101 : decode cX12_line 101 = .ok (.iadd, 1) := by decide +kernel
theorem dX12_line_102 : decode cX12_line 102 = .ok (.iload 9, 2) := by decide +kernel
theorem dX12_line_104 : decode cX12_line 104 = .ok (.iload_n 1, 1) := by decide +kernel
theorem dX12_line_105 : decode cX12_line 105 = .ok (.invokevirtual 92, 3) := by decide +kernel
theorem dX12_line_108 : decode cX12_line 108 = .ok (.i2l, 1) := by decide +kernel
theorem dX12_line_109 : decode cX12_line 109 = .ok (.ladd, 1) := by decide +kernel
theorem dX12_line_110 : decode cX12_line 110 = .ok (.lstore 6, 2) := by decide +kernel
theorem dX12_line_112 : decode cX12_line 112 = .ok (.iinc 8 1, 3) := by decide +kernel
theorem dX12_line_115 : decode cX12_line 115 = .ok (.iinc 9 1, 3) := by decide +kernel
theorem dX12_line_118 : decode cX12_line 118 = .ok (.goto (-72), 3) := by decide +kernel
theorem dX12_line_121 : decode cX12_line 121 = .ok (.iload 8, 2) := by decide +kernel
theorem dX12_line_123 : decode cX12_line 123 = .ok (.ifCond .ne 6, 3) := by decide +kernel
theorem dX12_line_126 : decode cX12_line 126 = .ok (.bipush (-2), 2) := by decide +kernel
theorem dX12_line_128 : decode cX12_line 128 = .ok (.ireturn, 1) := by decide +kernel
theorem dX12_line_129 : decode cX12_line 129 = .ok (.aload_n 0, 1) := by decide +kernel
theorem dX12_line_130 : decode cX12_line 130 = .ok (.iconst 0, 1) := by decide +kernel
theorem dX12_line_131 : decode cX12_line 131 = .ok (.putfield 11, 3) := by decide +kernel
theorem dX12_line_134 : decode cX12_line 134 = .ok (.aload_n 0, 1) := by decide +kernel
theorem dX12_line_135 : decode cX12_line 135 = .ok (.lload 4, 2) := by decide +kernel
theorem dX12_line_137 : decode cX12_line 137 = .ok (.bipush 100, 2) := by decide +kernel
theorem dX12_line_139 : decode cX12_line 139 = .ok (.iload_n 3, 1) := by decide +kernel
theorem dX12_line_140 : decode cX12_line 140 = .ok (.isub, 1) := by decide +kernel
theorem dX12_line_141 : decode cX12_line 141 = .ok (.i2l, 1) := by decide +kernel
theorem dX12_line_142 : decode cX12_line 142 = .ok (.lmul, 1) := by decide +kernel
theorem dX12_line_143 : decode cX12_line 143 = .ok (.aload_n 0, 1) := by decide +kernel
theorem dX12_line_144 : decode cX12_line 144 = .ok (.getfield 42, 3) := by decide +kernel
theorem dX12_line_147 : decode cX12_line 147 = .ok (.iload_n 1, 1) := by decide +kernel
theorem dX12_line_148 : decode cX12_line 148 = .ok (.iaload, 1) := by decide +kernel
theorem dX12_line_149 : decode cX12_line 149 = .ok (.i2l, 1) := by decide +kernel
theorem dX12_line_150 : decode cX12_line 150 = .ok (.invokevirtual 258, 3) := by decide +kernel
theorem dX12_line_153 : decode cX12_line 153 = .ok (.aload_n 0, 1) := by decide +kernel
theorem dX12_line_154 : decode cX12_line 154 = .ok (.lload 6, 2) := by decide +kernel
theorem dX12_line_156 : decode cX12_line 156 = .ok (.invokevirtual 18, 3) := by decide +kernel
theorem dX12_line_159 : decode cX12_line 159 = .ok (.lload 4, 2) := by decide +kernel
theorem dX12_line_161 : decode cX12_line 161 = .ok (.bipush 100, 2) := by decide +kernel
theorem dX12_line_163 : decode cX12_line 163 = .ok (.iload_n 3, 1) := by decide +kernel
theorem dX12_line_164 : decode cX12_line 164 = .ok (.isub, 1) := by decide +kernel
theorem dX12_line_165 : decode cX12_line 165 = .ok (.i2l, 1) := by decide +kernel
theorem dX12_line_166 : decode cX12_line 166 = .ok (.lmul, 1) := by decide +kernel
theorem dX12_line_167 : decode cX12_line 167 = .ok (.lload 6, 2) := by decide +kernel
theorem dX12_line_169 : decode cX12_line 169 = .ok (.aload_n 0, 1) := by decide +kernel
theorem dX12_line_170 : decode cX12_line 170 = .ok (.getfield 42, 3) := by decide +kernel
theorem dX12_line_173 : decode cX12_line 173 = .ok (.iload_n 1, 1) := by decide +kernel
theorem dX12_line_174 : decode cX12_line 174 = .ok (.iaload, 1) := by decide +kernel
theorem dX12_line_175 : decode cX12_line 175 = .ok (.i2l, 1) := by decide +kernel
theorem dX12_line_176 : decode cX12_line 176 = .ok (.lmul, 1) := by decide +kernel
theorem dX12_line_177 : decode cX12_line 177 = .ok (.lcmp, 1) := by decide +kernel
theorem dX12_line_178 : decode cX12_line 178 = .ok (.ifCond .le 5, 3) := by decide +kernel
theorem dX12_line_181 : decode cX12_line 181 = .ok (.iconst 1, 1) := by decide +kernel
theorem dX12_line_182 : decode cX12_line 182 = .ok (.ireturn, 1) := by decide +kernel
theorem dX12_line_183 : decode cX12_line 183 = .ok (.bipush 100, 2) := by decide +kernel
theorem dX12_line_185 : decode cX12_line 185 = .ok (.aload_n 0, 1) := by decide +kernel
theorem dX12_line_186 : decode cX12_line 186 = .ok (.iload_n 1, 1) := by decide +kernel
theorem dX12_line_187 : decode cX12_line 187 = .ok (.invokevirtual 262, 3) := by decide +kernel
theorem dX12_line_190 : decode cX12_line 190 = .ok (.isub, 1) := by decide +kernel
theorem dX12_line_191 : decode cX12_line 191 = .ok (.istore 9, 2) := by decide +kernel
theorem dX12_line_193 : decode cX12_line 193 = .ok (.iload 9, 2) := by decide +kernel
theorem dX12_line_195 : decode cX12_line 195 = .ok (.ifCond .le 31, 3) := by decide +kernel
theorem dX12_line_198 : decode cX12_line 198 = .ok (.lload 4, 2) := by decide +kernel
theorem dX12_line_200 : decode cX12_line 200 = .ok (.ldc2_w 265, 3) := by decide +kernel
theorem dX12_line_203 : decode cX12_line 203 = .ok (.lmul, 1) := by decide +kernel
theorem dX12_line_204 : decode cX12_line 204 = .ok (.lload 6, 2) := by decide +kernel
theorem dX12_line_206 : decode cX12_line 206 = .ok (.aload_n 0, 1) := by decide +kernel
theorem dX12_line_207 : decode cX12_line 207 = .ok (.getfield 42, 3) := by decide +kernel
theorem dX12_line_210 : decode cX12_line 210 = .ok (.iload_n 1, 1) := by decide +kernel
theorem dX12_line_211 : decode cX12_line 211 = .ok (.iaload, 1) := by decide +kernel
theorem dX12_line_212 : decode cX12_line 212 = .ok (.i2l, 1) := by decide +kernel
theorem dX12_line_213 : decode cX12_line 213 = .ok (.lmul, 1) := by decide +kernel
theorem dX12_line_214 : decode cX12_line 214 = .ok (.iload 9, 2) := by decide +kernel
theorem dX12_line_216 : decode cX12_line 216 = .ok (.i2l, 1) := by decide +kernel
theorem dX12_line_217 : decode cX12_line 217 = .ok (.lmul, 1) := by decide +kernel
theorem dX12_line_218 : decode cX12_line 218 = .ok (.lcmp, 1) := by decide +kernel
theorem dX12_line_219 : decode cX12_line 219 = .ok (.ifCond .ge 7, 3) := by decide +kernel
theorem dX12_line_222 : decode cX12_line 222 = .ok (.iconst 2, 1) := by decide +kernel
theorem dX12_line_223 : decode cX12_line 223 = .ok (.goto 4, 3) := by decide +kernel
theorem dX12_line_226 : decode cX12_line 226 = .ok (.iconst 0, 1) := by decide +kernel
theorem dX12_line_227 : decode cX12_line 227 = .ok (.ireturn, 1) := by decide +kernel
theorem dX12_offs_0 : decode cX12_offs 0 = .ok (.aload_n 0, 1) := by decide +kernel
theorem dX12_offs_1 : decode cX12_offs 1 = .ok (.iconst 0, 1) := by decide +kernel
theorem dX12_offs_2 : decode cX12_offs 2 = .ok (.putfield 270, 3) := by decide +kernel
theorem dX12_offs_5 : decode cX12_offs 5 = .ok (.aload_n 0, 1) := by decide +kernel
theorem dX12_offs_6 : decode cX12_offs 6 = .ok (.iconst 0, 1) := by decide +kernel
theorem dX12_offs_7 : decode cX12_offs 7 = .ok (.putfield 273, 3) := by decide +kernel
theorem dX12_offs_10 : decode cX12_offs 10 = .ok (.aload_n 0, 1) := by decide +kernel
theorem dX12_offs_11 : decode cX12_offs 11 = .ok (.iconst 0, 1) := by decide +kernel
theorem dX12_offs_12 : decode cX12_offs 12 = .ok (.putfield 276, 3) := by decide +kernel
theorem dX12_offs_15 : decode cX12_offs 15 = .ok (.aload_n 0, 1) := by decide +kernel
theorem dX12_offs_16 : decode cX12_offs 16 = .ok (.iconst 0, 1) := by decide +kernel
theorem dX12_offs_17 : decode cX12_offs 17 = .ok (.putfield 279, 3) := by decide +kernel
theorem dX12_offs_20 : decode cX12_offs 20 = .ok (.aload_n 0, 1) := by decide +kernel
theorem dX12_offs_21 : decode cX12_offs 21 = .ok (.iconst 0, 1) := by decide +kernel
theorem dX12_offs_22 : decode cX12_offs 22 = .ok (.putfield 282, 3) := by decide +kernel
theorem dX12_offs_25 : decode cX12_offs 25 = .ok (.aload_n 0, 1) := by decide +kernel
theorem dX12_offs_26 : decode cX12_offs 26 = .ok (.iconst 0, 1) := by decide +kernel
theorem dX12_offs_27 : decode cX12_offs 27 = .ok (.putfield 285, 3) := by decide +kernel
theorem dX12_offs_30 : decode cX12_offs 30 = .ok (.iconst 0, 1) := by decide +kernel
theorem dX12_offs_31 : decode cX12_offs 31 = .ok (.istore_n 3, 1) := by decide +kernel
theorem dX12_offs_32 : decode cX12_offs 32 = .ok (.iload_n 3, 1) := by decide +kernel
theorem dX12_offs_33 : decode cX12_offs 33 = .ok (.bipush 12, 2) := by decide +kernel
theorem dX12_offs_35 : decode cX12_offs 35 = .ok (.aload_n 0, 1) := by decide +kernel
theorem dX12_offs_36 : decode cX12_offs 36 = .ok (.getfield 29, 3) := by decide +kernel
theorem dX12_offs_39 : decode cX12_offs 39 = .ok (.imul, 1) := by decide +kernel
theorem dX12_offs_40 : decode cX12_offs 40 = .ok (.if_icmp .ge 168, 3) := by decide +kernel
theorem dX12_offs_43 : decode cX12_offs 43 = .ok (.aload_n 0, 1) := by decide +kernel
theorem dX12_offs_44 : decode cX12_offs 44 = .ok (.iconst 1, 1) := by decide +kernel
theorem dX12_offs_45 : decode cX12_offs 45 = .ok (.iload_n 3, 1) := by decide +kernel
theorem dX12_offs_46 : decode cX12_offs 46 = .ok (.iload_n 1, 1) := by decide +kernel
theorem dX12_offs_47 : decode cX12_offs 47 = .ok (.invokevirtual 254, 3) := by decide +kernel
theorem dX12_offs_50 : decode cX12_offs 50 = .ok (.ifCond .eq 152, 3) := by decide +kernel
theorem dX12_offs_53 : decode cX12_offs 53 = .ok (.aload_n 0, 1) := by decide +kernel
theorem dX12_offs_54 : decode cX12_offs 54 = .ok (.iconst 2, 1) := by decide +kernel
theorem dX12_offs_55 : decode cX12_offs 55 = .ok (.iload_n 2, 1) := by decide +kernel
theorem dX12_offs_56 : decode cX12_offs 56 = .ok (.iadd, 1) := by decide +kernel
theorem dX12_offs_57 : decode cX12_offs 57 = .ok (.iload_n 3, 1) := by decide +kernel
theorem dX12_offs_58 : decode cX12_offs 58 = .ok (.iload_n 1, 1) := by decide +kernel
theorem dX12_offs_59 : decode cX12_offs 59 = .ok (.invokevirtual 254, 3) := by decide +kernel
theorem dX12_offs_62 : decode cX12_offs 62 = .ok (.ifCond .ne 6, 3) := by decide +kernel
theorem dX12_offs_65 : decode cX12_offs 65 = .ok (.goto 137, 3) := by decide +kernel
theorem dX12_offs_68 : decode cX12_offs 68 = .ok (.aload_n 0, 1) := by decide +kernel
theorem dX12_offs_69 : decode cX12_offs 69 = .ok (.iconst 2, 1) := by decide +kernel
theorem dX12_offs_70 : decode cX12_offs 70 = .ok (.iload_n 2, 1) := by decide +kernel
theorem dX12_offs_71 : decode cX12_offs 71 = .ok (.iadd, 1) := by decide +kernel
theorem dX12_offs_72 : decode cX12_offs 72 = .ok (.iload_n 3, 1) := by decide +kernel
theorem dX12_offs_73 : decode cX12_offs 73 = .ok (.iload_n 1, 1) := by decide +kernel
theorem dX12_offs_74 : decode cX12_offs 74 = .ok (.invokevirtual 92, 3) := by decide +kernel
theorem dX12_offs_77 : decode cX12_offs 77 = .ok (.aload_n 0, 1) := by decide +kernel
theorem dX12_offs_78 : decode cX12_offs 78 = .ok (.iconst 1, 1) := by decide +kernel
theorem dX12_offs_79 : decode cX12_offs 79 = .ok (.iload_n 3, 1) := by decide +kernel
theorem dX12_offs_80 : decode cX12_offs 80 = .ok (.iload_n 1, 1) := by decide +kernel
theorem dX12_offs_81 : decode cX12_offs 81 = .ok (.invokevirtual 92, 3) := by decide +kernel
theorem dX12_offs_84 : decode cX12_offs 84 = .ok (.isub, 1) := by decide +kernel
theorem dX12_offs_85 : decode cX12_offs 85 = .ok (.istore 4, 2) := by decide +kernel
theorem dX12_offs_87 : decode cX12_offs 87 = .ok (.aload_n 0, 1) := by decide +kernel
theorem dX12_offs_88 : decode cX12_offs 88 = .ok (.aload_n 0, 1) := by decide +kernel
theorem dX12_offs_89 : decode cX12_offs 89 = .ok (.getfield 270, 3) := by decide +kernel
theorem dX12_offs_92 : decode cX12_offs 92 = .ok (.ifCond .ne 8, 3) := by decide +kernel
theorem dX12_offs_95 : decode cX12_offs 95 = .ok (.iload 4, 2) := by decide +kernel
theorem dX12_offs_97 : decode cX12_offs 97 = .ok (.goto 12, 3) := by decide +kernel
theorem dX12_offs_100 : decode cX12_offs 100 = .ok (.aload_n 0, 1) := by decide +kernel
theorem dX12_offs_101 : decode cX12_offs 101 = .ok (.getfield 276, 3) := by decide +kernel
theorem dX12_offs_104 : decode cX12_offs 104 = .ok (.iload 4, 2) := by decide +kernel
theorem dX12_offs_106 : decode cX12_offs 106 = .ok (.invokestatic 99, 3) := by decide +kernel
theorem dX12_offs_109 : decode cX12_offs 109 = .ok (.putfield 276, 3) := by decide +kernel
theorem dX12_offs_112 : decode cX12_offs 112 = .ok (.aload_n 0, 1) := by decide +kernel
theorem dX12_offs_113 : decode cX12_offs 113 = .ok (.aload_n 0, 1) := by decide +kernel
theorem dX12_offs_114 : decode cX12_offs 114 = .ok (.getfield 270, 3) := by decide +kernel
theorem dX12_offs_117 : decode cX12_offs 117 = .ok (.ifCond .ne 8, 3) := by decide +kernel
theorem dX12_offs_120 : decode cX12_offs 120 = .ok (.iload 4, 2) := by decide +kernel
theorem dX12_offs_122 : decode cX12_offs 122 = .ok (.goto 12, 3) := by decide +kernel
theorem dX12_offs_125 : decode cX12_offs 125 = .ok (.aload_n 0, 1) := by decide +kernel
theorem dX12_offs_126 : decode cX12_offs 126 = .ok (.getfield 279, 3) := by decide +kernel
theorem dX12_offs_129 : decode cX12_offs 129 = .ok (.iload 4, 2) := by decide +kernel
theorem dX12_offs_131 : decode cX12_offs 131 = .ok (.invokestatic 233, 3) := by decide +kernel
theorem dX12_offs_134 : decode cX12_offs 134 = .ok (.putfield 279, 3) := by decide +kernel
theorem dX12_offs_137 : decode cX12_offs 137 = .ok (.aload_n 0, 1) := by decide +kernel
theorem dX12_offs_138 : decode cX12_offs 138 = .ok (.dup, 1) := by decide +kernel
theorem dX12_offs_139 : decode cX12_offs 139 = .ok (.getfield 273, 3) := by decide +kernel
theorem dX12_offs_142 : decode cX12_offs 142 = .ok (.iload 4, 2) := by decide +kernel
theorem dX12_offs_144 : decode cX12_offs 144 = .ok (.iadd, 1) := by decide +kernel
theorem dX12_offs_145 : decode cX12_offs 145 = .ok (.putfield 273, 3) := by decide +kernel
theorem dX12_offs_148 : decode cX12_offs 148 = .ok (.aload_n 0, 1) := by decide +kernel
theorem dX12_offs_149 : decode cX12_offs 149 = .ok (.dup, 1) := by decide +kernel
theorem dX12_offs_150 : decode cX12_offs 150 = .ok (.getfield 282, 3) := by decide +kernel
theorem dX12_offs_153 : decode cX12_offs 153 = .ok (.iload 4, 2) := by decide +kernel
theorem dX12_offs_155 : decode cX12_offs 155 = .ok (.ifCond .le 7, 3) := by decide +kernel
theorem dX12_offs_158 : decode cX12_offs 158 = .ok (.iconst 1, 1) := by decide +kernel
theorem dX12_offs_159 : decode cX12_offs 159 = .ok (.goto 4, 3) := by decide +kernel
theorem dX12_offs_162 : decode cX12_offs 162 = .ok (.iconst 0, 1) := by decide +kernel
theorem dX12_offs_163 : decode cX12_offs 163 = .ok (.invokestatic 207, 3) := by decide +kernel
theorem dX12_offs_166 : decode cX12_offs 166 = .ok (.iadd, 1) := by decide +kernel
theorem dX12_offs_167 : decode cX12_offs 167 = .ok (.putfield 282, 3) := by decide +kernel
theorem dX12_offs_170 : decode cX12_offs 170 = .ok (.aload_n 0, 1) := by decide +kernel
theorem dX12_offs_171 : decode cX12_offs 171 = .ok (.dup, 1) := by decide +kernel
theorem dX12_offs_172 : decode cX12_offs 172 = .ok (.getfield 285, 3) := by decide +kernel
theorem dX12_offs_175 : decode cX12_offs 175 = .ok (.iload 4, 2) := by decide +kernel
theorem dX12_offs_177 : decode cX12_offs 177 = .ok (.ifCond .ge 7, 3) := by decide +kernel
theorem dX12_offs_180 : decode cX12_offs 180 = .ok (.iconst 1, 1) := by decide +kernel
theorem dX12_offs_181 : decode cX12_offs 181 = .ok (.goto 4, 3) := by decide +kernel
theorem dX12_offs_184 : decode cX12_offs 184 = .ok (.iconst 0, 1) := by decide +kernel
theorem dX12_offs_185 : decode cX12_offs 185 = .ok (.invokestatic 207, 3) := by decide +kernel
theorem dX12_offs_188 : decode cX12_offs 188 = .ok (.iadd, 1) := by decide +kernel
theorem dX12_offs_189 : decode cX12_offs 189 = .ok (.putfield 285, 3) := by decide +kernel
theorem dX12_offs_192 : decode cX12_offs 192 = .ok (.aload_n 0, 1) := by decide +kernel
theorem dX12_offs_193 : decode cX12_offs 193 = .ok (.dup, 1) := by decide +kernel
theorem dX12_offs_194 : decode cX12_offs 194 = .ok (.getfield 270, 3) := by decide +kernel
theorem dX12_offs_197 : decode cX12_offs 197 = .ok (.iconst 1, 1) := by decide +kernel
theorem dX12_offs_198 : decode cX12_offs 198 = .ok (.iadd, 1) := by decide +kernel
theorem dX12_offs_199 : decode cX12_offs 199 = .ok (.putfield 270, 3) := by decide +kernel
theorem dX12_offs_202 : decode cX12_offs 202 = .ok (.iinc 3 1, 3) := by decide +kernel
theorem dX12_offs_205 : decode cX12_offs 205 = .ok (.goto (-173), 3) := by decide +kernel
theorem dX12_offs_208 : decode cX12_offs 208 = .ok (.return_, 1) := by decide +kernel
theorem dX12_off_0 : decode cX12_off 0 = .ok (.aload_n 0, 1) := by decide +kernel
theorem dX12_off_1 : decode cX12_off 1 = .ok (.iconst 0, 1) := by decide +kernel
theorem dX12_off_2 : decode cX12_off 2 = .ok (.putfield 3, 3) := by decide +kernel
theorem dX12_off_5 : decode cX12_off 5 = .ok (.aload_n 0, 1) := by decide +kernel
theorem dX12_off_6 : decode cX12_off 6 = .ok (.iload_n 1, 1) := by decide +kernel
theorem dX12_off_7 : decode cX12_off 7 = .ok (.invokevirtual 52, 3) := by decide +kernel
theorem dX12_off_10 : decode cX12_off 10 = .ok (.ifCond .eq 10, 3) := by decide +kernel
theorem dX12_off_13 : decode cX12_off 13 = .ok (.iload_n 2, 1) := by decide +kernel
theorem dX12_off_14 : decode cX12_off 14 = .ok (.invokestatic 267, 3) := by decide +kernel
theorem dX12_off_17 : decode cX12_off 17 = .ok (.ifCond .ne 5, 3) := by decide +kernel
theorem dX12_off_20 : decode cX12_off 20 = .ok (.iconst (-1), 1) := by decide +kernel
theorem dX12_off_21 : decode cX12_off 21 = .ok (.ireturn, 1) := by decide +kernel
theorem dX12_off_22 : decode cX12_off 22 = .ok (.aload_n 0, 1) := by decide +kernel
theorem dX12_off_23 : decode cX12_off 23 = .ok (.iload_n 1, 1) := by decide +kernel
theorem dX12_off_24 : decode cX12_off 24 = .ok (.iload_n 2, 1) := by decide +kernel
theorem dX12_off_25 : decode cX12_off 25 = .ok (.invokevirtual 288, 3) := by decide +kernel
theorem dX12_off_28 : decode cX12_off 28 = .ok (.aload_n 0, 1) := by decide +kernel
theorem dX12_off_29 : decode cX12_off 29 = .ok (.getfield 270, 3) := by decide +kernel
theorem dX12_off_32 : decode cX12_off 32 = .ok (.ifCond .le 40, 3) := by decide +kernel
theorem dX12_off_35 : decode cX12_off 35 = .ok (.aload_n 0, 1) := by decide +kernel
theorem dX12_off_36 : decode cX12_off 36 = .ok (.iconst 0, 1) := by decide +kernel
theorem dX12_off_37 : decode cX12_off 37 = .ok (.putfield 11, 3) := by decide +kernel
theorem dX12_off_40 : decode cX12_off 40 = .ok (.aload_n 0, 1) := by decide +kernel
theorem dX12_off_41 : decode cX12_off 41 = .ok (.aload_n 0, 1) := by decide +kernel
theorem dX12_off_42 : decode cX12_off 42 = .ok (.getfield 273, 3) := by decide +kernel
theorem dX12_off_45 : decode cX12_off 45 = .ok (.i2l, 1) := by decide +kernel
theorem dX12_off_46 : decode cX12_off 46 = .ok (.aload_n 0, 1) := by decide +kernel
theorem dX12_off_47 : decode cX12_off 47 = .ok (.getfield 270, 3) := by decide +kernel
theorem dX12_off_50 : decode cX12_off 50 = .ok (.i2l, 1) := by decide +kernel
theorem dX12_off_51 : decode cX12_off 51 = .ok (.invokevirtual 258, 3) := by decide +kernel
theorem dX12_off_54 : decode cX12_off 54 = .ok (.aload_n 0, 1) := by decide +kernel
theorem dX12_off_55 : decode cX12_off 55 = .ok (.aload_n 0, 1) := by decide +kernel
theorem dX12_off_56 : decode cX12_off 56 = .ok (.getfield 276, 3) := by decide +kernel
theorem dX12_off_59 : decode cX12_off 59 = .ok (.i2l, 1) := by decide +kernel
theorem dX12_off_60 : decode cX12_off 60 = .ok (.invokevirtual 18, 3) := by decide +kernel
theorem dX12_off_63 : decode cX12_off 63 = .ok (.aload_n 0, 1) := by decide +kernel
theorem dX12_off_64 : decode cX12_off 64 = .ok (.aload_n 0, 1) := by decide +kernel
theorem dX12_off_65 : decode cX12_off 65 = .ok (.getfield 279, 3) := by decide +kernel
theorem dX12_off_68 : decode cX12_off 68 = .ok (.i2l, 1) := by decide +kernel
theorem dX12_off_69 : decode cX12_off 69 = .ok (.invokevirtual 18, 3) := by decide +kernel
theorem dX12_off_72 : decode cX12_off 72 = .ok (.aload_n 0, 1) := by decide +kernel
theorem dX12_off_73 : decode cX12_off 73 = .ok (.getfield 270, 3) := by decide +kernel
theorem dX12_off_76 : decode cX12_off 76 = .ok (.ireturn, 1) := by decide +kernel
theorem dX12_nearest_0 : decode cX12_nearest 0 = .ok (.aload_n 0, 1) := by decide +kernel
theorem dX12_nearest_1 : decode cX12_nearest 1 = .ok (.iconst 0, 1) := by decide +kernel
theorem dX12_nearest_2 : decode cX12_nearest 2 = .ok (.putfield 3, 3) := by decide +kernel
theorem dX12_nearest_5 : decode cX12_nearest 5 = .ok (.aload_n 0, 1) := by decide +kernel
theorem dX12_nearest_6 : decode cX12_nearest 6 = .ok (.iload_n 1, 1) := by decide +kernel
theorem dX12_nearest_7 : decode cX12_nearest 7 = .ok (.invokevirtual 52, 3) := by decide +kernel
theorem dX12_nearest_10 : decode cX12_nearest 10 = .ok (.ifCond .ne 5, 3) := by decide +kernel
theorem dX12_nearest_13 : decode cX12_nearest 13 = .ok (.iconst (-1), 1) := by decide +kernel
theorem dX12_nearest_14 : decode cX12_nearest 14 = .ok (.ireturn, 1) := by decide +kernel
theorem dX12_nearest_15 : decode cX12_nearest 15 = .ok (.bipush (-2), 2) := by decide +kernel
theorem dX12_nearest_17 : decode cX12_nearest 17 = .ok (.istore_n 2, 1) := by decide +kernel
theorem dX12_nearest_18 : decode cX12_nearest 18 = .ok (.lconst 0, 1) := by decide +kernel
theorem dX12_nearest_19 : decode cX12_nearest 19 = .ok (.lstore_n 3, 1) := by decide +kernel
theorem dX12_nearest_20 : decode cX12_nearest 20 = .ok (.lconst 1, 1) := by decide +kernel
theorem dX12_nearest_21 : decode cX12_nearest 21 = .ok (.lstore 5, 2) := by decide +kernel
theorem dX12_nearest_23 : decode cX12_nearest 23 = .ok (.iconst 0, 1) := by decide +kernel
theorem dX12_nearest_24 : decode cX12_nearest 24 = .ok (.istore 7, 2) := by decide +kernel
theorem dX12_nearest_26 : decode cX12_nearest 26 = .ok (.iconst 0, 1) := by decide +kernel
theorem dX12_nearest_27 : decode cX12_nearest 27 = .ok (.istore 8, 2) := by decide +kernel
theorem dX12_nearest_29 : decode cX12_nearest 29 = .ok (.iconst 0, 1) := by decide +kernel
theorem dX12_nearest_30 : decode cX12_nearest 30 = .ok (.istore 9, 2) := by decide +kernel
theorem dX12_nearest_32 : decode cX12_nearest 32 = .ok (.iload 9, 2) := by decide +kernel
theorem dX12_nearest_34 : decode cX12_nearest 34 = .ok (.iconst 4, 1) := by decide +kernel
theorem dX12_nearest_35 : decode cX12_nearest 35 = .ok (.if_icmp .ge 78, 3) := by decide +kernel
theorem dX12_nearest_38 : decode cX12_nearest 38 = .ok (.aload_n 0, 1) := by decide +kernel
theorem dX12_nearest_39 : decode cX12_nearest 39 = .ok (.iload_n 1, 1) := by decide +kernel
theorem dX12_nearest_40 : decode cX12_nearest 40 = .ok (.iload 9, 2) := by decide +kernel
theorem dX12_nearest_42 : decode cX12_nearest 42 = .ok (.invokevirtual 288, 3) := by decide +kernel
theorem dX12_nearest_45 : decode cX12_nearest 45 = .ok (.aload_n 0, 1) := by decide +kernel
theorem dX12_nearest_46 : decode cX12_nearest 46 = .ok (.getfield 273, 3) := by decide +kernel
theorem dX12_nearest_49 : decode cX12_nearest 49 = .ok (.invokestatic 292, 3) := by decide +kernel
theorem dX12_nearest_52 : decode cX12_nearest 52 = .ok (.i2l, 1) := by decide +kernel
theorem dX12_nearest_53 : decode cX12_nearest 53 = .ok (.lstore 10, 2) := by decide +kernel
theorem dX12_nearest_55 : decode cX12_nearest 55 = .ok (.aload_n 0, 1) := by decide +kernel
theorem dX12_nearest_56 : decode cX12_nearest 56 = .ok (.getfield 270, 3) := by decide +kernel
theorem dX12_nearest_59 : decode cX12_nearest 59 = .ok (.ifCond .le 48, 3) := by decide +kernel
theorem dX12_nearest_62 : decode cX12_nearest 62 = .ok (.iload_n 2, 1) := by decide +kernel
theorem dX12_nearest_63 : decode cX12_nearest 63 = .ok (.ifCond .lt 19, 3) := by decide +kernel
theorem dX12_nearest_66 : decode cX12_nearest 66 = .ok (.lload 10, 2) := by decide +kernel
theorem dX12_nearest_68 : decode cX12_nearest 68 = .ok (.lload 5, 2) := by decide +kernel
theorem dX12_nearest_70 : decode cX12_nearest 70 = .ok (.lmul, 1) := by decide +kernel
theorem dX12_nearest_71 : decode cX12_nearest 71 = .ok (.lload_n 3, 1) := by decide +kernel
theorem dX12_nearest_72 : decode cX12_nearest 72 = .ok (.aload_n 0, 1) := by decide +kernel
theorem dX12_nearest_73 : decode cX12_nearest 73 = .ok (.getfield 270, 3) := by decide +kernel
theorem dX12_nearest_76 : decode cX12_nearest 76 = .ok (.i2l, 1) := by decide +kernel
theorem dX12_nearest_77 : decode cX12_nearest 77 = .ok (.lmul, 1) := by decide +kernel
theorem dX12_nearest_78 : decode cX12_nearest 78 = .ok (.lcmp, 1) := by decide +kernel
theorem dX12_nearest_79 : decode cX12_nearest 79 = .ok (.ifCond .ge 28, 3) := by decide +kernel
theorem dX12_nearest_82 : decode cX12_nearest 82 = .ok (.iload 9, 2) := by decide +kernel
theorem dX12_nearest_84 : decode cX12_nearest 84 = .ok (.istore_n 2, 1) := by decide +kernel
theorem dX12_nearest_85 : decode cX12_nearest 85 = .ok (.lload 10, 2) := by decide +kernel
theorem dX12_nearest_87 : decode cX12_nearest 87 = .ok (.lstore_n 3, 1) := by decide +kernel
theorem dX12_nearest_88 : decode cX12_nearest 88 = .ok (.aload_n 0, 1) := by decide +kernel
theorem dX12_nearest_89 : decode cX12_nearest 89 = .ok (.getfield 270, 3) := by decide +kernel
theorem dX12_nearest_92 : decode cX12_nearest 92 = .ok (.i2l, 1) := by decide +kernel
theorem dX12_nearest_93 : decode cX12_nearest 93 = .ok (.lstore 5, 2) := by decide +kernel
theorem dX12_nearest_95 : decode cX12_nearest 95 = .ok (.aload_n 0, 1) := by decide +kernel
theorem dX12_nearest_96 : decode cX12_nearest 96 = .ok (.getfield 282, 3) := by decide +kernel
theorem dX12_nearest_99 : decode cX12_nearest 99 = .ok (.istore 7, 2) := by decide +kernel
theorem dX12_nearest_101 : decode cX12_nearest 101 = .ok (.aload_n 0, 1) := by decide +kernel
theorem dX12_nearest_102 : decode cX12_nearest 102 = .ok (.getfield 285, 3) := by decide +kernel
theorem dX12_nearest_105 : decode cX12_nearest 105 = .ok (.istore 8, 2) := by decide +kernel
theorem dX12_nearest_107 : decode cX12_nearest 107 = .ok (.iinc 9 1, 3) := by decide +kernel
theorem dX12_nearest_110 : decode cX12_nearest 110 = .ok (.goto (-78), 3) := by decide +kernel
theorem dX12_nearest_113 : decode cX12_nearest 113 = .ok (.iload_n 2, 1) := by decide +kernel
theorem dX12_nearest_114 : decode cX12_nearest 114 = .ok (.ifCond .lt 22, 3) := by decide +kernel
theorem dX12_nearest_117 : decode cX12_nearest 117 = .ok (.aload_n 0, 1) := by decide +kernel
theorem dX12_nearest_118 : decode cX12_nearest 118 = .ok (.iconst 0, 1) := by decide +kernel
theorem dX12_nearest_119 : decode cX12_nearest 119 = .ok (.putfield 11, 3) := by decide +kernel
theorem dX12_nearest_122 : decode cX12_nearest 122 = .ok (.aload_n 0, 1) := by decide +kernel
theorem dX12_nearest_123 : decode cX12_nearest 123 = .ok (.iload 7, 2) := by decide +kernel
theorem dX12_nearest_125 : decode cX12_nearest 125 = .ok (.i2l, 1) := by decide +kernel
theorem dX12_nearest_126 : decode cX12_nearest 126 = .ok (.invokevirtual 18, 3) := by decide +kernel
theorem dX12_nearest_129 : decode cX12_nearest 129 = .ok (.aload_n 0, 1) := by decide +kernel
theorem dX12_nearest_130 : decode cX12_nearest 130 = .ok (.iload 8, 2) := by decide +kernel
theorem dX12_nearest_132 : decode cX12_nearest 132 = .ok (.i2l, 1) := by decide +kernel
theorem dX12_nearest_133 : decode cX12_nearest 133 = .ok (.invokevirtual 18, 3) := by decide +kernel
theorem dX12_nearest_136 : decode cX12_nearest 136 = .ok (.iload_n 2, 1) := by decide +kernel
theorem dX12_nearest_137 : decode cX12_nearest 137 = .ok (.ireturn, 1) := by decide +kernel
theorem dX12_worst_0 : decode cX12_worst 0 = .ok (.aload_n 0, 1) := by decide +kernel
theorem dX12_worst_1 : decode cX12_worst 1 = .ok (.iconst 0, 1) := by decide +kernel
theorem dX12_worst_2 : decode cX12_worst 2 = .ok (.putfield 3, 3) := by decide +kernel
theorem dX12_worst_5 : decode cX12_worst 5 = .ok (.iload_n 1, 1) := by decide +kernel
theorem dX12_worst_6 : decode cX12_worst 6 = .ok (.invokestatic 267, 3) := by decide +kernel
theorem dX12_worst_9 : decode cX12_worst 9 = .ok (.ifCond .eq 13, 3) := by decide +kernel
theorem dX12_worst_12 : decode cX12_worst 12 = .ok (.iload_n 2, 1) := by decide +kernel
theorem dX12_worst_13 : decode cX12_worst 13 = .ok (.i2l, 1) := by decide +kernel
theorem dX12_worst_14 : decode cX12_worst 14 = .ok (.lconst 0, 1) := by decide +kernel
theorem dX12_worst_15 : decode cX12_worst 15 = .ok (.lconst 1, 1) := by decide +kernel
theorem dX12_worst_16 : decode cX12_worst 16 = .ok (.invokestatic 25, 3) := by decide +kernel
theorem dX12_worst_19 : decode cX12_worst 19 = .ok (.ifCond .ne 5, 3) := by decide +kernel
theorem dX12_worst_22 : decode cX12_worst 22 = .ok (.iconst (-1), 1) := by decide +kernel
theorem dX12_worst_23 : decode cX12_worst 23 = .ok (.ireturn, 1) := by decide +kernel
theorem dX12_worst_24 : decode cX12_worst 24 = .ok (.bipush (-2), 2) := by decide +kernel
theorem dX12_worst_26 : decode cX12_worst 26 = .ok (.istore_n 3, 1) := by decide +kernel
theorem dX12_worst_27 : decode cX12_worst 27 = .ok (.lconst 0, 1) := by decide +kernel
theorem dX12_worst_28 : decode cX12_worst 28 = .ok (.lstore 4, 2) := by decide +kernel
theorem dX12_worst_30 : decode cX12_worst 30 = .ok (.lconst 1, 1) := by decide +kernel
theorem dX12_worst_31 : decode cX12_worst 31 = .ok (.lstore 6, 2) := by decide +kernel
theorem dX12_worst_33 : decode cX12_worst 33 = .ok (.iconst 0, 1) := by decide +kernel
theorem dX12_worst_34 : decode cX12_worst 34 = .ok (.istore 8, 2) := by decide +kernel
theorem dX12_worst_36 : decode cX12_worst 36 = .ok (.iload 8, 2) := by decide +kernel
theorem dX12_worst_38 : decode cX12_worst 38 = .ok (.aload_n 0, 1) := by decide +kernel
theorem dX12_worst_39 : decode cX12_worst 39 = .ok (.getfield 22, 3) := by decide +kernel
theorem dX12_worst_42 : decode cX12_worst 42 = .ok (.if_icmp .ge 84, 3) := by decide +kernel
theorem dX12_worst_45 : decode cX12_worst 45 = .ok (.aload_n 0, 1) := by decide +kernel
theorem dX12_worst_46 : decode cX12_worst 46 = .ok (.iload 8, 2) := by decide +kernel
theorem dX12_worst_48 : decode cX12_worst 48 = .ok (.iload_n 1, 1) := by decide +kernel
theorem dX12_worst_49 : decode cX12_worst 49 = .ok (.invokevirtual 288, 3) := by decide +kernel
theorem dX12_worst_52 : decode cX12_worst 52 = .ok (.aload_n 0, 1) := by decide +kernel
theorem dX12_worst_53 : decode cX12_worst 53 = .ok (.getfield 273, 3) := by decide +kernel
theorem dX12_worst_56 : decode cX12_worst 56 = .ok (.i2l, 1) := by decide +kernel
theorem dX12_worst_57 : decode cX12_worst 57 = .ok (.lload 6, 2) := by decide +kernel
theorem dX12_worst_59 : decode cX12_worst 59 = .ok (.lmul, 1) := by decide +kernel
theorem dX12_worst_60 : decode cX12_worst 60 = .ok (.lload 4, 2) := by decide +kernel
theorem dX12_worst_62 : decode cX12_worst 62 = .ok (.aload_n 0, 1) := by decide +kernel
theorem dX12_worst_63 : decode cX12_worst 63 = .ok (.getfield 270, 3) := by decide +kernel
theorem dX12_worst_66 : decode cX12_worst 66 = .ok (.i2l, 1) := by decide +kernel
theorem dX12_worst_67 : decode cX12_worst 67 = .ok (.lmul, 1) := by decide +kernel
theorem dX12_worst_68 : decode cX12_worst 68 = .ok (.lsub, 1) := by decide +kernel
theorem dX12_worst_69 : decode cX12_worst 69 = .ok (.lstore 9, 2) := by decide +kernel
theorem dX12_worst_71 : decode cX12_worst 71 = .ok (.aload_n 0, 1) := by decide +kernel
theorem dX12_worst_72 : decode cX12_worst 72 = .ok (.getfield 270, 3) := by decide +kernel
theorem dX12_worst_75 : decode cX12_worst 75 = .ok (.ifCond .le 45, 3) := by decide +kernel
theorem dX12_worst_78 : decode cX12_worst 78 = .ok (.iload_n 3, 1) := by decide +kernel
theorem dX12_worst_79 : decode cX12_worst 79 = .ok (.ifCond .lt 24, 3) := by decide +kernel
theorem dX12_worst_82 : decode cX12_worst 82 = .ok (.iload_n 2, 1) := by decide +kernel
theorem dX12_worst_83 : decode cX12_worst 83 = .ok (.ifCond .ne 13, 3) := by decide +kernel
theorem dX12_worst_86 : decode cX12_worst 86 = .ok (.lload 9, 2) := by decide +kernel
theorem dX12_worst_88 : decode cX12_worst 88 = .ok (.lconst 0, 1) := by decide +kernel
theorem dX12_worst_89 : decode cX12_worst 89 = .ok (.lcmp, 1) := by decide +kernel
theorem dX12_worst_90 : decode cX12_worst 90 = .ok (.ifCond .le 30, 3) := by decide +kernel
theorem dX12_worst_93 : decode cX12_worst 93 = .ok (.goto 10, 3) := by decide +kernel
theorem dX12_worst_96 : decode cX12_worst 96 = .ok (.lload 9, 2) := by decide +kernel
theorem dX12_worst_98 : decode cX12_worst 98 = .ok (.lconst 0, 1) := by decide +kernel
theorem dX12_worst_99 : decode cX12_worst 99 = .ok (.lcmp, 1) := by decide +kernel
theorem dX12_worst_100 : decode cX12_worst 100 = .ok (.ifCond .ge 20, 3) := by decide +kernel
theorem dX12_worst_103 : decode cX12_worst 103 = .ok (.iload 8, 2) := by decide +kernel
theorem dX12_worst_105 : decode cX12_worst 105 = .ok (.istore_n 3, 1) := by decide +kernel
theorem dX12_worst_106 : decode cX12_worst 106 = .ok (.aload_n 0, 1) := by decide +kernel
theorem dX12_worst_107 : decode cX12_worst 107 = .ok (.getfield 273, 3) := by decide +kernel
theorem dX12_worst_110 : decode cX12_worst 110 = .ok (.i2l, 1) := by decide +kernel
theorem dX12_worst_111 : decode cX12_worst 111 = .ok (.lstore 4, 2) := by decide +kernel
theorem dX12_worst_113 : decode cX12_worst 113 = .ok (.aload_n 0, 1) := by decide +kernel
theorem dX12_worst_114 : decode cX12_worst 114 = .ok (.getfield 270, 3) := by decide +kernel
theorem dX12_worst_117 : decode cX12_worst 117 = .ok (.i2l, 1) := by decide +kernel
theorem dX12_worst_118 : decode cX12_worst 118 = .ok (.lstore 6, 2) := by decide +kernel
theorem dX12_worst_120 : decode cX12_worst 120 = .ok (.iinc 8 1, 3) := by decide +kernel
theorem dX12_worst_123 : decode cX12_worst 123 = .ok (.goto (-87), 3) := by decide +kernel
theorem dX12_worst_126 : decode cX12_worst 126 = .ok (.iload_n 3, 1) := by decide +kernel
theorem dX12_worst_127 : decode cX12_worst 127 = .ok (.ifCond .lt 16, 3) := by decide +kernel
theorem dX12_worst_130 : decode cX12_worst 130 = .ok (.aload_n 0, 1) := by decide +kernel
theorem dX12_worst_131 : decode cX12_worst 131 = .ok (.iconst 0, 1) := by decide +kernel
theorem dX12_worst_132 : decode cX12_worst 132 = .ok (.putfield 11, 3) := by decide +kernel
theorem dX12_worst_135 : decode cX12_worst 135 = .ok (.aload_n 0, 1) := by decide +kernel
theorem dX12_worst_136 : decode cX12_worst 136 = .ok (.lload 4, 2) := by decide +kernel
theorem dX12_worst_138 : decode cX12_worst 138 = .ok (.lload 6, 2) := by decide +kernel
theorem dX12_worst_140 : decode cX12_worst 140 = .ok (.invokevirtual 258, 3) := by decide +kernel
theorem dX12_worst_143 : decode cX12_worst 143 = .ok (.iload_n 3, 1) := by decide +kernel
theorem dX12_worst_144 : decode cX12_worst 144 = .ok (.ireturn, 1) := by decide +kernel
theorem dX12_right_0 : decode cX12_right 0 = .ok (.aload_n 0, 1) := by decide +kernel
theorem dX12_right_1 : decode cX12_right 1 = .ok (.iconst 0, 1) := by decide +kernel
theorem dX12_right_2 : decode cX12_right 2 = .ok (.putfield 3, 3) := by decide +kernel
theorem dX12_right_5 : decode cX12_right 5 = .ok (.iload_n 1, 1) := by decide +kernel
theorem dX12_right_6 : decode cX12_right 6 = .ok (.invokestatic 267, 3) := by decide +kernel
theorem dX12_right_9 : decode cX12_right 9 = .ok (.ifCond .ne 5, 3) := by decide +kernel
theorem dX12_right_12 : decode cX12_right 12 = .ok (.iconst (-1), 1) := by decide +kernel
theorem dX12_right_13 : decode cX12_right 13 = .ok (.ireturn, 1) := by decide +kernel
theorem dX12_right_14 : decode cX12_right 14 = .ok (.iconst 0, 1) := by decide +kernel
theorem dX12_right_15 : decode cX12_right 15 = .ok (.istore_n 2, 1) := by decide +kernel
theorem dX12_right_16 : decode cX12_right 16 = .ok (.iconst 0, 1) := by decide +kernel
theorem dX12_right_17 : decode cX12_right 17 = .ok (.istore_n 3, 1) := by decide +kernel
theorem dX12_right_18 : decode cX12_right 18 = .ok (.iconst 0, 1) := by decide +kernel
theorem dX12_right_19 : decode cX12_right 19 = .ok (.istore 4, 2) := by decide +kernel
theorem dX12_right_21 : decode cX12_right 21 = .ok (.iconst 0, 1) := by decide +kernel
theorem dX12_right_22 : decode cX12_right 22 = .ok (.istore 5, 2) := by decide +kernel
theorem dX12_right_24 : decode cX12_right 24 = .ok (.iload 5, 2) := by decide +kernel
theorem dX12_right_26 : decode cX12_right 26 = .ok (.aload_n 0, 1) := by decide +kernel
theorem dX12_right_27 : decode cX12_right 27 = .ok (.getfield 22, 3) := by decide +kernel
theorem dX12_right_30 : decode cX12_right 30 = .ok (.if_icmp .ge 161, 3) := by decide +kernel
theorem dX12_right_33 : decode cX12_right 33 = .ok (.iconst 0, 1) := by decide +kernel
theorem dX12_right_34 : decode cX12_right 34 = .ok (.istore 6, 2) := by decide +kernel
theorem dX12_right_36 : decode cX12_right 36 = .ok (.iload 6, 2) := by decide +kernel
theorem dX12_right_38 : decode cX12_right 38 = .ok (.iload 5, 2) := by decide +kernel
theorem dX12_right_40 : decode cX12_right 40 = .ok (.if_icmp .ge 145, 3) := by decide +kernel
theorem dX12_right_43 : decode cX12_right 43 = .ok (.aload_n 0, 1) := by decide +kernel
theorem dX12_right_44 : decode cX12_right 44 = .ok (.iload 5, 2) := by decide +kernel
theorem dX12_right_46 : decode cX12_right 46 = .ok (.iload_n 1, 1) := by decide +kernel
theorem dX12_right_47 : decode cX12_right 47 = .ok (.invokevirtual 288, 3) := by decide +kernel
theorem dX12_right_50 : decode cX12_right 50 = .ok (.aload_n 0, 1) := by decide +kernel
theorem dX12_right_51 : decode cX12_right 51 = .ok (.getfield 273, 3) := by decide +kernel
theorem dX12_right_54 : decode cX12_right 54 = .ok (.i2l, 1) := by decide +kernel
theorem dX12_right_55 : decode cX12_right 55 = .ok (.lstore 7, 2) := by decide +kernel
theorem dX12_right_57 : decode cX12_right 57 = .ok (.aload_n 0, 1) := by decide +kernel
theorem dX12_right_58 : decode cX12_right 58 = .ok (.getfield 270, 3) := by decide +kernel
theorem dX12_right_61 : decode cX12_right 61 = .ok (.i2l, 1) := by decide +kernel
theorem dX12_right_62 : decode cX12_right 62 = .ok (.lstore 9, 2) := by decide +kernel
theorem dX12_right_64 : decode cX12_right 64 = .ok (.aload_n 0, 1) := by decide +kernel
theorem dX12_right_65 : decode cX12_right 65 = .ok (.iload 6, 2) := by decide +kernel
theorem dX12_right_67 : decode cX12_right 67 = .ok (.iload_n 1, 1) := by decide +kernel
theorem dX12_right_68 : decode cX12_right 68 = .ok (.invokevirtual 288, 3) := by decide +kernel
theorem dX12_right_71 : decode cX12_right 71 = .ok (.lload 9, 2) := by decide +kernel
theorem dX12_right_73 : decode cX12_right 73 = .ok (.lconst 0, 1) := by decide +kernel
theorem dX12_right_74 : decode cX12_right 74 = .ok (.lcmp, 1) := by decide +kernel
theorem dX12_right_75 : decode cX12_right 75 = .ok (.ifCond .eq 104, 3) := by decide +kernel
theorem dX12_right_78 : decode cX12_right 78 = .ok (.aload_n 0, 1) := by decide +kernel
theorem dX12_right_79 : decode cX12_right 79 = .ok (.getfield 270, 3) := by decide +kernel
theorem dX12_right_82 : decode cX12_right 82 = .ok (.ifCond .ne 6, 3) := by decide +kernel
theorem dX12_right_85 : decode cX12_right 85 = .ok (.goto 94, 3) := by decide +kernel
theorem dX12_right_88 : decode cX12_right 88 = .ok (.lload 7, 2) := by decide +kernel
theorem dX12_right_90 : decode cX12_right 90 = .ok (.aload_n 0, 1) := by decide +kernel
theorem dX12_right_91 : decode cX12_right 91 = .ok (.getfield 270, 3) := by decide +kernel
theorem dX12_right_94 : decode cX12_right 94 = .ok (.i2l, 1) := by decide +kernel
theorem dX12_right_95 : decode cX12_right 95 = .ok (.lmul, 1) := by decide +kernel
theorem dX12_right_96 : decode cX12_right 96 = .ok (.aload_n 0, 1) := by decide +kernel
theorem dX12_right_97 : decode cX12_right 97 = .ok (.getfield 273, 3) := by decide +kernel
theorem dX12_right_100 : decode cX12_right 100 = .ok (.i2l, 1) := by decide +kernel
theorem dX12_right_101 : decode cX12_right 101 = .ok (.lload 9, 2) := by decide +kernel
theorem dX12_right_103 : decode cX12_right 103 = .ok (.lmul, 1) := by decide +kernel
theorem dX12_right_104 : decode cX12_right 104 = .ok (.lsub, 1) := by decide +kernel
theorem dX12_right_105 : decode cX12_right 105 = .ok (.invokestatic 295, 3) := by decide +kernel
theorem dX12_right_108 : decode cX12_right 108 = .ok (.aload_n 0, 1) := by decide +kernel
theorem dX12_right_109 : decode cX12_right 109 = .ok (.getfield 46, 3) := by decide +kernel
theorem dX12_right_112 : decode cX12_right 112 = .ok (.iload 5, 2) := by decide +kernel
theorem dX12_right_114 : decode cX12_right 114 = .ok (.iaload, 1) := by decide +kernel
theorem dX12_right_115 : decode cX12_right 115 = .ok (.aload_n 0, 1) := by decide +kernel
theorem dX12_right_116 : decode cX12_right 116 = .ok (.getfield 46, 3) := by decide +kernel
theorem dX12_right_119 : decode cX12_right 119 = .ok (.iload 6, 2) := by decide +kernel
theorem dX12_right_121 : decode cX12_right 121 = .ok (.iaload, 1) := by decide +kernel
theorem dX12_right_122 : decode cX12_right 122 = .ok (.isub, 1) := by decide +kernel
theorem dX12_right_123 : decode cX12_right 123 = .ok (.invokestatic 301, 3) := by decide +kernel
theorem dX12_right_126 : decode cX12_right 126 = .ok (.imul, 1) := by decide +kernel
theorem dX12_right_127 : decode cX12_right 127 = .ok (.istore 11, 2) := by decide +kernel
theorem dX12_right_129 : decode cX12_right 129 = .ok (.iload_n 2, 1) := by decide +kernel
theorem dX12_right_130 : decode cX12_right 130 = .ok (.iload 11, 2) := by decide +kernel
theorem dX12_right_132 : decode cX12_right 132 = .ok (.ifCond .le 7, 3) := by decide +kernel
theorem dX12_right_135 : decode cX12_right 135 = .ok (.iconst 1, 1) := by decide +kernel
theorem dX12_right_136 : decode cX12_right 136 = .ok (.goto 4, 3) := by decide +kernel
theorem dX12_right_139 : decode cX12_right 139 = .ok (.iconst 0, 1) := by decide +kernel
theorem dX12_right_140 : decode cX12_right 140 = .ok (.invokestatic 207, 3) := by decide +kernel
theorem dX12_right_143 : decode cX12_right 143 = .ok (.iadd, 1) := by decide +kernel
theorem dX12_right_144 : decode cX12_right 144 = .ok (.istore_n 2, 1) := by decide +kernel
theorem dX12_right_145 : decode cX12_right 145 = .ok (.iload_n 3, 1) := by decide +kernel
theorem dX12_right_146 : decode cX12_right 146 = .ok (.iload 11, 2) := by decide +kernel
theorem dX12_right_148 : decode cX12_right 148 = .ok (.ifCond .ge 7, 3) := by decide +kernel
theorem dX12_right_151 : decode cX12_right 151 = .ok (.iconst 1, 1) := by decide +kernel
theorem dX12_right_152 : decode cX12_right 152 = .ok (.goto 4, 3) := by decide +kernel
theorem dX12_right_155 : decode cX12_right 155 = .ok (.iconst 0, 1) := by decide +kernel
theorem dX12_right_156 : decode cX12_right 156 = .ok (.invokestatic 207, 3) := by decide +kernel
theorem dX12_right_159 : decode cX12_right 159 = .ok (.iadd, 1) := by decide +kernel
theorem dX12_right_160 : decode cX12_right 160 = .ok (.istore_n 3, 1) := by decide +kernel
theorem dX12_right_161 : decode cX12_right 161 = .ok (.iload 4, 2) := by decide +kernel
theorem dX12_right_163 : decode cX12_right 163 = .ok (.iload 11, 2) := by decide +kernel
theorem dX12_right_165 : decode cX12_right 165 = .ok (.ifCond .ne 7, 3) := by decide +kernel
theorem dX12_right_168 : decode cX12_right 168 = .ok (.iconst 1, 1) := by decide +kernel
theorem dX12_right_169 : decode cX12_right 169 = .ok (.goto 4, 3) := by decide +kernel
theorem dX12_right_172 : decode cX12_right 172 = .ok (.iconst 0, 1) := by decide +kernel
theorem dX12_right_173 : decode cX12_right 173 = .ok (.invokestatic 207, 3) := by decide +kernel
theorem dX12_right_176 : decode cX12_right 176 = .ok (.iadd, 1) := by decide +kernel
theorem dX12_right_177 : decode cX12_right 177 = .ok (.istore 4, 2) := by decide +kernel
theorem dX12_right_179 : decode cX12_right 179 = .ok (.iinc 6 1, 3) := by decide +kernel
theorem dX12_right_182 : decode cX12_right 182 = .ok (.goto (-146), 3) := by decide +kernel
theorem dX12_right_185 : decode cX12_right 185 = .ok (.iinc 5 1, 3) := by decide +kernel
theorem dX12_right_188 : decode cX12_right 188 = .ok (.goto (-164), 3) := by decide +kernel
theorem dX12_right_191 : decode cX12_right 191 = .ok (.aload_n 0, 1) := by decide +kernel
theorem dX12_right_192 : decode cX12_right 192 = .ok (.iconst 0, 1) := by decide +kernel
theorem dX12_right_193 : decode cX12_right 193 = .ok (.putfield 11, 3) := by decide +kernel
theorem dX12_right_196 : decode cX12_right 196 = .ok (.aload_n 0, 1) := by decide +kernel
theorem dX12_right_197 : decode cX12_right 197 = .ok (.iload_n 3, 1) := by decide +kernel
theorem dX12_right_198 : decode cX12_right 198 = .ok (.i2l, 1) := by decide +kernel
theorem dX12_right_199 : decode cX12_right 199 = .ok (.invokevirtual 18, 3) := by decide +kernel
theorem dX12_right_202 : decode cX12_right 202 = .ok (.aload_n 0, 1) := by decide +kernel
theorem dX12_right_203 : decode cX12_right 203 = .ok (.iload 4, 2) := by decide +kernel
theorem dX12_right_205 : decode cX12_right 205 = .ok (.i2l, 1) := by decide +kernel
theorem dX12_right_206 : decode cX12_right 206 = .ok (.invokevirtual 18, 3) := by decide +kernel
theorem dX12_right_209 : decode cX12_right 209 = .ok (.iload_n 2, 1) := by decide +kernel
theorem dX12_right_210 : decode cX12_right 210 = .ok (.ireturn, 1) := by decide +kernel
theorem dX12_threeMany_0 : decode cX12_threeMany 0 = .ok (.iconst 0, 1) := by decide +kernel
theorem dX12_threeMany_1 : decode cX12_threeMany 1 = .ok (.istore_n 2, 1) := by decide +kernel
theorem dX12_threeMany_2 : decode cX12_threeMany 2 = .ok (.iconst 0, 1) := by decide +kernel
theorem dX12_threeMany_3 : decode cX12_threeMany 3 = .ok (.istore_n 3, 1) := by decide +kernel
theorem dX12_threeMany_4 : decode cX12_threeMany 4 = .ok (.iload_n 3, 1) := by decide +kernel
theorem dX12_threeMany_5 : decode cX12_threeMany 5 = .ok (.bipush 12, 2) := by decide +kernel
theorem dX12_threeMany_7 : decode cX12_threeMany 7 = .ok (.aload_n 0, 1) := by decide +kernel
theorem dX12_threeMany_8 : decode cX12_threeMany 8 = .ok (.getfield 29, 3) := by decide +kernel
theorem dX12_threeMany_11 : decode cX12_threeMany 11 = .ok (.imul, 1) := by decide +kernel
theorem dX12_threeMany_12 : decode cX12_threeMany 12 = .ok (.if_icmp .ge 21, 3) := by decide +kernel
theorem dX12_threeMany_15 : decode cX12_threeMany 15 = .ok (.iload_n 2, 1) := by decide +kernel
theorem dX12_threeMany_16 : decode cX12_threeMany 16 = .ok (.aload_n 0, 1) := by decide +kernel
theorem dX12_threeMany_17 : decode cX12_threeMany 17 = .ok (.iload_n 3, 1) := by decide +kernel
theorem dX12_threeMany_18 : decode cX12_threeMany 18 = .ok (.iload_n 1, 1) := by decide +kernel
theorem dX12_threeMany_19 : decode cX12_threeMany 19 = .ok (.invokevirtual 305, 3) := by decide +kernel
theorem dX12_threeMany_22 : decode cX12_threeMany 22 = .ok (.invokestatic 207, 3) := by decide +kernel
theorem dX12_threeMany_25 : decode cX12_threeMany 25 = .ok (.iadd, 1) := by decide +kernel
theorem dX12_threeMany_26 : decode cX12_threeMany 26 = .ok (.istore_n 2, 1) := by decide +kernel
theorem dX12_threeMany_27 : decode cX12_threeMany 27 = .ok (.iinc 3 1, 3) := by decide +kernel
theorem dX12_threeMany_30 : decode cX12_threeMany 30 = .ok (.goto (-26), 3) := by decide +kernel
theorem dX12_threeMany_33 : decode cX12_threeMany 33 = .ok (.iload_n 2, 1) := by decide +kernel
theorem dX12_threeMany_34 : decode cX12_threeMany 34 = .ok (.ireturn, 1) := by decide +kernel
theorem dX12_areTold_0 : decode cX12_areTold 0 = .ok (.aload_n 0, 1) := by decide +kernel
theorem dX12_areTold_1 : decode cX12_areTold 1 = .ok (.aload_n 0, 1) := by decide +kernel
theorem dX12_areTold_2 : decode cX12_areTold 2 = .ok (.getfield 308, 3) := by decide +kernel
theorem dX12_areTold_5 : decode cX12_areTold 5 = .ok (.iconst 0, 1) := by decide +kernel
theorem dX12_areTold_6 : decode cX12_areTold 6 = .ok (.iaload, 1) := by decide +kernel
theorem dX12_areTold_7 : decode cX12_areTold 7 = .ok (.iload_n 1, 1) := by decide +kernel
theorem dX12_areTold_8 : decode cX12_areTold 8 = .ok (.iload_n 2, 1) := by decide +kernel
theorem dX12_areTold_9 : decode cX12_areTold 9 = .ok (.invokevirtual 254, 3) := by decide +kernel
theorem dX12_areTold_12 : decode cX12_areTold 12 = .ok (.ifCond .eq 37, 3) := by decide +kernel
theorem dX12_areTold_15 : decode cX12_areTold 15 = .ok (.aload_n 0, 1) := by decide +kernel
theorem dX12_areTold_16 : decode cX12_areTold 16 = .ok (.aload_n 0, 1) := by decide +kernel
theorem dX12_areTold_17 : decode cX12_areTold 17 = .ok (.getfield 308, 3) := by decide +kernel
theorem dX12_areTold_20 : decode cX12_areTold 20 = .ok (.iconst 1, 1) := by decide +kernel
theorem dX12_areTold_21 : decode cX12_areTold 21 = .ok (.iaload, 1) := by decide +kernel
theorem dX12_areTold_22 : decode cX12_areTold 22 = .ok (.iload_n 1, 1) := by decide +kernel
theorem dX12_areTold_23 : decode cX12_areTold 23 = .ok (.iload_n 2, 1) := by decide +kernel
theorem dX12_areTold_24 : decode cX12_areTold 24 = .ok (.invokevirtual 254, 3) := by decide +kernel
theorem dX12_areTold_27 : decode cX12_areTold 27 = .ok (.ifCond .eq 22, 3) := by decide +kernel
theorem dX12_areTold_30 : decode cX12_areTold 30 = .ok (.aload_n 0, 1) := by decide +kernel
theorem dX12_areTold_31 : decode cX12_areTold 31 = .ok (.aload_n 0, 1) := by decide +kernel
theorem dX12_areTold_32 : decode cX12_areTold 32 = .ok (.getfield 308, 3) := by decide +kernel
theorem dX12_areTold_35 : decode cX12_areTold 35 = .ok (.iconst 2, 1) := by decide +kernel
theorem dX12_areTold_36 : decode cX12_areTold 36 = .ok (.iaload, 1) := by decide +kernel
theorem dX12_areTold_37 : decode cX12_areTold 37 = .ok (.iload_n 1, 1) := by decide +kernel
theorem dX12_areTold_38 : decode cX12_areTold 38 = .ok (.iload_n 2, 1) := by decide +kernel
theorem dX12_areTold_39 : decode cX12_areTold 39 = .ok (.invokevirtual 254, 3) := by decide +kernel
theorem dX12_areTold_42 : decode cX12_areTold 42 = .ok (.ifCond .eq 7, 3) := by decide +kernel
theorem dX12_areTold_45 : decode cX12_areTold 45 = .ok (.iconst 1, 1) := by decide +kernel
theorem dX12_areTold_46 : decode cX12_areTold 46 = .ok (.goto 4, 3) := by decide +kernel
theorem dX12_areTold_49 : decode cX12_areTold 49 = .ok (.iconst 0, 1) := by decide +kernel
theorem dX12_areTold_50 : decode cX12_areTold 50 = .ok (.ireturn, 1) := by decide +kernel
theorem dX12_together_0 : decode cX12_together 0 = .ok (.lconst 0, 1) := by decide +kernel
theorem dX12_together_1 : decode cX12_together 1 = .ok (.lstore 4, 2) := by decide +kernel
theorem dX12_together_3 : decode cX12_together 3 = .ok (.lconst 0, 1) := by decide +kernel
theorem dX12_together_4 : decode cX12_together 4 = .ok (.lstore 6, 2) := by decide +kernel
theorem dX12_together_6 : decode cX12_together 6 = .ok (.lconst 0, 1) := by decide +kernel
theorem dX12_together_7 : decode cX12_together 7 = .ok (.lstore 8, 2) := by decide +kernel
theorem dX12_together_9 : decode cX12_together 9 = .ok (.lconst 0, 1) := by decide +kernel
theorem dX12_together_10 : decode cX12_together 10 = .ok (.lstore 10, 2) := by decide +kernel
theorem dX12_together_12 : decode cX12_together 12 = .ok (.iconst 0, 1) := by decide +kernel
theorem dX12_together_13 : decode cX12_together 13 = .ok (.istore 12, 2) := by decide +kernel
theorem dX12_together_15 : decode cX12_together 15 = .ok (.iload 12, 2) := by decide +kernel
theorem dX12_together_17 : decode cX12_together 17 = .ok (.bipush 12, 2) := by decide +kernel
theorem dX12_together_19 : decode cX12_together 19 = .ok (.aload_n 0, 1) := by decide +kernel
theorem dX12_together_20 : decode cX12_together 20 = .ok (.getfield 29, 3) := by decide +kernel
theorem dX12_together_23 : decode cX12_together 23 = .ok (.imul, 1) := by decide +kernel
theorem dX12_together_24 : decode cX12_together 24 = .ok (.if_icmp .ge 81, 3) := by decide +kernel
theorem dX12_together_27 : decode cX12_together 27 = .ok (.aload_n 0, 1) := by decide +kernel
theorem dX12_together_28 : decode cX12_together 28 = .ok (.iload 12, 2) := by decide +kernel
theorem dX12_together_30 : decode cX12_together 30 = .ok (.iload_n 1, 1) := by decide +kernel
theorem dX12_together_31 : decode cX12_together 31 = .ok (.invokevirtual 305, 3) := by decide +kernel
theorem dX12_together_34 : decode cX12_together 34 = .ok (.ifCond .eq 65, 3) := by decide +kernel
theorem dX12_together_37 : decode cX12_together 37 = .ok (.aload_n 0, 1) := by decide +kernel
theorem dX12_together_38 : decode cX12_together 38 = .ok (.aload_n 0, 1) := by decide +kernel
theorem dX12_together_39 : decode cX12_together 39 = .ok (.getfield 308, 3) := by decide +kernel
theorem dX12_together_42 : decode cX12_together 42 = .ok (.iload_n 2, 1) := by decide +kernel
theorem dX12_together_43 : decode cX12_together 43 = .ok (.iaload, 1) := by decide +kernel
theorem dX12_together_44 : decode cX12_together 44 = .ok (.iload 12, 2) := by decide +kernel
theorem dX12_together_46 : decode cX12_together 46 = .ok (.iload_n 1, 1) := by decide +kernel
theorem dX12_together_47 : decode cX12_together 47 = .ok (.invokevirtual 92, 3) := by decide +kernel
theorem dX12_together_50 : decode cX12_together 50 = .ok (.i2l, 1) := by decide +kernel
theorem dX12_together_51 : decode cX12_together 51 = .ok (.lstore 13, 2) := by decide +kernel
theorem dX12_together_53 : decode cX12_together 53 = .ok (.aload_n 0, 1) := by decide +kernel
theorem dX12_together_54 : decode cX12_together 54 = .ok (.aload_n 0, 1) := by decide +kernel
theorem dX12_together_55 : decode cX12_together 55 = .ok (.getfield 308, 3) := by decide +kernel
theorem dX12_together_58 : decode cX12_together 58 = .ok (.iload_n 3, 1) := by decide +kernel
theorem dX12_together_59 : decode cX12_together 59 = .ok (.iaload, 1) := by decide +kernel
theorem dX12_together_60 : decode cX12_together 60 = .ok (.iload 12, 2) := by decide +kernel
theorem dX12_together_62 : decode cX12_together 62 = .ok (.iload_n 1, 1) := by decide +kernel
theorem dX12_together_63 : decode cX12_together 63 = .ok (.invokevirtual 92, 3) := by decide +kernel
theorem dX12_together_66 : decode cX12_together 66 = .ok (.i2l, 1) := by decide +kernel
theorem dX12_together_67 : decode cX12_together 67 = .ok (.lstore 15, 2) := by decide +kernel
theorem dX12_together_69 : decode cX12_together 69 = .ok (.lload 4, 2) := by decide +kernel
theorem dX12_together_71 : decode cX12_together 71 = .ok (.lconst 1, 1) := by decide +kernel
theorem dX12_together_72 : decode cX12_together 72 = .ok (.ladd, 1) := by decide +kernel
theorem dX12_together_73 : decode cX12_together 73 = .ok (.lstore 4, 2) := by decide +kernel
theorem dX12_together_75 : decode cX12_together 75 = .ok (.lload 6, 2) := by decide +kernel
theorem dX12_together_77 : decode cX12_together 77 = .ok (.lload 13, 2) := by decide +kernel
theorem dX12_together_79 : decode cX12_together 79 = .ok (.ladd, 1) := by decide +kernel
theorem dX12_together_80 : decode cX12_together 80 = .ok (.lstore 6, 2) := by decide +kernel
theorem dX12_together_82 : decode cX12_together 82 = .ok (.lload 8, 2) := by decide +kernel
theorem dX12_together_84 : decode cX12_together 84 = .ok (.lload 15, 2) := by decide +kernel
theorem dX12_together_86 : decode cX12_together 86 = .ok (.ladd, 1) := by decide +kernel
theorem dX12_together_87 : decode cX12_together 87 = .ok (.lstore 8, 2) := by decide +kernel
theorem dX12_together_89 : decode cX12_together 89 = .ok (.lload 10, 2) := by decide +kernel
theorem dX12_together_91 : decode cX12_together 91 = .ok (.lload 13, 2) := by decide +kernel
theorem dX12_together_93 : decode cX12_together 93 = .ok (.lload 15, 2) := by decide +kernel
theorem dX12_together_95 : decode cX12_together 95 = .ok (.lmul, 1) := by decide +kernel
theorem dX12_together_96 : decode cX12_together 96 = .ok (.ladd, 1) := by decide +kernel
theorem dX12_together_97 : decode cX12_together 97 = .ok (.lstore 10, 2) := by decide +kernel
theorem dX12_together_99 : decode cX12_together 99 = .ok (.iinc 12 1, 3) := by decide +kernel
theorem dX12_together_102 : decode cX12_together 102 = .ok (.goto (-87), 3) := by decide +kernel
theorem dX12_together_105 : decode cX12_together 105 = .ok (.lload 4, 2) := by decide +kernel
theorem dX12_together_107 : decode cX12_together 107 = .ok (.lload 10, 2) := by decide +kernel
theorem dX12_together_109 : decode cX12_together 109 = .ok (.lmul, 1) := by decide +kernel
theorem dX12_together_110 : decode cX12_together 110 = .ok (.lload 6, 2) := by decide +kernel
theorem dX12_together_112 : decode cX12_together 112 = .ok (.lload 8, 2) := by decide +kernel
theorem dX12_together_114 : decode cX12_together 114 = .ok (.lmul, 1) := by decide +kernel
theorem dX12_together_115 : decode cX12_together 115 = .ok (.lsub, 1) := by decide +kernel
theorem dX12_together_116 : decode cX12_together 116 = .ok (.lreturn, 1) := by decide +kernel
theorem dX12_thousandths_0 : decode cX12_thousandths 0 = .ok (.lload_n 0, 1) := by decide +kernel
theorem dX12_thousandths_1 : decode cX12_thousandths 1 = .ok (.lconst 0, 1) := by decide +kernel
theorem dX12_thousandths_2 : decode cX12_thousandths 2 = .ok (.lcmp, 1) := by decide +kernel
theorem dX12_thousandths_3 : decode cX12_thousandths 3 = .ok (.ifCond .ge 7, 3) := by decide +kernel
theorem dX12_thousandths_6 : decode cX12_thousandths 6 = .ok (.iconst 1, 1) := by decide +kernel
theorem dX12_thousandths_7 : decode cX12_thousandths 7 = .ok (.goto 4, 3) := by decide +kernel
theorem dX12_thousandths_10 : decode cX12_thousandths 10 = .ok (.iconst 0, 1) := by decide +kernel
theorem dX12_thousandths_11 : decode cX12_thousandths 11 = .ok (.lload_n 2, 1) := by decide +kernel
theorem dX12_thousandths_12 : decode cX12_thousandths 12 = .ok (.lconst 0, 1) := by decide +kernel
theorem dX12_thousandths_13 : decode cX12_thousandths 13 = .ok (.lcmp, 1) := by decide +kernel
theorem dX12_thousandths_14 : decode cX12_thousandths 14 = .ok (.ifCond .ge 7, 3) := by decide +kernel
theorem dX12_thousandths_17 : decode cX12_thousandths 17 = .ok (.iconst 1, 1) := by decide +kernel
theorem dX12_thousandths_18 : decode cX12_thousandths 18 = .ok (.goto 4, 3) := by decide +kernel
theorem dX12_thousandths_21 : decode cX12_thousandths 21 = .ok (.iconst 0, 1) := by decide +kernel
theorem dX12_thousandths_22 : decode cX12_thousandths 22 = .ok (.if_icmp .eq 7, 3) := by decide +kernel
theorem dX12_thousandths_25 : decode cX12_thousandths 25 = .ok (.iconst 1, 1) := by decide +kernel
theorem dX12_thousandths_26 : decode cX12_thousandths 26 = .ok (.goto 4, 3) := by decide +kernel
theorem dX12_thousandths_29 : decode cX12_thousandths 29 = .ok (.iconst 0, 1) := by decide +kernel
theorem dX12_thousandths_30 : decode cX12_thousandths 30 = .ok (.istore 4, 2) := by decide +kernel
theorem dX12_thousandths_32 : decode cX12_thousandths 32 = .ok (.lload_n 0, 1) := by decide +kernel
theorem dX12_thousandths_33 : decode cX12_thousandths 33 = .ok (.lconst 0, 1) := by decide +kernel
theorem dX12_thousandths_34 : decode cX12_thousandths 34 = .ok (.lcmp, 1) := by decide +kernel
theorem dX12_thousandths_35 : decode cX12_thousandths 35 = .ok (.ifCond .ge 8, 3) := by decide +kernel
theorem dX12_thousandths_38 : decode cX12_thousandths 38 = .ok (.lload_n 0, 1) := by decide +kernel
theorem dX12_thousandths_39 : decode cX12_thousandths 39 = .ok (.lneg, 1) := by decide +kernel
theorem dX12_thousandths_40 : decode cX12_thousandths 40 = .ok (.goto 4, 3) := by decide +kernel
theorem dX12_thousandths_43 : decode cX12_thousandths 43 = .ok (.lload_n 0, 1) := by decide +kernel
theorem dX12_thousandths_44 : decode cX12_thousandths 44 = .ok (.lstore 5, 2) := by decide +kernel
theorem dX12_thousandths_46 : decode cX12_thousandths 46 = .ok (.lload_n 2, 1) := by decide +kernel
theorem dX12_thousandths_47 : decode cX12_thousandths 47 = .ok (.lconst 0, 1) := by decide +kernel
theorem dX12_thousandths_48 : decode cX12_thousandths 48 = .ok (.lcmp, 1) := by decide +kernel
theorem dX12_thousandths_49 : decode cX12_thousandths 49 = .ok (.ifCond .ge 8, 3) := by decide +kernel
theorem dX12_thousandths_52 : decode cX12_thousandths 52 = .ok (.lload_n 2, 1) := by decide +kernel
theorem dX12_thousandths_53 : decode cX12_thousandths 53 = .ok (.lneg, 1) := by decide +kernel
theorem dX12_thousandths_54 : decode cX12_thousandths 54 = .ok (.goto 4, 3) := by decide +kernel
theorem dX12_thousandths_57 : decode cX12_thousandths 57 = .ok (.lload_n 2, 1) := by decide +kernel
theorem dX12_thousandths_58 : decode cX12_thousandths 58 = .ok (.lstore 7, 2) := by decide +kernel
theorem dX12_thousandths_60 : decode cX12_thousandths 60 = .ok (.lload 5, 2) := by decide +kernel
theorem dX12_thousandths_62 : decode cX12_thousandths 62 = .ok (.lload 7, 2) := by decide +kernel
theorem dX12_thousandths_64 : decode cX12_thousandths 64 = .ok (.ldiv, 1) := by decide +kernel
theorem dX12_thousandths_65 : decode cX12_thousandths 65 = .ok (.lstore 9, 2) := by decide +kernel
theorem dX12_thousandths_67 : decode cX12_thousandths 67 = .ok (.lload 5, 2) := by decide +kernel
theorem dX12_thousandths_69 : decode cX12_thousandths 69 = .ok (.lload 7, 2) := by decide +kernel
theorem dX12_thousandths_71 : decode cX12_thousandths 71 = .ok (.lrem, 1) := by decide +kernel
theorem dX12_thousandths_72 : decode cX12_thousandths 72 = .ok (.lstore 11, 2) := by decide +kernel
theorem dX12_thousandths_74 : decode cX12_thousandths 74 = .ok (.iconst 0, 1) := by decide +kernel
theorem dX12_thousandths_75 : decode cX12_thousandths 75 = .ok (.istore 13, 2) := by decide +kernel
theorem dX12_thousandths_77 : decode cX12_thousandths 77 = .ok (.iload 13, 2) := by decide +kernel
theorem dX12_thousandths_79 : decode cX12_thousandths 79 = .ok (.iconst 3, 1) := by decide +kernel
theorem dX12_thousandths_80 : decode cX12_thousandths 80 = .ok (.if_icmp .ge 81, 3) := by decide +kernel
theorem dX12_thousandths_83 : decode cX12_thousandths 83 = .ok (.iconst 0, 1) := by decide +kernel
theorem dX12_thousandths_84 : decode cX12_thousandths 84 = .ok (.istore 14, 2) := by decide +kernel
theorem dX12_thousandths_86 : decode cX12_thousandths 86 = .ok (.lconst 0, 1) := by decide +kernel
theorem dX12_thousandths_87 : decode cX12_thousandths 87 = .ok (.lstore 15, 2) := by decide +kernel
theorem dX12_thousandths_89 : decode cX12_thousandths 89 = .ok (.iconst 0, 1) := by decide +kernel
theorem dX12_thousandths_90 : decode cX12_thousandths 90 = .ok (.istore 17, 2) := by decide +kernel
theorem dX12_thousandths_92 : decode cX12_thousandths 92 = .ok (.iload 17, 2) := by decide +kernel
theorem dX12_thousandths_94 : decode cX12_thousandths 94 = .ok (.bipush 10, 2) := by decide +kernel
theorem dX12_thousandths_96 : decode cX12_thousandths 96 = .ok (.if_icmp .ge 43, 3) := by decide +kernel
theorem dX12_thousandths_99 : decode cX12_thousandths 99 = .ok (.lload 15, 2) := by decide +kernel
theorem dX12_thousandths_101 : decode cX12_thousandths 101 = .ok (.lload 7, 2) := by decide +kernel
theorem dX12_thousandths_103 : decode cX12_thousandths 103 = .ok (.lload 11, 2) := by decide +kernel
theorem dX12_thousandths_105 : decode cX12_thousandths 105 = .ok (.lsub, 1) := by decide +kernel
theorem dX12_thousandths_106 : decode cX12_thousandths 106 = .ok (.lcmp, 1) := by decide +kernel
theorem dX12_thousandths_107 : decode cX12_thousandths 107 = .ok (.ifCond .lt 19, 3) := by decide +kernel
theorem dX12_thousandths_110 : decode cX12_thousandths 110 = .ok (.lload 15, 2) := by decide +kernel
theorem dX12_thousandths_112 : decode cX12_thousandths 112 = .ok (.lload 7, 2) := by decide +kernel
theorem dX12_thousandths_114 : decode cX12_thousandths 114 = .ok (.lload 11, 2) := by decide +kernel
theorem dX12_thousandths_116 : decode cX12_thousandths 116 = .ok (.lsub, 1) := by decide +kernel
theorem dX12_thousandths_117 : decode cX12_thousandths 117 = .ok (.lsub, 1) := by decide +kernel
theorem dX12_thousandths_118 : decode cX12_thousandths 118 = .ok (.lstore 15, 2) := by decide +kernel
theorem dX12_thousandths_120 : decode cX12_thousandths 120 = .ok (.iinc 14 1, 3) := by decide +kernel
theorem dX12_thousandths_123 : decode cX12_thousandths 123 = .ok (.goto 10, 3) := by decide +kernel
theorem dX12_thousandths_126 : decode cX12_thousandths 126 = .ok (.lload 15, 2) := by decide +kernel
theorem dX12_thousandths_128 : decode cX12_thousandths 128 = .ok (.lload 11, 2) := by decide +kernel
theorem dX12_thousandths_130 : decode cX12_thousandths 130 = .ok (.ladd, 1) := by decide +kernel
theorem dX12_thousandths_131 : decode cX12_thousandths 131 = .ok (.lstore 15, 2) := by decide +kernel
theorem dX12_thousandths_133 : decode cX12_thousandths 133 = .ok (.iinc 17 1, 3) := by decide +kernel
theorem dX12_thousandths_136 : decode cX12_thousandths 136 = .ok (.goto (-44), 3) := by decide +kernel
theorem dX12_thousandths_139 : decode cX12_thousandths 139 = .ok (.ldc2_w 311, 3) := by decide +kernel
theorem dX12_thousandths_142 : decode cX12_thousandths 142 = .ok (.lload 9, 2) := by decide +kernel
theorem dX12_thousandths_144 : decode cX12_thousandths 144 = .ok (.lmul, 1) := by decide +kernel
theorem dX12_thousandths_145 : decode cX12_thousandths 145 = .ok (.iload 14, 2) := by decide +kernel
theorem dX12_thousandths_147 : decode cX12_thousandths 147 = .ok (.i2l, 1) := by decide +kernel
theorem dX12_thousandths_148 : decode cX12_thousandths 148 = .ok (.ladd, 1) := by decide +kernel
theorem dX12_thousandths_149 : decode cX12_thousandths 149 = .ok (.lstore 9, 2) := by decide +kernel
theorem dX12_thousandths_151 : decode cX12_thousandths 151 = .ok (.lload 15, 2) := by decide +kernel
theorem dX12_thousandths_153 : decode cX12_thousandths 153 = .ok (.lstore 11, 2) := by decide +kernel
theorem dX12_thousandths_155 : decode cX12_thousandths 155 = .ok (.iinc 13 1, 3) := by decide +kernel
theorem dX12_thousandths_158 : decode cX12_thousandths 158 = .ok (.goto (-81), 3) := by decide +kernel
theorem dX12_thousandths_161 : decode cX12_thousandths 161 = .ok (.iload 4, 2) := by decide +kernel
theorem dX12_thousandths_163 : decode cX12_thousandths 163 = .ok (.ifCond .eq 9, 3) := by decide +kernel
theorem dX12_thousandths_166 : decode cX12_thousandths 166 = .ok (.lload 9, 2) := by decide +kernel
theorem dX12_thousandths_168 : decode cX12_thousandths 168 = .ok (.lneg, 1) := by decide +kernel
theorem dX12_thousandths_169 : decode cX12_thousandths 169 = .ok (.goto 5, 3) := by decide +kernel
theorem dX12_thousandths_172 : decode cX12_thousandths 172 = .ok (.lload 9, 2) := by decide +kernel
theorem dX12_thousandths_174 : decode cX12_thousandths 174 = .ok (.lreturn, 1) := by decide +kernel
theorem dX12_three_0 : decode cX12_three 0 = .ok (.aload_n 0, 1) := by decide +kernel
theorem dX12_three_1 : decode cX12_three 1 = .ok (.iconst 0, 1) := by decide +kernel
theorem dX12_three_2 : decode cX12_three 2 = .ok (.putfield 3, 3) := by decide +kernel
theorem dX12_three_5 : decode cX12_three 5 = .ok (.aload_n 0, 1) := by decide +kernel
theorem dX12_three_6 : decode cX12_three 6 = .ok (.iload_n 1, 1) := by decide +kernel
theorem dX12_three_7 : decode cX12_three 7 = .ok (.invokevirtual 52, 3) := by decide +kernel
theorem dX12_three_10 : decode cX12_three 10 = .ok (.ifCond .eq 10, 3) := by decide +kernel
theorem dX12_three_13 : decode cX12_three 13 = .ok (.iload_n 2, 1) := by decide +kernel
theorem dX12_three_14 : decode cX12_three 14 = .ok (.invokestatic 267, 3) := by decide +kernel
theorem dX12_three_17 : decode cX12_three 17 = .ok (.ifCond .ne 5, 3) := by decide +kernel
theorem dX12_three_20 : decode cX12_three 20 = .ok (.iconst (-1), 1) := by decide +kernel
theorem dX12_three_21 : decode cX12_three 21 = .ok (.ireturn, 1) := by decide +kernel
theorem dX12_three_22 : decode cX12_three 22 = .ok (.aload_n 0, 1) := by decide +kernel
theorem dX12_three_23 : decode cX12_three 23 = .ok (.getfield 308, 3) := by decide +kernel
theorem dX12_three_26 : decode cX12_three 26 = .ok (.iconst 2, 1) := by decide +kernel
theorem dX12_three_27 : decode cX12_three 27 = .ok (.iconst 2, 1) := by decide +kernel
theorem dX12_three_28 : decode cX12_three 28 = .ok (.iload_n 2, 1) := by decide +kernel
theorem dX12_three_29 : decode cX12_three 29 = .ok (.iadd, 1) := by decide +kernel
theorem dX12_three_30 : decode cX12_three 30 = .ok (.iastore, 1) := by decide +kernel
theorem dX12_three_31 : decode cX12_three 31 = .ok (.aload_n 0, 1) := by decide +kernel
theorem dX12_three_32 : decode cX12_three 32 = .ok (.iload_n 1, 1) := by decide +kernel
theorem dX12_three_33 : decode cX12_three 33 = .ok (.invokevirtual 313, 3) := by decide +kernel
theorem dX12_three_36 : decode cX12_three 36 = .ok (.istore_n 3, 1) := by decide +kernel
theorem dX12_three_37 : decode cX12_three 37 = .ok (.iload_n 3, 1) := by decide +kernel
theorem dX12_three_38 : decode cX12_three 38 = .ok (.iconst 2, 1) := by decide +kernel
theorem dX12_three_39 : decode cX12_three 39 = .ok (.if_icmp .ge 6, 3) := by decide +kernel
theorem dX12_three_42 : decode cX12_three 42 = .ok (.bipush (-2), 2) := by decide +kernel
theorem dX12_three_44 : decode cX12_three 44 = .ok (.ireturn, 1) := by decide +kernel
theorem dX12_three_45 : decode cX12_three 45 = .ok (.iconst 0, 1) := by decide +kernel
theorem dX12_three_46 : decode cX12_three 46 = .ok (.istore 4, 2) := by decide +kernel
theorem dX12_three_48 : decode cX12_three 48 = .ok (.iload 4, 2) := by decide +kernel
theorem dX12_three_50 : decode cX12_three 50 = .ok (.iconst 3, 1) := by decide +kernel
theorem dX12_three_51 : decode cX12_three 51 = .ok (.if_icmp .ge 48, 3) := by decide +kernel
theorem dX12_three_54 : decode cX12_three 54 = .ok (.aload_n 0, 1) := by decide +kernel
theorem dX12_three_55 : decode cX12_three 55 = .ok (.iload_n 1, 1) := by decide +kernel
theorem dX12_three_56 : decode cX12_three 56 = .ok (.iload 4, 2) := by decide +kernel
theorem dX12_three_58 : decode cX12_three 58 = .ok (.iconst 1, 1) := by decide +kernel
theorem dX12_three_59 : decode cX12_three 59 = .ok (.iadd, 1) := by decide +kernel
theorem dX12_three_60 : decode cX12_three 60 = .ok (.iconst 3, 1) := by decide +kernel
theorem dX12_three_61 : decode cX12_three 61 = .ok (.irem, 1) := by decide +kernel
theorem dX12_three_62 : decode cX12_three 62 = .ok (.iload 4, 2) := by decide +kernel
theorem dX12_three_64 : decode cX12_three 64 = .ok (.iconst 2, 1) := by decide +kernel
theorem dX12_three_65 : decode cX12_three 65 = .ok (.iadd, 1) := by decide +kernel
theorem dX12_three_66 : decode cX12_three 66 = .ok (.iconst 3, 1) := by decide +kernel
theorem dX12_three_67 : decode cX12_three 67 = .ok (.irem, 1) := by decide +kernel
theorem dX12_three_68 : decode cX12_three 68 = .ok (.invokevirtual 316, 3) := by decide +kernel
theorem dX12_three_71 : decode cX12_three 71 = .ok (.lconst 0, 1) := by decide +kernel
theorem dX12_three_72 : decode cX12_three 72 = .ok (.lcmp, 1) := by decide +kernel
theorem dX12_three_73 : decode cX12_three 73 = .ok (.ifCond .eq 17, 3) := by decide +kernel
theorem dX12_three_76 : decode cX12_three 76 = .ok (.aload_n 0, 1) := by decide +kernel
theorem dX12_three_77 : decode cX12_three 77 = .ok (.iload_n 1, 1) := by decide +kernel
theorem dX12_three_78 : decode cX12_three 78 = .ok (.iload 4, 2) := by decide +kernel
theorem dX12_three_80 : decode cX12_three 80 = .ok (.iload 4, 2) := by decide +kernel
theorem dX12_three_82 : decode cX12_three 82 = .ok (.invokevirtual 316, 3) := by decide +kernel
theorem dX12_three_85 : decode cX12_three 85 = .ok (.lconst 0, 1) := by decide +kernel
theorem dX12_three_86 : decode cX12_three 86 = .ok (.lcmp, 1) := by decide +kernel
theorem dX12_three_87 : decode cX12_three 87 = .ok (.ifCond .ne 6, 3) := by decide +kernel
theorem dX12_three_90 : decode cX12_three 90 = .ok (.bipush (-2), 2) := by decide +kernel
theorem dX12_three_92 : decode cX12_three 92 = .ok (.ireturn, 1) := by decide +kernel
theorem dX12_three_93 : decode cX12_three 93 = .ok (.iinc 4 1, 3) := by decide +kernel
theorem dX12_three_96 : decode cX12_three 96 = .ok (.goto (-48), 3) := by decide +kernel
theorem dX12_three_99 : decode cX12_three 99 = .ok (.aload_n 0, 1) := by decide +kernel
theorem dX12_three_100 : decode cX12_three 100 = .ok (.iconst 0, 1) := by decide +kernel
theorem dX12_three_101 : decode cX12_three 101 = .ok (.putfield 11, 3) := by decide +kernel
theorem dX12_three_104 : decode cX12_three 104 = .ok (.iconst 0, 1) := by decide +kernel
theorem dX12_three_105 : decode cX12_three 105 = .ok (.istore 4, 2) := by decide +kernel
theorem dX12_three_107 : decode cX12_three 107 = .ok (.iload 4, 2) := by decide +kernel
theorem dX12_three_109 : decode cX12_three 109 = .ok (.iconst 3, 1) := by decide +kernel
theorem dX12_three_110 : decode cX12_three 110 = .ok (.if_icmp .ge 70, 3) := by decide +kernel
theorem dX12_three_113 : decode cX12_three 113 = .ok (.iload 4, 2) := by decide +kernel
theorem dX12_three_115 : decode cX12_three 115 = .ok (.iconst 1, 1) := by decide +kernel
theorem dX12_three_116 : decode cX12_three 116 = .ok (.iadd, 1) := by decide +kernel
theorem dX12_three_117 : decode cX12_three 117 = .ok (.iconst 3, 1) := by decide +kernel
theorem dX12_three_118 : decode cX12_three 118 = .ok (.irem, 1) := by decide +kernel
theorem dX12_three_119 : decode cX12_three 119 = .ok (.istore 5, 2) := by decide +kernel
theorem dX12_three_121 : decode cX12_three 121 = .ok (.iload 4, 2) := by decide +kernel
theorem dX12_three_123 : decode cX12_three 123 = .ok (.iconst 2, 1) := by decide +kernel
theorem dX12_three_124 : decode cX12_three 124 = .ok (.iadd, 1) := by decide +kernel
theorem dX12_three_125 : decode cX12_three 125 = .ok (.iconst 3, 1) := by decide +kernel
theorem dX12_three_126 : decode cX12_three 126 = .ok (.irem, 1) := by decide +kernel
theorem dX12_three_127 : decode cX12_three 127 = .ok (.istore 6, 2) := by decide +kernel
theorem dX12_three_129 : decode cX12_three 129 = .ok (.aload_n 0, 1) := by decide +kernel
theorem dX12_three_130 : decode cX12_three 130 = .ok (.aload_n 0, 1) := by decide +kernel
theorem dX12_three_131 : decode cX12_three 131 = .ok (.iload_n 1, 1) := by decide +kernel
theorem dX12_three_132 : decode cX12_three 132 = .ok (.iload 4, 2) := by decide +kernel
theorem dX12_three_134 : decode cX12_three 134 = .ok (.iload 5, 2) := by decide +kernel
theorem dX12_three_136 : decode cX12_three 136 = .ok (.invokevirtual 316, 3) := by decide +kernel
theorem dX12_three_139 : decode cX12_three 139 = .ok (.aload_n 0, 1) := by decide +kernel
theorem dX12_three_140 : decode cX12_three 140 = .ok (.iload_n 1, 1) := by decide +kernel
theorem dX12_three_141 : decode cX12_three 141 = .ok (.iload 4, 2) := by decide +kernel
theorem dX12_three_143 : decode cX12_three 143 = .ok (.iload 6, 2) := by decide +kernel
theorem dX12_three_145 : decode cX12_three 145 = .ok (.invokevirtual 316, 3) := by decide +kernel
theorem dX12_three_148 : decode cX12_three 148 = .ok (.lmul, 1) := by decide +kernel
theorem dX12_three_149 : decode cX12_three 149 = .ok (.aload_n 0, 1) := by decide +kernel
theorem dX12_three_150 : decode cX12_three 150 = .ok (.iload_n 1, 1) := by decide +kernel
theorem dX12_three_151 : decode cX12_three 151 = .ok (.iload 5, 2) := by decide +kernel
theorem dX12_three_153 : decode cX12_three 153 = .ok (.iload 6, 2) := by decide +kernel
theorem dX12_three_155 : decode cX12_three 155 = .ok (.invokevirtual 316, 3) := by decide +kernel
theorem dX12_three_158 : decode cX12_three 158 = .ok (.aload_n 0, 1) := by decide +kernel
theorem dX12_three_159 : decode cX12_three 159 = .ok (.iload_n 1, 1) := by decide +kernel
theorem dX12_three_160 : decode cX12_three 160 = .ok (.iload 4, 2) := by decide +kernel
theorem dX12_three_162 : decode cX12_three 162 = .ok (.iload 4, 2) := by decide +kernel
theorem dX12_three_164 : decode cX12_three 164 = .ok (.invokevirtual 316, 3) := by decide +kernel
theorem dX12_three_167 : decode cX12_three 167 = .ok (.lmul, 1) := by decide +kernel
theorem dX12_three_168 : decode cX12_three 168 = .ok (.invokestatic 320, 3) := by decide +kernel
theorem dX12_three_171 : decode cX12_three 171 = .ok (.invokevirtual 18, 3) := by decide +kernel
theorem dX12_three_174 : decode cX12_three 174 = .ok (.iinc 4 1, 3) := by decide +kernel
theorem dX12_three_177 : decode cX12_three 177 = .ok (.goto (-70), 3) := by decide +kernel
theorem dX12_three_180 : decode cX12_three 180 = .ok (.iload_n 3, 1) := by decide +kernel
theorem dX12_three_181 : decode cX12_three 181 = .ok (.ireturn, 1) := by decide +kernel
theorem dX12_slope_0 : decode cX12_slope 0 = .ok (.aload_n 0, 1) := by decide +kernel
theorem dX12_slope_1 : decode cX12_slope 1 = .ok (.iconst 0, 1) := by decide +kernel
theorem dX12_slope_2 : decode cX12_slope 2 = .ok (.putfield 3, 3) := by decide +kernel
theorem dX12_slope_5 : decode cX12_slope 5 = .ok (.aload_n 0, 1) := by decide +kernel
theorem dX12_slope_6 : decode cX12_slope 6 = .ok (.iload_n 1, 1) := by decide +kernel
theorem dX12_slope_7 : decode cX12_slope 7 = .ok (.invokevirtual 52, 3) := by decide +kernel
theorem dX12_slope_10 : decode cX12_slope 10 = .ok (.ifCond .eq 10, 3) := by decide +kernel
theorem dX12_slope_13 : decode cX12_slope 13 = .ok (.iload_n 2, 1) := by decide +kernel
theorem dX12_slope_14 : decode cX12_slope 14 = .ok (.invokestatic 267, 3) := by decide +kernel
theorem dX12_slope_17 : decode cX12_slope 17 = .ok (.ifCond .ne 5, 3) := by decide +kernel
theorem dX12_slope_20 : decode cX12_slope 20 = .ok (.iconst (-1), 1) := by decide +kernel
theorem dX12_slope_21 : decode cX12_slope 21 = .ok (.ireturn, 1) := by decide +kernel
theorem dX12_slope_22 : decode cX12_slope 22 = .ok (.aload_n 0, 1) := by decide +kernel
theorem dX12_slope_23 : decode cX12_slope 23 = .ok (.getfield 308, 3) := by decide +kernel
theorem dX12_slope_26 : decode cX12_slope 26 = .ok (.iconst 2, 1) := by decide +kernel
theorem dX12_slope_27 : decode cX12_slope 27 = .ok (.iconst 2, 1) := by decide +kernel
theorem dX12_slope_28 : decode cX12_slope 28 = .ok (.iload_n 2, 1) := by decide +kernel
theorem dX12_slope_29 : decode cX12_slope 29 = .ok (.iadd, 1) := by decide +kernel
theorem dX12_slope_30 : decode cX12_slope 30 = .ok (.iastore, 1) := by decide +kernel
theorem dX12_slope_31 : decode cX12_slope 31 = .ok (.aload_n 0, 1) := by decide +kernel
theorem dX12_slope_32 : decode cX12_slope 32 = .ok (.iload_n 1, 1) := by decide +kernel
theorem dX12_slope_33 : decode cX12_slope 33 = .ok (.invokevirtual 313, 3) := by decide +kernel
theorem dX12_slope_36 : decode cX12_slope 36 = .ok (.iconst 2, 1) := by decide +kernel
theorem dX12_slope_37 : decode cX12_slope 37 = .ok (.if_icmp .lt 15, 3) := by decide +kernel
theorem dX12_slope_40 : decode cX12_slope 40 = .ok (.aload_n 0, 1) := by decide +kernel
theorem dX12_slope_41 : decode cX12_slope 41 = .ok (.iload_n 1, 1) := by decide +kernel
theorem dX12_slope_42 : decode cX12_slope 42 = .ok (.iconst 0, 1) := by decide +kernel
theorem dX12_slope_43 : decode cX12_slope 43 = .ok (.iconst 1, 1) := by decide +kernel
theorem dX12_slope_44 : decode cX12_slope 44 = .ok (.invokevirtual 316, 3) := by decide +kernel
theorem dX12_slope_47 : decode cX12_slope 47 = .ok (.lconst 0, 1) := by decide +kernel
theorem dX12_slope_48 : decode cX12_slope 48 = .ok (.lcmp, 1) := by decide +kernel
theorem dX12_slope_49 : decode cX12_slope 49 = .ok (.ifCond .ne 6, 3) := by decide +kernel
theorem dX12_slope_52 : decode cX12_slope 52 = .ok (.bipush (-2), 2) := by decide +kernel
theorem dX12_slope_54 : decode cX12_slope 54 = .ok (.ireturn, 1) := by decide +kernel
theorem dX12_slope_55 : decode cX12_slope 55 = .ok (.aload_n 0, 1) := by decide +kernel
theorem dX12_slope_56 : decode cX12_slope 56 = .ok (.iconst 0, 1) := by decide +kernel
theorem dX12_slope_57 : decode cX12_slope 57 = .ok (.putfield 11, 3) := by decide +kernel
theorem dX12_slope_60 : decode cX12_slope 60 = .ok (.aload_n 0, 1) := by decide +kernel
theorem dX12_slope_61 : decode cX12_slope 61 = .ok (.aload_n 0, 1) := by decide +kernel
theorem dX12_slope_62 : decode cX12_slope 62 = .ok (.iload_n 1, 1) := by decide +kernel
theorem dX12_slope_63 : decode cX12_slope 63 = .ok (.iconst 0, 1) := by decide +kernel
theorem dX12_slope_64 : decode cX12_slope 64 = .ok (.iconst 2, 1) := by decide +kernel
theorem dX12_slope_65 : decode cX12_slope 65 = .ok (.invokevirtual 316, 3) := by decide +kernel
theorem dX12_slope_68 : decode cX12_slope 68 = .ok (.aload_n 0, 1) := by decide +kernel
theorem dX12_slope_69 : decode cX12_slope 69 = .ok (.iload_n 1, 1) := by decide +kernel
theorem dX12_slope_70 : decode cX12_slope 70 = .ok (.iconst 0, 1) := by decide +kernel
theorem dX12_slope_71 : decode cX12_slope 71 = .ok (.iconst 1, 1) := by decide +kernel
theorem dX12_slope_72 : decode cX12_slope 72 = .ok (.invokevirtual 316, 3) := by decide +kernel
theorem dX12_slope_75 : decode cX12_slope 75 = .ok (.invokevirtual 258, 3) := by decide +kernel
theorem dX12_slope_78 : decode cX12_slope 78 = .ok (.iconst 0, 1) := by decide +kernel
theorem dX12_slope_79 : decode cX12_slope 79 = .ok (.ireturn, 1) := by decide +kernel
theorem dX12_areNeighbours_0 : decode cX12_areNeighbours 0 = .ok (.aload_n 0, 1) := by decide +kernel
theorem dX12_areNeighbours_1 : decode cX12_areNeighbours 1 = .ok (.iconst 1, 1) := by decide +kernel
theorem dX12_areNeighbours_2 : decode cX12_areNeighbours 2 = .ok (.iload_n 1, 1) := by decide +kernel
theorem dX12_areNeighbours_3 : decode cX12_areNeighbours 3 = .ok (.iload_n 2, 1) := by decide +kernel
theorem dX12_areNeighbours_4 : decode cX12_areNeighbours 4 = .ok (.invokevirtual 254, 3) := by decide +kernel
theorem dX12_areNeighbours_7 : decode cX12_areNeighbours 7 = .ok (.ifCond .eq 29, 3) := by decide +kernel
theorem dX12_areNeighbours_10 : decode cX12_areNeighbours 10 = .ok (.aload_n 0, 1) := by decide +kernel
theorem dX12_areNeighbours_11 : decode cX12_areNeighbours 11 = .ok (.iconst 2, 1) := by decide +kernel
theorem dX12_areNeighbours_12 : decode cX12_areNeighbours 12 = .ok (.iload_n 3, 1) := by decide +kernel
theorem dX12_areNeighbours_13 : decode cX12_areNeighbours 13 = .ok (.iadd, 1) := by decide +kernel
theorem dX12_areNeighbours_14 : decode cX12_areNeighbours 14 = .ok (.iload_n 1, 1) := by decide +kernel
theorem dX12_areNeighbours_15 : decode cX12_areNeighbours 15 = .ok (.iload_n 2, 1) := by decide +kernel
theorem dX12_areNeighbours_16 : decode cX12_areNeighbours 16 = .ok (.invokevirtual 254, 3) := by decide +kernel
theorem dX12_areNeighbours_19 : decode cX12_areNeighbours 19 = .ok (.ifCond .eq 17, 3) := by decide +kernel
theorem dX12_areNeighbours_22 : decode cX12_areNeighbours 22 = .ok (.aload_n 0, 1) := by decide +kernel
theorem dX12_areNeighbours_23 : decode cX12_areNeighbours 23 = .ok (.iconst 5, 1) := by decide +kernel
theorem dX12_areNeighbours_24 : decode cX12_areNeighbours 24 = .ok (.iload_n 1, 1) := by decide +kernel
theorem dX12_areNeighbours_25 : decode cX12_areNeighbours 25 = .ok (.iload_n 2, 1) := by decide +kernel
theorem dX12_areNeighbours_26 : decode cX12_areNeighbours 26 = .ok (.invokevirtual 254, 3) := by decide +kernel
theorem dX12_areNeighbours_29 : decode cX12_areNeighbours 29 = .ok (.ifCond .eq 7, 3) := by decide +kernel
theorem dX12_areNeighbours_32 : decode cX12_areNeighbours 32 = .ok (.iconst 1, 1) := by decide +kernel
theorem dX12_areNeighbours_33 : decode cX12_areNeighbours 33 = .ok (.goto 4, 3) := by decide +kernel
theorem dX12_areNeighbours_36 : decode cX12_areNeighbours 36 = .ok (.iconst 0, 1) := by decide +kernel
theorem dX12_areNeighbours_37 : decode cX12_areNeighbours 37 = .ok (.ireturn, 1) := by decide +kernel
theorem dX12_others_0 : decode cX12_others 0 = .ok (.aload_n 0, 1) := by decide +kernel
theorem dX12_others_1 : decode cX12_others 1 = .ok (.iconst 0, 1) := by decide +kernel
theorem dX12_others_2 : decode cX12_others 2 = .ok (.putfield 3, 3) := by decide +kernel
theorem dX12_others_5 : decode cX12_others 5 = .ok (.aload_n 0, 1) := by decide +kernel
theorem dX12_others_6 : decode cX12_others 6 = .ok (.iload_n 1, 1) := by decide +kernel
theorem dX12_others_7 : decode cX12_others 7 = .ok (.invokevirtual 52, 3) := by decide +kernel
theorem dX12_others_10 : decode cX12_others 10 = .ok (.ifCond .eq 15, 3) := by decide +kernel
theorem dX12_others_13 : decode cX12_others 13 = .ok (.iload_n 2, 1) := by decide +kernel
theorem dX12_others_14 : decode cX12_others 14 = .ok (.i2l, 1) := by decide +kernel
theorem dX12_others_15 : decode cX12_others 15 = .ok (.lconst 0, 1) := by decide +kernel
theorem dX12_others_16 : decode cX12_others 16 = .ok (.ldc2_w 323, 3) := by decide +kernel
theorem dX12_others_19 : decode cX12_others 19 = .ok (.invokestatic 25, 3) := by decide +kernel
theorem dX12_others_22 : decode cX12_others 22 = .ok (.ifCond .ne 5, 3) := by decide +kernel
theorem dX12_others_25 : decode cX12_others 25 = .ok (.iconst (-1), 1) := by decide +kernel
theorem dX12_others_26 : decode cX12_others 26 = .ok (.ireturn, 1) := by decide +kernel
theorem dX12_others_27 : decode cX12_others 27 = .ok (.iconst 0, 1) := by decide +kernel
theorem dX12_others_28 : decode cX12_others 28 = .ok (.istore_n 3, 1) := by decide +kernel
theorem dX12_others_29 : decode cX12_others 29 = .ok (.iconst 0, 1) := by decide +kernel
theorem dX12_others_30 : decode cX12_others 30 = .ok (.istore 4, 2) := by decide +kernel
theorem dX12_others_32 : decode cX12_others 32 = .ok (.iconst 0, 1) := by decide +kernel
theorem dX12_others_33 : decode cX12_others 33 = .ok (.istore 5, 2) := by decide +kernel
theorem dX12_others_35 : decode cX12_others 35 = .ok (.iconst 0, 1) := by decide +kernel
theorem dX12_others_36 : decode cX12_others 36 = .ok (.istore 6, 2) := by decide +kernel
theorem dX12_others_38 : decode cX12_others 38 = .ok (.iload 6, 2) := by decide +kernel
theorem dX12_others_40 : decode cX12_others 40 = .ok (.bipush 12, 2) := by decide +kernel
theorem dX12_others_42 : decode cX12_others 42 = .ok (.aload_n 0, 1) := by decide +kernel
theorem dX12_others_43 : decode cX12_others 43 = .ok (.getfield 29, 3) := by decide +kernel
theorem dX12_others_46 : decode cX12_others 46 = .ok (.imul, 1) := by decide +kernel
theorem dX12_others_47 : decode cX12_others 47 = .ok (.if_icmp .ge 152, 3) := by decide +kernel
theorem dX12_others_50 : decode cX12_others 50 = .ok (.aload_n 0, 1) := by decide +kernel
theorem dX12_others_51 : decode cX12_others 51 = .ok (.iload 6, 2) := by decide +kernel
theorem dX12_others_53 : decode cX12_others 53 = .ok (.iload_n 1, 1) := by decide +kernel
theorem dX12_others_54 : decode cX12_others 54 = .ok (.iload_n 2, 1) := by decide +kernel
theorem dX12_others_55 : decode cX12_others 55 = .ok (.invokevirtual 325, 3) := by decide +kernel
theorem dX12_others_58 : decode cX12_others 58 = .ok (.ifCond .eq 135, 3) := by decide +kernel
theorem dX12_others_61 : decode cX12_others 61 = .ok (.aload_n 0, 1) := by decide +kernel
theorem dX12_others_62 : decode cX12_others 62 = .ok (.iconst 2, 1) := by decide +kernel
theorem dX12_others_63 : decode cX12_others 63 = .ok (.iload_n 2, 1) := by decide +kernel
theorem dX12_others_64 : decode cX12_others 64 = .ok (.iadd, 1) := by decide +kernel
theorem dX12_others_65 : decode cX12_others 65 = .ok (.iload 6, 2) := by decide +kernel
theorem dX12_others_67 : decode cX12_others 67 = .ok (.iload_n 1, 1) := by decide +kernel
theorem dX12_others_68 : decode cX12_others 68 = .ok (.invokevirtual 92, 3) := by decide +kernel
theorem dX12_others_71 : decode cX12_others 71 = .ok (.istore 7, 2) := by decide +kernel
theorem dX12_others_73 : decode cX12_others 73 = .ok (.aload_n 0, 1) := by decide +kernel
theorem dX12_others_74 : decode cX12_others 74 = .ok (.iconst 5, 1) := by decide +kernel
theorem dX12_others_75 : decode cX12_others 75 = .ok (.iload 6, 2) := by decide +kernel
theorem dX12_others_77 : decode cX12_others 77 = .ok (.iload_n 1, 1) := by decide +kernel
theorem dX12_others_78 : decode cX12_others 78 = .ok (.invokevirtual 92, 3) := by decide +kernel
theorem dX12_others_81 : decode cX12_others 81 = .ok (.istore 8, 2) := by decide +kernel
theorem dX12_others_83 : decode cX12_others 83 = .ok (.aload_n 0, 1) := by decide +kernel
theorem dX12_others_84 : decode cX12_others 84 = .ok (.iconst 1, 1) := by decide +kernel
theorem dX12_others_85 : decode cX12_others 85 = .ok (.iload 6, 2) := by decide +kernel
theorem dX12_others_87 : decode cX12_others 87 = .ok (.iload_n 1, 1) := by decide +kernel
theorem dX12_others_88 : decode cX12_others 88 = .ok (.invokevirtual 92, 3) := by decide +kernel
theorem dX12_others_91 : decode cX12_others 91 = .ok (.istore 9, 2) := by decide +kernel
theorem dX12_others_93 : decode cX12_others 93 = .ok (.iload 7, 2) := by decide +kernel
theorem dX12_others_95 : decode cX12_others 95 = .ok (.iload 9, 2) := by decide +kernel
theorem dX12_others_97 : decode cX12_others 97 = .ok (.isub, 1) := by decide +kernel
theorem dX12_others_98 : decode cX12_others 98 = .ok (.invokestatic 292, 3) := by decide +kernel
theorem dX12_others_101 : decode cX12_others 101 = .ok (.istore 10, 2) := by decide +kernel
theorem dX12_others_103 : decode cX12_others 103 = .ok (.iload 8, 2) := by decide +kernel
theorem dX12_others_105 : decode cX12_others 105 = .ok (.iload 9, 2) := by decide +kernel
theorem dX12_others_107 : decode cX12_others 107 = .ok (.isub, 1) := by decide +kernel
theorem dX12_others_108 : decode cX12_others 108 = .ok (.invokestatic 292, 3) := by decide +kernel
theorem dX12_others_111 : decode cX12_others 111 = .ok (.istore 11, 2) := by decide +kernel
theorem dX12_others_113 : decode cX12_others 113 = .ok (.iload 7, 2) := by decide +kernel
theorem dX12_others_115 : decode cX12_others 115 = .ok (.iload 8, 2) := by decide +kernel
theorem dX12_others_117 : decode cX12_others 117 = .ok (.iadd, 1) := by decide +kernel
theorem dX12_others_118 : decode cX12_others 118 = .ok (.iconst 2, 1) := by decide +kernel
theorem dX12_others_119 : decode cX12_others 119 = .ok (.idiv, 1) := by decide +kernel
theorem dX12_others_120 : decode cX12_others 120 = .ok (.iload 9, 2) := by decide +kernel
theorem dX12_others_122 : decode cX12_others 122 = .ok (.isub, 1) := by decide +kernel
theorem dX12_others_123 : decode cX12_others 123 = .ok (.invokestatic 292, 3) := by decide +kernel
theorem dX12_others_126 : decode cX12_others 126 = .ok (.istore 12, 2) := by decide +kernel
theorem dX12_others_128 : decode cX12_others 128 = .ok (.iload_n 3, 1) := by decide +kernel
theorem dX12_others_129 : decode cX12_others 129 = .ok (.iload 11, 2) := by decide +kernel
theorem dX12_others_131 : decode cX12_others 131 = .ok (.iload 10, 2) := by decide +kernel
theorem dX12_others_133 : decode cX12_others 133 = .ok (.if_icmp .ge 7, 3) := by decide +kernel
theorem dX12_others_136 : decode cX12_others 136 = .ok (.iconst 1, 1) := by decide +kernel
theorem dX12_others_137 : decode cX12_others 137 = .ok (.goto 4, 3) := by decide +kernel
theorem dX12_others_140 : decode cX12_others 140 = .ok (.iconst 0, 1) := by decide +kernel
theorem dX12_others_141 : decode cX12_others 141 = .ok (.invokestatic 207, 3) := by decide +kernel
theorem dX12_others_144 : decode cX12_others 144 = .ok (.iadd, 1) := by decide +kernel
theorem dX12_others_145 : decode cX12_others 145 = .ok (.istore_n 3, 1) := by decide +kernel
theorem dX12_others_146 : decode cX12_others 146 = .ok (.iload 4, 2) := by decide +kernel
theorem dX12_others_148 : decode cX12_others 148 = .ok (.iload 10, 2) := by decide +kernel
theorem dX12_others_150 : decode cX12_others 150 = .ok (.iload 11, 2) := by decide +kernel
theorem dX12_others_152 : decode cX12_others 152 = .ok (.if_icmp .ge 7, 3) := by decide +kernel
theorem dX12_others_155 : decode cX12_others 155 = .ok (.iconst 1, 1) := by decide +kernel
theorem dX12_others_156 : decode cX12_others 156 = .ok (.goto 4, 3) := by decide +kernel
theorem dX12_others_159 : decode cX12_others 159 = .ok (.iconst 0, 1) := by decide +kernel
theorem dX12_others_160 : decode cX12_others 160 = .ok (.invokestatic 207, 3) := by decide +kernel
theorem dX12_others_163 : decode cX12_others 163 = .ok (.iadd, 1) := by decide +kernel
theorem dX12_others_164 : decode cX12_others 164 = .ok (.istore 4, 2) := by decide +kernel
theorem dX12_others_166 : decode cX12_others 166 = .ok (.iload 5, 2) := by decide +kernel
theorem dX12_others_168 : decode cX12_others 168 = .ok (.iload 12, 2) := by decide +kernel
theorem dX12_others_170 : decode cX12_others 170 = .ok (.iload 10, 2) := by decide +kernel
theorem dX12_others_172 : decode cX12_others 172 = .ok (.if_icmp .ge 14, 3) := by decide +kernel
theorem dX12_others_175 : decode cX12_others 175 = .ok (.iload 12, 2) := by decide +kernel
theorem dX12_others_177 : decode cX12_others 177 = .ok (.iload 11, 2) := by decide +kernel
theorem dX12_others_179 : decode cX12_others 179 = .ok (.if_icmp .ge 7, 3) := by decide +kernel
theorem dX12_others_182 : decode cX12_others 182 = .ok (.iconst 1, 1) := by decide +kernel
theorem dX12_others_183 : decode cX12_others 183 = .ok (.goto 4, 3) := by decide +kernel
theorem dX12_others_186 : decode cX12_others 186 = .ok (.iconst 0, 1) := by decide +kernel
theorem dX12_others_187 : decode cX12_others 187 = .ok (.invokestatic 207, 3) := by decide +kernel
theorem dX12_others_190 : decode cX12_others 190 = .ok (.iadd, 1) := by decide +kernel
theorem dX12_others_191 : decode cX12_others 191 = .ok (.istore 5, 2) := by decide +kernel
theorem dX12_others_193 : decode cX12_others 193 = .ok (.iinc 6 1, 3) := by decide +kernel
theorem dX12_others_196 : decode cX12_others 196 = .ok (.goto (-158), 3) := by decide +kernel
theorem dX12_others_199 : decode cX12_others 199 = .ok (.aload_n 0, 1) := by decide +kernel
theorem dX12_others_200 : decode cX12_others 200 = .ok (.iconst 0, 1) := by decide +kernel
theorem dX12_others_201 : decode cX12_others 201 = .ok (.putfield 11, 3) := by decide +kernel
theorem dX12_others_204 : decode cX12_others 204 = .ok (.aload_n 0, 1) := by decide +kernel
theorem dX12_others_205 : decode cX12_others 205 = .ok (.iload 4, 2) := by decide +kernel
theorem dX12_others_207 : decode cX12_others 207 = .ok (.i2l, 1) := by decide +kernel
theorem dX12_others_208 : decode cX12_others 208 = .ok (.invokevirtual 18, 3) := by decide +kernel
theorem dX12_others_211 : decode cX12_others 211 = .ok (.aload_n 0, 1) := by decide +kernel
theorem dX12_others_212 : decode cX12_others 212 = .ok (.iload 5, 2) := by decide +kernel
theorem dX12_others_214 : decode cX12_others 214 = .ok (.i2l, 1) := by decide +kernel
theorem dX12_others_215 : decode cX12_others 215 = .ok (.invokevirtual 18, 3) := by decide +kernel
theorem dX12_others_218 : decode cX12_others 218 = .ok (.iload_n 3, 1) := by decide +kernel
theorem dX12_others_219 : decode cX12_others 219 = .ok (.ireturn, 1) := by decide +kernel
theorem dX12_worth_0 : decode cX12_worth 0 = .ok (.aload_n 0, 1) := by decide +kernel
theorem dX12_worth_1 : decode cX12_worth 1 = .ok (.iconst 0, 1) := by decide +kernel
theorem dX12_worth_2 : decode cX12_worth 2 = .ok (.putfield 3, 3) := by decide +kernel
theorem dX12_worth_5 : decode cX12_worth 5 = .ok (.aload_n 0, 1) := by decide +kernel
theorem dX12_worth_6 : decode cX12_worth 6 = .ok (.iload_n 1, 1) := by decide +kernel
theorem dX12_worth_7 : decode cX12_worth 7 = .ok (.invokevirtual 52, 3) := by decide +kernel
theorem dX12_worth_10 : decode cX12_worth 10 = .ok (.ifCond .eq 15, 3) := by decide +kernel
theorem dX12_worth_13 : decode cX12_worth 13 = .ok (.iload_n 2, 1) := by decide +kernel
theorem dX12_worth_14 : decode cX12_worth 14 = .ok (.i2l, 1) := by decide +kernel
theorem dX12_worth_15 : decode cX12_worth 15 = .ok (.lconst 0, 1) := by decide +kernel
theorem dX12_worth_16 : decode cX12_worth 16 = .ok (.ldc2_w 323, 3) := by decide +kernel
theorem dX12_worth_19 : decode cX12_worth 19 = .ok (.invokestatic 25, 3) := by decide +kernel
theorem dX12_worth_22 : decode cX12_worth 22 = .ok (.ifCond .ne 5, 3) := by decide +kernel
theorem dX12_worth_25 : decode cX12_worth 25 = .ok (.iconst (-1), 1) := by decide +kernel
theorem dX12_worth_26 : decode cX12_worth 26 = .ok (.ireturn, 1) := by decide +kernel
theorem dX12_worth_27 : decode cX12_worth 27 = .ok (.bipush (-2), 2) := by decide +kernel
theorem dX12_worth_29 : decode cX12_worth 29 = .ok (.istore_n 3, 1) := by decide +kernel
theorem dX12_worth_30 : decode cX12_worth 30 = .ok (.lconst 0, 1) := by decide +kernel
theorem dX12_worth_31 : decode cX12_worth 31 = .ok (.lstore 4, 2) := by decide +kernel
theorem dX12_worth_33 : decode cX12_worth 33 = .ok (.iconst 0, 1) := by decide +kernel
theorem dX12_worth_34 : decode cX12_worth 34 = .ok (.istore 6, 2) := by decide +kernel
theorem dX12_worth_36 : decode cX12_worth 36 = .ok (.iload 6, 2) := by decide +kernel
theorem dX12_worth_38 : decode cX12_worth 38 = .ok (.bipush 100, 2) := by decide +kernel
theorem dX12_worth_40 : decode cX12_worth 40 = .ok (.if_icmp .gt 127, 3) := by decide +kernel
theorem dX12_worth_43 : decode cX12_worth 43 = .ok (.lconst 0, 1) := by decide +kernel
theorem dX12_worth_44 : decode cX12_worth 44 = .ok (.lstore 7, 2) := by decide +kernel
theorem dX12_worth_46 : decode cX12_worth 46 = .ok (.iconst 0, 1) := by decide +kernel
theorem dX12_worth_47 : decode cX12_worth 47 = .ok (.istore 9, 2) := by decide +kernel
theorem dX12_worth_49 : decode cX12_worth 49 = .ok (.iconst 0, 1) := by decide +kernel
theorem dX12_worth_50 : decode cX12_worth 50 = .ok (.istore 10, 2) := by decide +kernel
theorem dX12_worth_52 : decode cX12_worth 52 = .ok (.iload 10, 2) := by decide +kernel
theorem dX12_worth_54 : decode cX12_worth 54 = .ok (.bipush 12, 2) := by decide +kernel
theorem dX12_worth_56 : decode cX12_worth 56 = .ok (.aload_n 0, 1) := by decide +kernel
theorem dX12_worth_57 : decode cX12_worth 57 = .ok (.getfield 29, 3) := by decide +kernel
theorem dX12_worth_60 : decode cX12_worth 60 = .ok (.imul, 1) := by decide +kernel
theorem dX12_worth_61 : decode cX12_worth 61 = .ok (.if_icmp .ge 76, 3) := by decide +kernel
theorem dX12_worth_64 : decode cX12_worth 64 = .ok (.aload_n 0, 1) := by decide +kernel
theorem dX12_worth_65 : decode cX12_worth 65 = .ok (.iload 10, 2) := by decide +kernel
theorem dX12_worth_67 : decode cX12_worth 67 = .ok (.iload_n 1, 1) := by decide +kernel
theorem dX12_worth_68 : decode cX12_worth 68 = .ok (.iload_n 2, 1) := by decide +kernel
theorem dX12_worth_69 : decode cX12_worth 69 = .ok (.invokevirtual 325, 3) := by decide +kernel
theorem dX12_worth_72 : decode cX12_worth 72 = .ok (.ifCond .eq 59, 3) := by decide +kernel
theorem dX12_worth_75 : decode cX12_worth 75 = .ok (.iload 6, 2) := by decide +kernel
theorem dX12_worth_77 : decode cX12_worth 77 = .ok (.aload_n 0, 1) := by decide +kernel
theorem dX12_worth_78 : decode cX12_worth 78 = .ok (.iconst 5, 1) := by decide +kernel
theorem dX12_worth_79 : decode cX12_worth 79 = .ok (.iload 10, 2) := by decide +kernel
theorem dX12_worth_81 : decode cX12_worth 81 = .ok (.iload_n 1, 1) := by decide +kernel
theorem dX12_worth_82 : decode cX12_worth 82 = .ok (.invokevirtual 92, 3) := by decide +kernel
theorem dX12_worth_85 : decode cX12_worth 85 = .ok (.imul, 1) := by decide +kernel
theorem dX12_worth_86 : decode cX12_worth 86 = .ok (.bipush 100, 2) := by decide +kernel
theorem dX12_worth_88 : decode cX12_worth 88 = .ok (.iload 6, 2) := by decide +kernel
theorem dX12_worth_90 : decode cX12_worth 90 = .ok (.isub, 1) := by decide +kernel
theorem dX12_worth_91 : decode cX12_worth 91 = .ok (.aload_n 0, 1) := by decide +kernel
theorem dX12_worth_92 : decode cX12_worth 92 = .ok (.iconst 2, 1) := by decide +kernel
theorem dX12_worth_93 : decode cX12_worth 93 = .ok (.iload_n 2, 1) := by decide +kernel
theorem dX12_worth_94 : decode cX12_worth 94 = .ok (.iadd, 1) := by decide +kernel
theorem dX12_worth_95 : decode cX12_worth 95 = .ok (.iload 10, 2) := by decide +kernel
theorem dX12_worth_97 : decode cX12_worth 97 = .ok (.iload_n 1, 1) := by decide +kernel
theorem dX12_worth_98 : decode cX12_worth 98 = .ok (.invokevirtual 92, 3) := by decide +kernel
theorem dX12_worth_101 : decode cX12_worth 101 = .ok (.imul, 1) := by decide +kernel
theorem dX12_worth_102 : decode cX12_worth 102 = .ok (.iadd, 1) := by decide +kernel
theorem dX12_worth_103 : decode cX12_worth 103 = .ok (.bipush 100, 2) := by decide +kernel
theorem dX12_worth_105 : decode cX12_worth 105 = .ok (.aload_n 0, 1) := by decide +kernel
theorem dX12_worth_106 : decode cX12_worth 106 = .ok (.iconst 1, 1) := by decide +kernel
theorem dX12_worth_107 : decode cX12_worth 107 = .ok (.iload 10, 2) := by decide +kernel
theorem dX12_worth_109 : decode cX12_worth 109 = .ok (.iload_n 1, 1) := by decide +kernel
theorem dX12_worth_110 : decode cX12_worth 110 = .ok (.invokevirtual 92, 3) := by decide +kernel
theorem dX12_worth_113 : decode cX12_worth 113 = .ok (.imul, 1) := by decide +kernel
theorem dX12_worth_114 : decode cX12_worth 114 = .ok (.isub, 1) := by decide +kernel
theorem dX12_worth_115 : decode cX12_worth 115 = .ok (.i2l, 1) := by decide +kernel
theorem dX12_worth_116 : decode cX12_worth 116 = .ok (.lstore 11, 2) := by decide +kernel
theorem dX12_worth_118 : decode cX12_worth 118 = .ok (.lload 7, 2) := by decide +kernel
theorem dX12_worth_120 : decode cX12_worth 120 = .ok (.lload 11, 2) := by decide +kernel
theorem dX12_worth_122 : decode cX12_worth 122 = .ok (.lload 11, 2) := by decide +kernel
theorem dX12_worth_124 : decode cX12_worth 124 = .ok (.lmul, 1) := by decide +kernel
theorem dX12_worth_125 : decode cX12_worth 125 = .ok (.ladd, 1) := by decide +kernel
theorem dX12_worth_126 : decode cX12_worth 126 = .ok (.lstore 7, 2) := by decide +kernel
theorem dX12_worth_128 : decode cX12_worth 128 = .ok (.iinc 9 1, 3) := by decide +kernel
theorem dX12_worth_131 : decode cX12_worth 131 = .ok (.iinc 10 1, 3) := by decide +kernel
theorem dX12_worth_134 : decode cX12_worth 134 = .ok (.goto (-82), 3) := by decide +kernel
theorem dX12_worth_137 : decode cX12_worth 137 = .ok (.iload 9, 2) := by decide +kernel
theorem dX12_worth_139 : decode cX12_worth 139 = .ok (.ifCond .le 22, 3) := by decide +kernel
theorem dX12_worth_142 : decode cX12_worth 142 = .ok (.iload_n 3, 1) := by decide +kernel
theorem dX12_worth_143 : decode cX12_worth 143 = .ok (.ifCond .lt 11, 3) := by decide +kernel
theorem dX12_worth_146 : decode cX12_worth 146 = .ok (.lload 7, 2) := by decide +kernel
theorem dX12_worth_148 : decode cX12_worth 148 = .ok (.lload 4, 2) := by decide +kernel
theorem dX12_worth_150 : decode cX12_worth 150 = .ok (.lcmp, 1) := by decide +kernel
theorem dX12_worth_151 : decode cX12_worth 151 = .ok (.ifCond .ge 10, 3) := by decide +kernel
theorem dX12_worth_154 : decode cX12_worth 154 = .ok (.iload 6, 2) := by decide +kernel
theorem dX12_worth_156 : decode cX12_worth 156 = .ok (.istore_n 3, 1) := by decide +kernel
theorem dX12_worth_157 : decode cX12_worth 157 = .ok (.lload 7, 2) := by decide +kernel
theorem dX12_worth_159 : decode cX12_worth 159 = .ok (.lstore 4, 2) := by decide +kernel
theorem dX12_worth_161 : decode cX12_worth 161 = .ok (.iinc 6 1, 3) := by decide +kernel
theorem dX12_worth_164 : decode cX12_worth 164 = .ok (.goto (-128), 3) := by decide +kernel
theorem dX12_worth_167 : decode cX12_worth 167 = .ok (.iload_n 3, 1) := by decide +kernel
theorem dX12_worth_168 : decode cX12_worth 168 = .ok (.ifCond .lt 14, 3) := by decide +kernel
theorem dX12_worth_171 : decode cX12_worth 171 = .ok (.aload_n 0, 1) := by decide +kernel
theorem dX12_worth_172 : decode cX12_worth 172 = .ok (.iconst 0, 1) := by decide +kernel
theorem dX12_worth_173 : decode cX12_worth 173 = .ok (.putfield 11, 3) := by decide +kernel
theorem dX12_worth_176 : decode cX12_worth 176 = .ok (.aload_n 0, 1) := by decide +kernel
theorem dX12_worth_177 : decode cX12_worth 177 = .ok (.lload 4, 2) := by decide +kernel
theorem dX12_worth_179 : decode cX12_worth 179 = .ok (.invokevirtual 18, 3) := by decide +kernel
theorem dX12_worth_182 : decode cX12_worth 182 = .ok (.iload_n 3, 1) := by decide +kernel
theorem dX12_worth_183 : decode cX12_worth 183 = .ok (.ireturn, 1) := by decide +kernel
theorem dX12_wastes_0 : decode cX12_wastes 0 = .ok (.iconst 0, 1) := by decide +kernel
theorem dX12_wastes_1 : decode cX12_wastes 1 = .ok (.istore_n 2, 1) := by decide +kernel
theorem dX12_wastes_2 : decode cX12_wastes 2 = .ok (.iload_n 2, 1) := by decide +kernel
theorem dX12_wastes_3 : decode cX12_wastes 3 = .ok (.iconst 2, 1) := by decide +kernel
theorem dX12_wastes_4 : decode cX12_wastes 4 = .ok (.if_icmp .ge 23, 3) := by decide +kernel
theorem dX12_wastes_7 : decode cX12_wastes 7 = .ok (.aload_n 0, 1) := by decide +kernel
theorem dX12_wastes_8 : decode cX12_wastes 8 = .ok (.getfield 328, 3) := by decide +kernel
theorem dX12_wastes_11 : decode cX12_wastes 11 = .ok (.iload_n 2, 1) := by decide +kernel
theorem dX12_wastes_12 : decode cX12_wastes 12 = .ok (.lconst 0, 1) := by decide +kernel
theorem dX12_wastes_13 : decode cX12_wastes 13 = .ok (.lastore, 1) := by decide +kernel
theorem dX12_wastes_14 : decode cX12_wastes 14 = .ok (.aload_n 0, 1) := by decide +kernel
theorem dX12_wastes_15 : decode cX12_wastes 15 = .ok (.getfield 331, 3) := by decide +kernel
theorem dX12_wastes_18 : decode cX12_wastes 18 = .ok (.iload_n 2, 1) := by decide +kernel
theorem dX12_wastes_19 : decode cX12_wastes 19 = .ok (.lconst 0, 1) := by decide +kernel
theorem dX12_wastes_20 : decode cX12_wastes 20 = .ok (.lastore, 1) := by decide +kernel
theorem dX12_wastes_21 : decode cX12_wastes 21 = .ok (.iinc 2 1, 3) := by decide +kernel
theorem dX12_wastes_24 : decode cX12_wastes 24 = .ok (.goto (-22), 3) := by decide +kernel
theorem dX12_wastes_27 : decode cX12_wastes 27 = .ok (.iconst 0, 1) := by decide +kernel
theorem dX12_wastes_28 : decode cX12_wastes 28 = .ok (.istore_n 2, 1) := by decide +kernel
theorem dX12_wastes_29 : decode cX12_wastes 29 = .ok (.iload_n 2, 1) := by decide +kernel
theorem dX12_wastes_30 : decode cX12_wastes 30 = .ok (.bipush 12, 2) := by decide +kernel
theorem dX12_wastes_32 : decode cX12_wastes 32 = .ok (.aload_n 0, 1) := by decide +kernel
theorem dX12_wastes_33 : decode cX12_wastes 33 = .ok (.getfield 29, 3) := by decide +kernel
theorem dX12_wastes_36 : decode cX12_wastes 36 = .ok (.imul, 1) := by decide +kernel
theorem dX12_wastes_37 : decode cX12_wastes 37 = .ok (.if_icmp .ge 99, 3) := by decide +kernel
theorem dX12_wastes_40 : decode cX12_wastes 40 = .ok (.aload_n 0, 1) := by decide +kernel
theorem dX12_wastes_41 : decode cX12_wastes 41 = .ok (.iconst 0, 1) := by decide +kernel
theorem dX12_wastes_42 : decode cX12_wastes 42 = .ok (.iload_n 2, 1) := by decide +kernel
theorem dX12_wastes_43 : decode cX12_wastes 43 = .ok (.iload_n 1, 1) := by decide +kernel
theorem dX12_wastes_44 : decode cX12_wastes 44 = .ok (.invokevirtual 254, 3) := by decide +kernel
theorem dX12_wastes_47 : decode cX12_wastes 47 = .ok (.ifCond .eq 83, 3) := by decide +kernel
theorem dX12_wastes_50 : decode cX12_wastes 50 = .ok (.aload_n 0, 1) := by decide +kernel
theorem dX12_wastes_51 : decode cX12_wastes 51 = .ok (.iconst 1, 1) := by decide +kernel
theorem dX12_wastes_52 : decode cX12_wastes 52 = .ok (.iload_n 2, 1) := by decide +kernel
theorem dX12_wastes_53 : decode cX12_wastes 53 = .ok (.iload_n 1, 1) := by decide +kernel
theorem dX12_wastes_54 : decode cX12_wastes 54 = .ok (.invokevirtual 254, 3) := by decide +kernel
theorem dX12_wastes_57 : decode cX12_wastes 57 = .ok (.ifCond .eq 73, 3) := by decide +kernel
theorem dX12_wastes_60 : decode cX12_wastes 60 = .ok (.aload_n 0, 1) := by decide +kernel
theorem dX12_wastes_61 : decode cX12_wastes 61 = .ok (.getfield 71, 3) := by decide +kernel
theorem dX12_wastes_64 : decode cX12_wastes 64 = .ok (.bipush 12, 2) := by decide +kernel
theorem dX12_wastes_66 : decode cX12_wastes 66 = .ok (.iload_n 1, 1) := by decide +kernel
theorem dX12_wastes_67 : decode cX12_wastes 67 = .ok (.imul, 1) := by decide +kernel
theorem dX12_wastes_68 : decode cX12_wastes 68 = .ok (.iload_n 2, 1) := by decide +kernel
theorem dX12_wastes_69 : decode cX12_wastes 69 = .ok (.bipush 12, 2) := by decide +kernel
theorem dX12_wastes_71 : decode cX12_wastes 71 = .ok (.irem, 1) := by decide +kernel
theorem dX12_wastes_72 : decode cX12_wastes 72 = .ok (.iadd, 1) := by decide +kernel
theorem dX12_wastes_73 : decode cX12_wastes 73 = .ok (.baload, 1) := by decide +kernel
theorem dX12_wastes_74 : decode cX12_wastes 74 = .ok (.invokestatic 207, 3) := by decide +kernel
theorem dX12_wastes_77 : decode cX12_wastes 77 = .ok (.istore_n 3, 1) := by decide +kernel
theorem dX12_wastes_78 : decode cX12_wastes 78 = .ok (.aload_n 0, 1) := by decide +kernel
theorem dX12_wastes_79 : decode cX12_wastes 79 = .ok (.getfield 328, 3) := by decide +kernel
theorem dX12_wastes_82 : decode cX12_wastes 82 = .ok (.iload_n 3, 1) := by decide +kernel
theorem dX12_wastes_83 : decode cX12_wastes 83 = .ok (.dup2, 1) := by decide +kernel
theorem dX12_wastes_84 : decode cX12_wastes 84 = .ok (.laload, 1) := by decide +kernel
theorem dX12_wastes_85 : decode cX12_wastes 85 = .ok (.aload_n 0, 1) := by decide +kernel
theorem dX12_wastes_86 : decode cX12_wastes 86 = .ok (.iconst 0, 1) := by decide +kernel
theorem dX12_wastes_87 : decode cX12_wastes 87 = .ok (.iload_n 2, 1) := by decide +kernel
theorem dX12_wastes_88 : decode cX12_wastes 88 = .ok (.iload_n 1, 1) := by decide +kernel
theorem dX12_wastes_89 : decode cX12_wastes 89 = .ok (.invokevirtual 92, 3) := by decide +kernel
theorem dX12_wastes_92 : decode cX12_wastes 92 = .ok (.aload_n 0, 1) := by decide +kernel
theorem dX12_wastes_93 : decode cX12_wastes 93 = .ok (.iconst 1, 1) := by decide +kernel
theorem dX12_wastes_94 : decode cX12_wastes 94 = .ok (.iload_n 2, 1) := by decide +kernel
theorem dX12_wastes_95 : decode cX12_wastes 95 = .ok (.iload_n 1, 1) := by decide +kernel
theorem dX12_wastes_96 : decode cX12_wastes 96 = .ok (.invokevirtual 92, 3) := by decide +kernel
theorem dX12_wastes_99 : decode cX12_wastes 99 = .ok (.aload_n 0, 1) := by decide +kernel
theorem dX12_wastes_100 : decode cX12_wastes 100 = .ok (.getfield 42, 3) := by decide +kernel
theorem dX12_wastes_103 : decode cX12_wastes 103 = .ok (.iload_n 1, 1) := by decide +kernel
theorem dX12_wastes_104 : decode cX12_wastes 104 = .ok (.iaload, 1) := by decide +kernel
theorem dX12_wastes_105 : decode cX12_wastes 105 = .ok (.imul, 1) := by decide +kernel
theorem dX12_wastes_106 : decode cX12_wastes 106 = .ok (.bipush 100, 2) := by decide +kernel
theorem dX12_wastes_108 : decode cX12_wastes 108 = .ok (.idiv, 1) := by decide +kernel
theorem dX12_wastes_109 : decode cX12_wastes 109 = .ok (.isub, 1) := by decide +kernel
theorem dX12_wastes_110 : decode cX12_wastes 110 = .ok (.i2l, 1) := by decide +kernel
theorem dX12_wastes_111 : decode cX12_wastes 111 = .ok (.ladd, 1) := by decide +kernel
theorem dX12_wastes_112 : decode cX12_wastes 112 = .ok (.lastore, 1) := by decide +kernel
theorem dX12_wastes_113 : decode cX12_wastes 113 = .ok (.aload_n 0, 1) := by decide +kernel
theorem dX12_wastes_114 : decode cX12_wastes 114 = .ok (.getfield 331, 3) := by decide +kernel
theorem dX12_wastes_117 : decode cX12_wastes 117 = .ok (.iload_n 3, 1) := by decide +kernel
theorem dX12_wastes_118 : decode cX12_wastes 118 = .ok (.dup2, 1) := by decide +kernel
theorem dX12_wastes_119 : decode cX12_wastes 119 = .ok (.laload, 1) := by decide +kernel
theorem dX12_wastes_120 : decode cX12_wastes 120 = .ok (.aload_n 0, 1) := by decide +kernel
theorem dX12_wastes_121 : decode cX12_wastes 121 = .ok (.iconst 1, 1) := by decide +kernel
theorem dX12_wastes_122 : decode cX12_wastes 122 = .ok (.iload_n 2, 1) := by decide +kernel
theorem dX12_wastes_123 : decode cX12_wastes 123 = .ok (.iload_n 1, 1) := by decide +kernel
theorem dX12_wastes_124 : decode cX12_wastes 124 = .ok (.invokevirtual 92, 3) := by decide +kernel
theorem dX12_wastes_127 : decode cX12_wastes 127 = .ok (.i2l, 1) := by decide +kernel
theorem dX12_wastes_128 : decode cX12_wastes 128 = .ok (.ladd, 1) := by decide +kernel
theorem dX12_wastes_129 : decode cX12_wastes 129 = .ok (.lastore, 1) := by decide +kernel
theorem dX12_wastes_130 : decode cX12_wastes 130 = .ok (.iinc 2 1, 3) := by decide +kernel
theorem dX12_wastes_133 : decode cX12_wastes 133 = .ok (.goto (-104), 3) := by decide +kernel
theorem dX12_wastes_136 : decode cX12_wastes 136 = .ok (.return_, 1) := by decide +kernel
theorem dX12_waste_0 : decode cX12_waste 0 = .ok (.aload_n 0, 1) := by decide +kernel
theorem dX12_waste_1 : decode cX12_waste 1 = .ok (.iconst 0, 1) := by decide +kernel
theorem dX12_waste_2 : decode cX12_waste 2 = .ok (.putfield 3, 3) := by decide +kernel
theorem dX12_waste_5 : decode cX12_waste 5 = .ok (.aload_n 0, 1) := by decide +kernel
theorem dX12_waste_6 : decode cX12_waste 6 = .ok (.iload_n 1, 1) := by decide +kernel
theorem dX12_waste_7 : decode cX12_waste 7 = .ok (.invokevirtual 52, 3) := by decide +kernel
theorem dX12_waste_10 : decode cX12_waste 10 = .ok (.ifCond .ne 5, 3) := by decide +kernel
theorem dX12_waste_13 : decode cX12_waste 13 = .ok (.iconst (-1), 1) := by decide +kernel
theorem dX12_waste_14 : decode cX12_waste 14 = .ok (.ireturn, 1) := by decide +kernel
theorem dX12_waste_15 : decode cX12_waste 15 = .ok (.aload_n 0, 1) := by decide +kernel
theorem dX12_waste_16 : decode cX12_waste 16 = .ok (.iload_n 1, 1) := by decide +kernel
theorem dX12_waste_17 : decode cX12_waste 17 = .ok (.invokevirtual 334, 3) := by decide +kernel
theorem dX12_waste_20 : decode cX12_waste 20 = .ok (.aload_n 0, 1) := by decide +kernel
theorem dX12_waste_21 : decode cX12_waste 21 = .ok (.getfield 331, 3) := by decide +kernel
theorem dX12_waste_24 : decode cX12_waste 24 = .ok (.iconst 0, 1) := by decide +kernel
theorem dX12_waste_25 : decode cX12_waste 25 = .ok (.laload, 1) := by decide +kernel
theorem dX12_waste_26 : decode cX12_waste 26 = .ok (.lconst 0, 1) := by decide +kernel
theorem dX12_waste_27 : decode cX12_waste 27 = .ok (.lcmp, 1) := by decide +kernel
theorem dX12_waste_28 : decode cX12_waste 28 = .ok (.ifCond .eq 14, 3) := by decide +kernel
theorem dX12_waste_31 : decode cX12_waste 31 = .ok (.aload_n 0, 1) := by decide +kernel
theorem dX12_waste_32 : decode cX12_waste 32 = .ok (.getfield 331, 3) := by decide +kernel
theorem dX12_waste_35 : decode cX12_waste 35 = .ok (.iconst 1, 1) := by decide +kernel
theorem dX12_waste_36 : decode cX12_waste 36 = .ok (.laload, 1) := by decide +kernel
theorem dX12_waste_37 : decode cX12_waste 37 = .ok (.lconst 0, 1) := by decide +kernel
theorem dX12_waste_38 : decode cX12_waste 38 = .ok (.lcmp, 1) := by decide +kernel
theorem dX12_waste_39 : decode cX12_waste 39 = .ok (.ifCond .ne 6, 3) := by decide +kernel
theorem dX12_waste_42 : decode cX12_waste 42 = .ok (.bipush (-2), 2) := by decide +kernel
theorem dX12_waste_44 : decode cX12_waste 44 = .ok (.ireturn, 1) := by decide +kernel
theorem dX12_waste_45 : decode cX12_waste 45 = .ok (.aload_n 0, 1) := by decide +kernel
theorem dX12_waste_46 : decode cX12_waste 46 = .ok (.iconst 0, 1) := by decide +kernel
theorem dX12_waste_47 : decode cX12_waste 47 = .ok (.putfield 11, 3) := by decide +kernel
theorem dX12_waste_50 : decode cX12_waste 50 = .ok (.aload_n 0, 1) := by decide +kernel
theorem dX12_waste_51 : decode cX12_waste 51 = .ok (.aload_n 0, 1) := by decide +kernel
theorem dX12_waste_52 : decode cX12_waste 52 = .ok (.getfield 328, 3) := by decide +kernel
theorem dX12_waste_55 : decode cX12_waste 55 = .ok (.iconst 1, 1) := by decide +kernel
theorem dX12_waste_56 : decode cX12_waste 56 = .ok (.laload, 1) := by decide +kernel
theorem dX12_waste_57 : decode cX12_waste 57 = .ok (.aload_n 0, 1) := by decide +kernel
theorem dX12_waste_58 : decode cX12_waste 58 = .ok (.getfield 331, 3) := by decide +kernel
theorem dX12_waste_61 : decode cX12_waste 61 = .ok (.iconst 1, 1) := by decide +kernel
theorem dX12_waste_62 : decode cX12_waste 62 = .ok (.laload, 1) := by decide +kernel
theorem dX12_waste_63 : decode cX12_waste 63 = .ok (.invokevirtual 258, 3) := by decide +kernel
theorem dX12_waste_66 : decode cX12_waste 66 = .ok (.aload_n 0, 1) := by decide +kernel
theorem dX12_waste_67 : decode cX12_waste 67 = .ok (.aload_n 0, 1) := by decide +kernel
theorem dX12_waste_68 : decode cX12_waste 68 = .ok (.getfield 328, 3) := by decide +kernel
theorem dX12_waste_71 : decode cX12_waste 71 = .ok (.iconst 0, 1) := by decide +kernel
theorem dX12_waste_72 : decode cX12_waste 72 = .ok (.laload, 1) := by decide +kernel
theorem dX12_waste_73 : decode cX12_waste 73 = .ok (.aload_n 0, 1) := by decide +kernel
theorem dX12_waste_74 : decode cX12_waste 74 = .ok (.getfield 331, 3) := by decide +kernel
theorem dX12_waste_77 : decode cX12_waste 77 = .ok (.iconst 0, 1) := by decide +kernel
theorem dX12_waste_78 : decode cX12_waste 78 = .ok (.laload, 1) := by decide +kernel
theorem dX12_waste_79 : decode cX12_waste 79 = .ok (.invokevirtual 258, 3) := by decide +kernel
theorem dX12_waste_82 : decode cX12_waste 82 = .ok (.aload_n 0, 1) := by decide +kernel
theorem dX12_waste_83 : decode cX12_waste 83 = .ok (.getfield 328, 3) := by decide +kernel
theorem dX12_waste_86 : decode cX12_waste 86 = .ok (.iconst 1, 1) := by decide +kernel
theorem dX12_waste_87 : decode cX12_waste 87 = .ok (.laload, 1) := by decide +kernel
theorem dX12_waste_88 : decode cX12_waste 88 = .ok (.aload_n 0, 1) := by decide +kernel
theorem dX12_waste_89 : decode cX12_waste 89 = .ok (.getfield 331, 3) := by decide +kernel
theorem dX12_waste_92 : decode cX12_waste 92 = .ok (.iconst 0, 1) := by decide +kernel
theorem dX12_waste_93 : decode cX12_waste 93 = .ok (.laload, 1) := by decide +kernel
theorem dX12_waste_94 : decode cX12_waste 94 = .ok (.lmul, 1) := by decide +kernel
theorem dX12_waste_95 : decode cX12_waste 95 = .ok (.aload_n 0, 1) := by decide +kernel
theorem dX12_waste_96 : decode cX12_waste 96 = .ok (.getfield 328, 3) := by decide +kernel
theorem dX12_waste_99 : decode cX12_waste 99 = .ok (.iconst 0, 1) := by decide +kernel
theorem dX12_waste_100 : decode cX12_waste 100 = .ok (.laload, 1) := by decide +kernel
theorem dX12_waste_101 : decode cX12_waste 101 = .ok (.aload_n 0, 1) := by decide +kernel
theorem dX12_waste_102 : decode cX12_waste 102 = .ok (.getfield 331, 3) := by decide +kernel
theorem dX12_waste_105 : decode cX12_waste 105 = .ok (.iconst 1, 1) := by decide +kernel
theorem dX12_waste_106 : decode cX12_waste 106 = .ok (.laload, 1) := by decide +kernel
theorem dX12_waste_107 : decode cX12_waste 107 = .ok (.lmul, 1) := by decide +kernel
theorem dX12_waste_108 : decode cX12_waste 108 = .ok (.lsub, 1) := by decide +kernel
theorem dX12_waste_109 : decode cX12_waste 109 = .ok (.lstore_n 2, 1) := by decide +kernel
theorem dX12_waste_110 : decode cX12_waste 110 = .ok (.lload_n 2, 1) := by decide +kernel
theorem dX12_waste_111 : decode cX12_waste 111 = .ok (.lconst 0, 1) := by decide +kernel
theorem dX12_waste_112 : decode cX12_waste 112 = .ok (.lcmp, 1) := by decide +kernel
theorem dX12_waste_113 : decode cX12_waste 113 = .ok (.ifCond .le 7, 3) := by decide +kernel
theorem dX12_waste_116 : decode cX12_waste 116 = .ok (.iconst 1, 1) := by decide +kernel
theorem dX12_waste_117 : decode cX12_waste 117 = .ok (.goto 14, 3) := by decide +kernel
theorem dX12_waste_120 : decode cX12_waste 120 = .ok (.lload_n 2, 1) := by decide +kernel
theorem dX12_waste_121 : decode cX12_waste 121 = .ok (.lconst 0, 1) := by decide +kernel
theorem dX12_waste_122 : decode cX12_waste 122 = .ok (.lcmp, 1) := by decide +kernel
theorem dX12_waste_123 : decode cX12_waste 123 = .ok (.ifCond .ge 7, 3) := by decide +kernel
theorem dX12_waste_126 : decode cX12_waste 126 = .ok (.iconst 2, 1) := by decide +kernel
theorem dX12_waste_127 : decode cX12_waste 127 = .ok (.goto 4, 3) := by decide +kernel
theorem dX12_waste_130 : decode cX12_waste 130 = .ok (.iconst 0, 1) := by decide +kernel
theorem dX12_waste_131 : decode cX12_waste 131 = .ok (.ireturn, 1) := by decide +kernel
theorem dX12_readsClaim_0 : decode cX12_readsClaim 0 = .ok (.aload_n 0, 1) := by decide +kernel
theorem dX12_readsClaim_1 : decode cX12_readsClaim 1 = .ok (.getfield 337, 3) := by decide +kernel
theorem dX12_readsClaim_4 : decode cX12_readsClaim 4 = .ok (.iload_n 1, 1) := by decide +kernel
theorem dX12_readsClaim_5 : decode cX12_readsClaim 5 = .ok (.aload_n 0, 1) := by decide +kernel
theorem dX12_readsClaim_6 : decode cX12_readsClaim 6 = .ok (.ldc_w 340, 3) := by decide +kernel
theorem dX12_readsClaim_9 : decode cX12_readsClaim 9 = .ok (.invokevirtual 152, 3) := by decide +kernel
theorem dX12_readsClaim_12 : decode cX12_readsClaim 12 = .ok (.iastore, 1) := by decide +kernel
theorem dX12_readsClaim_13 : decode cX12_readsClaim 13 = .ok (.aload_n 0, 1) := by decide +kernel
theorem dX12_readsClaim_14 : decode cX12_readsClaim 14 = .ok (.dup, 1) := by decide +kernel
theorem dX12_readsClaim_15 : decode cX12_readsClaim 15 = .ok (.getfield 111, 3) := by decide +kernel
theorem dX12_readsClaim_18 : decode cX12_readsClaim 18 = .ok (.aload_n 0, 1) := by decide +kernel
theorem dX12_readsClaim_19 : decode cX12_readsClaim 19 = .ok (.getfield 337, 3) := by decide +kernel
theorem dX12_readsClaim_22 : decode cX12_readsClaim 22 = .ok (.iload_n 1, 1) := by decide +kernel
theorem dX12_readsClaim_23 : decode cX12_readsClaim 23 = .ok (.iaload, 1) := by decide +kernel
theorem dX12_readsClaim_24 : decode cX12_readsClaim 24 = .ok (.ifCond .lt 7, 3) := by decide +kernel
theorem dX12_readsClaim_27 : decode cX12_readsClaim 27 = .ok (.iconst 1, 1) := by decide +kernel
theorem dX12_readsClaim_28 : decode cX12_readsClaim 28 = .ok (.goto 4, 3) := by decide +kernel
theorem dX12_readsClaim_31 : decode cX12_readsClaim 31 = .ok (.iconst 0, 1) := by decide +kernel
theorem dX12_readsClaim_32 : decode cX12_readsClaim 32 = .ok (.invokestatic 207, 3) := by decide +kernel
theorem dX12_readsClaim_35 : decode cX12_readsClaim 35 = .ok (.iadd, 1) := by decide +kernel
theorem dX12_readsClaim_36 : decode cX12_readsClaim 36 = .ok (.putfield 111, 3) := by decide +kernel
theorem dX12_readsClaim_39 : decode cX12_readsClaim 39 = .ok (.aload_n 0, 1) := by decide +kernel
theorem dX12_readsClaim_40 : decode cX12_readsClaim 40 = .ok (.getfield 342, 3) := by decide +kernel
theorem dX12_readsClaim_43 : decode cX12_readsClaim 43 = .ok (.iload_n 1, 1) := by decide +kernel
theorem dX12_readsClaim_44 : decode cX12_readsClaim 44 = .ok (.aload_n 0, 1) := by decide +kernel
theorem dX12_readsClaim_45 : decode cX12_readsClaim 45 = .ok (.getfield 337, 3) := by decide +kernel
theorem dX12_readsClaim_48 : decode cX12_readsClaim 48 = .ok (.iload_n 1, 1) := by decide +kernel
theorem dX12_readsClaim_49 : decode cX12_readsClaim 49 = .ok (.iaload, 1) := by decide +kernel
theorem dX12_readsClaim_50 : decode cX12_readsClaim 50 = .ok (.ifCond .ge 7, 3) := by decide +kernel
theorem dX12_readsClaim_53 : decode cX12_readsClaim 53 = .ok (.iconst (-1), 1) := by decide +kernel
theorem dX12_readsClaim_54 : decode cX12_readsClaim 54 = .ok (.goto 9, 3) := by decide +kernel
theorem dX12_readsClaim_57 : decode cX12_readsClaim 57 = .ok (.aload_n 0, 1) := by decide +kernel
theorem dX12_readsClaim_58 : decode cX12_readsClaim 58 = .ok (.ldc 175, 2) := by decide +kernel
theorem dX12_readsClaim_60 : decode cX12_readsClaim 60 = .ok (.invokevirtual 152, 3) := by decide +kernel
theorem dX12_readsClaim_63 : decode cX12_readsClaim 63 = .ok (.iastore, 1) := by decide +kernel
theorem dX12_readsClaim_64 : decode cX12_readsClaim 64 = .ok (.aload_n 0, 1) := by decide +kernel
theorem dX12_readsClaim_65 : decode cX12_readsClaim 65 = .ok (.dup, 1) := by decide +kernel
theorem dX12_readsClaim_66 : decode cX12_readsClaim 66 = .ok (.getfield 111, 3) := by decide +kernel
theorem dX12_readsClaim_69 : decode cX12_readsClaim 69 = .ok (.aload_n 0, 1) := by decide +kernel
theorem dX12_readsClaim_70 : decode cX12_readsClaim 70 = .ok (.getfield 342, 3) := by decide +kernel
theorem dX12_readsClaim_73 : decode cX12_readsClaim 73 = .ok (.iload_n 1, 1) := by decide +kernel
theorem dX12_readsClaim_74 : decode cX12_readsClaim 74 = .ok (.iaload, 1) := by decide +kernel
theorem dX12_readsClaim_75 : decode cX12_readsClaim 75 = .ok (.ifCond .lt 7, 3) := by decide +kernel
theorem dX12_readsClaim_78 : decode cX12_readsClaim 78 = .ok (.iconst 1, 1) := by decide +kernel
theorem dX12_readsClaim_79 : decode cX12_readsClaim 79 = .ok (.goto 4, 3) := by decide +kernel
theorem dX12_readsClaim_82 : decode cX12_readsClaim 82 = .ok (.iconst 0, 1) := by decide +kernel
theorem dX12_readsClaim_83 : decode cX12_readsClaim 83 = .ok (.invokestatic 207, 3) := by decide +kernel
theorem dX12_readsClaim_86 : decode cX12_readsClaim 86 = .ok (.iadd, 1) := by decide +kernel
theorem dX12_readsClaim_87 : decode cX12_readsClaim 87 = .ok (.putfield 111, 3) := by decide +kernel
theorem dX12_readsClaim_90 : decode cX12_readsClaim 90 = .ok (.aload_n 0, 1) := by decide +kernel
theorem dX12_readsClaim_91 : decode cX12_readsClaim 91 = .ok (.getfield 345, 3) := by decide +kernel
theorem dX12_readsClaim_94 : decode cX12_readsClaim 94 = .ok (.iload_n 1, 1) := by decide +kernel
theorem dX12_readsClaim_95 : decode cX12_readsClaim 95 = .ok (.aload_n 0, 1) := by decide +kernel
theorem dX12_readsClaim_96 : decode cX12_readsClaim 96 = .ok (.getfield 342, 3) := by decide +kernel
theorem dX12_readsClaim_99 : decode cX12_readsClaim 99 = .ok (.iload_n 1, 1) := by decide +kernel
theorem dX12_readsClaim_100 : decode cX12_readsClaim 100 = .ok (.iaload, 1) := by decide +kernel
theorem dX12_readsClaim_101 : decode cX12_readsClaim 101 = .ok (.ifCond .ge 7, 3) := by decide +kernel
theorem dX12_readsClaim_104 : decode cX12_readsClaim 104 = .ok (.iconst (-1), 1) := by decide +kernel
theorem dX12_readsClaim_105 : decode cX12_readsClaim 105 = .ok (.goto 10, 3) := by decide +kernel
theorem dX12_readsClaim_108 : decode cX12_readsClaim 108 = .ok (.aload_n 0, 1) := by decide +kernel
theorem dX12_readsClaim_109 : decode cX12_readsClaim 109 = .ok (.ldc_w 340, 3) := by decide +kernel
theorem dX12_readsClaim_112 : decode cX12_readsClaim 112 = .ok (.invokevirtual 152, 3) := by decide +kernel
theorem dX12_readsClaim_115 : decode cX12_readsClaim 115 = .ok (.iastore, 1) := by decide +kernel
theorem dX12_readsClaim_116 : decode cX12_readsClaim 116 = .ok (.aload_n 0, 1) := by decide +kernel
theorem dX12_readsClaim_117 : decode cX12_readsClaim 117 = .ok (.dup, 1) := by decide +kernel
theorem dX12_readsClaim_118 : decode cX12_readsClaim 118 = .ok (.getfield 111, 3) := by decide +kernel
theorem dX12_readsClaim_121 : decode cX12_readsClaim 121 = .ok (.aload_n 0, 1) := by decide +kernel
theorem dX12_readsClaim_122 : decode cX12_readsClaim 122 = .ok (.getfield 345, 3) := by decide +kernel
theorem dX12_readsClaim_125 : decode cX12_readsClaim 125 = .ok (.iload_n 1, 1) := by decide +kernel
theorem dX12_readsClaim_126 : decode cX12_readsClaim 126 = .ok (.iaload, 1) := by decide +kernel
theorem dX12_readsClaim_127 : decode cX12_readsClaim 127 = .ok (.ifCond .lt 7, 3) := by decide +kernel
theorem dX12_readsClaim_130 : decode cX12_readsClaim 130 = .ok (.iconst 1, 1) := by decide +kernel
theorem dX12_readsClaim_131 : decode cX12_readsClaim 131 = .ok (.goto 4, 3) := by decide +kernel
theorem dX12_readsClaim_134 : decode cX12_readsClaim 134 = .ok (.iconst 0, 1) := by decide +kernel
theorem dX12_readsClaim_135 : decode cX12_readsClaim 135 = .ok (.invokestatic 207, 3) := by decide +kernel
theorem dX12_readsClaim_138 : decode cX12_readsClaim 138 = .ok (.iadd, 1) := by decide +kernel
theorem dX12_readsClaim_139 : decode cX12_readsClaim 139 = .ok (.putfield 111, 3) := by decide +kernel
theorem dX12_readsClaim_142 : decode cX12_readsClaim 142 = .ok (.aload_n 0, 1) := by decide +kernel
theorem dX12_readsClaim_143 : decode cX12_readsClaim 143 = .ok (.getfield 345, 3) := by decide +kernel
theorem dX12_readsClaim_146 : decode cX12_readsClaim 146 = .ok (.iload_n 1, 1) := by decide +kernel
theorem dX12_readsClaim_147 : decode cX12_readsClaim 147 = .ok (.iaload, 1) := by decide +kernel
theorem dX12_readsClaim_148 : decode cX12_readsClaim 148 = .ok (.ifCond .lt 7, 3) := by decide +kernel
theorem dX12_readsClaim_151 : decode cX12_readsClaim 151 = .ok (.iconst 1, 1) := by decide +kernel
theorem dX12_readsClaim_152 : decode cX12_readsClaim 152 = .ok (.goto 4, 3) := by decide +kernel
theorem dX12_readsClaim_155 : decode cX12_readsClaim 155 = .ok (.iconst 0, 1) := by decide +kernel
theorem dX12_readsClaim_156 : decode cX12_readsClaim 156 = .ok (.ireturn, 1) := by decide +kernel
theorem dX12_story_0 : decode cX12_story 0 = .ok (.aload_n 0, 1) := by decide +kernel
theorem dX12_story_1 : decode cX12_story 1 = .ok (.iconst 0, 1) := by decide +kernel
theorem dX12_story_2 : decode cX12_story 2 = .ok (.putfield 3, 3) := by decide +kernel
theorem dX12_story_5 : decode cX12_story 5 = .ok (.aload_n 0, 1) := by decide +kernel
theorem dX12_story_6 : decode cX12_story 6 = .ok (.invokevirtual 181, 3) := by decide +kernel
theorem dX12_story_9 : decode cX12_story 9 = .ok (.istore_n 1, 1) := by decide +kernel
theorem dX12_story_10 : decode cX12_story 10 = .ok (.aload_n 0, 1) := by decide +kernel
theorem dX12_story_11 : decode cX12_story 11 = .ok (.getfield 348, 3) := by decide +kernel
theorem dX12_story_14 : decode cX12_story 14 = .ok (.bipush 6, 2) := by decide +kernel
theorem dX12_story_16 : decode cX12_story 16 = .ok (.if_icmp .ne 6, 3) := by decide +kernel
theorem dX12_story_19 : decode cX12_story 19 = .ok (.bipush (-100), 2) := by decide +kernel
theorem dX12_story_21 : decode cX12_story 21 = .ok (.ireturn, 1) := by decide +kernel
theorem dX12_story_22 : decode cX12_story 22 = .ok (.iconst 0, 1) := by decide +kernel
theorem dX12_story_23 : decode cX12_story 23 = .ok (.istore_n 2, 1) := by decide +kernel
theorem dX12_story_24 : decode cX12_story 24 = .ok (.iconst 1, 1) := by decide +kernel
theorem dX12_story_25 : decode cX12_story 25 = .ok (.istore_n 3, 1) := by decide +kernel
theorem dX12_story_26 : decode cX12_story 26 = .ok (.iload_n 1, 1) := by decide +kernel
theorem dX12_story_27 : decode cX12_story 27 = .ok (.ifCond .le 7, 3) := by decide +kernel
theorem dX12_story_30 : decode cX12_story 30 = .ok (.iconst 1, 1) := by decide +kernel
theorem dX12_story_31 : decode cX12_story 31 = .ok (.goto 4, 3) := by decide +kernel
theorem dX12_story_34 : decode cX12_story 34 = .ok (.iconst 0, 1) := by decide +kernel
theorem dX12_story_35 : decode cX12_story 35 = .ok (.istore 4, 2) := by decide +kernel
theorem dX12_story_37 : decode cX12_story 37 = .ok (.iload 4, 2) := by decide +kernel
theorem dX12_story_39 : decode cX12_story 39 = .ok (.ifCond .eq 54, 3) := by decide +kernel
theorem dX12_story_42 : decode cX12_story 42 = .ok (.aload_n 0, 1) := by decide +kernel
theorem dX12_story_43 : decode cX12_story 43 = .ok (.iload_n 2, 1) := by decide +kernel
theorem dX12_story_44 : decode cX12_story 44 = .ok (.invokevirtual 351, 3) := by decide +kernel
theorem dX12_story_47 : decode cX12_story 47 = .ok (.istore_n 3, 1) := by decide +kernel
theorem dX12_story_48 : decode cX12_story 48 = .ok (.iload_n 2, 1) := by decide +kernel
theorem dX12_story_49 : decode cX12_story 49 = .ok (.iload_n 3, 1) := by decide +kernel
theorem dX12_story_50 : decode cX12_story 50 = .ok (.invokestatic 207, 3) := by decide +kernel
theorem dX12_story_53 : decode cX12_story 53 = .ok (.iadd, 1) := by decide +kernel
theorem dX12_story_54 : decode cX12_story 54 = .ok (.istore_n 2, 1) := by decide +kernel
theorem dX12_story_55 : decode cX12_story 55 = .ok (.iload_n 3, 1) := by decide +kernel
theorem dX12_story_56 : decode cX12_story 56 = .ok (.ifCond .eq 17, 3) := by decide +kernel
theorem dX12_story_59 : decode cX12_story 59 = .ok (.aload_n 0, 1) := by decide +kernel
theorem dX12_story_60 : decode cX12_story 60 = .ok (.ldc_w 354, 3) := by decide +kernel
theorem dX12_story_63 : decode cX12_story 63 = .ok (.invokevirtual 152, 3) := by decide +kernel
theorem dX12_story_66 : decode cX12_story 66 = .ok (.ifCond .lt 7, 3) := by decide +kernel
theorem dX12_story_69 : decode cX12_story 69 = .ok (.iconst 1, 1) := by decide +kernel
theorem dX12_story_70 : decode cX12_story 70 = .ok (.goto 4, 3) := by decide +kernel
theorem dX12_story_73 : decode cX12_story 73 = .ok (.iconst 0, 1) := by decide +kernel
theorem dX12_story_74 : decode cX12_story 74 = .ok (.istore 4, 2) := by decide +kernel
theorem dX12_story_76 : decode cX12_story 76 = .ok (.aload_n 0, 1) := by decide +kernel
theorem dX12_story_77 : decode cX12_story 77 = .ok (.dup, 1) := by decide +kernel
theorem dX12_story_78 : decode cX12_story 78 = .ok (.getfield 111, 3) := by decide +kernel
theorem dX12_story_81 : decode cX12_story 81 = .ok (.iload 4, 2) := by decide +kernel
theorem dX12_story_83 : decode cX12_story 83 = .ok (.invokestatic 207, 3) := by decide +kernel
theorem dX12_story_86 : decode cX12_story 86 = .ok (.iadd, 1) := by decide +kernel
theorem dX12_story_87 : decode cX12_story 87 = .ok (.putfield 111, 3) := by decide +kernel
theorem dX12_story_90 : decode cX12_story 90 = .ok (.goto (-53), 3) := by decide +kernel
theorem dX12_story_93 : decode cX12_story 93 = .ok (.aload_n 0, 1) := by decide +kernel
theorem dX12_story_94 : decode cX12_story 94 = .ok (.iload_n 1, 1) := by decide +kernel
theorem dX12_story_95 : decode cX12_story 95 = .ok (.iload_n 3, 1) := by decide +kernel
theorem dX12_story_96 : decode cX12_story 96 = .ok (.invokevirtual 190, 3) := by decide +kernel
theorem dX12_story_99 : decode cX12_story 99 = .ok (.istore 5, 2) := by decide +kernel
theorem dX12_story_101 : decode cX12_story 101 = .ok (.iload 5, 2) := by decide +kernel
theorem dX12_story_103 : decode cX12_story 103 = .ok (.ifCond .ge 6, 3) := by decide +kernel
theorem dX12_story_106 : decode cX12_story 106 = .ok (.iload 5, 2) := by decide +kernel
theorem dX12_story_108 : decode cX12_story 108 = .ok (.ireturn, 1) := by decide +kernel
theorem dX12_story_109 : decode cX12_story 109 = .ok (.aload_n 0, 1) := by decide +kernel
theorem dX12_story_110 : decode cX12_story 110 = .ok (.getfield 356, 3) := by decide +kernel
theorem dX12_story_113 : decode cX12_story 113 = .ok (.aload_n 0, 1) := by decide +kernel
theorem dX12_story_114 : decode cX12_story 114 = .ok (.getfield 348, 3) := by decide +kernel
theorem dX12_story_117 : decode cX12_story 117 = .ok (.iload_n 2, 1) := by decide +kernel
theorem dX12_story_118 : decode cX12_story 118 = .ok (.iastore, 1) := by decide +kernel
theorem dX12_story_119 : decode cX12_story 119 = .ok (.iconst 0, 1) := by decide +kernel
theorem dX12_story_120 : decode cX12_story 120 = .ok (.istore 6, 2) := by decide +kernel
theorem dX12_story_122 : decode cX12_story 122 = .ok (.iload 6, 2) := by decide +kernel
theorem dX12_story_124 : decode cX12_story 124 = .ok (.iload_n 2, 1) := by decide +kernel
theorem dX12_story_125 : decode cX12_story 125 = .ok (.if_icmp .ge 75, 3) := by decide +kernel
theorem dX12_story_128 : decode cX12_story 128 = .ok (.aload_n 0, 1) := by decide +kernel
theorem dX12_story_129 : decode cX12_story 129 = .ok (.getfield 359, 3) := by decide +kernel
theorem dX12_story_132 : decode cX12_story 132 = .ok (.bipush 12, 2) := by decide +kernel
theorem dX12_story_134 : decode cX12_story 134 = .ok (.aload_n 0, 1) := by decide +kernel
theorem dX12_story_135 : decode cX12_story 135 = .ok (.getfield 348, 3) := by decide +kernel
theorem dX12_story_138 : decode cX12_story 138 = .ok (.imul, 1) := by decide +kernel
theorem dX12_story_139 : decode cX12_story 139 = .ok (.iload 6, 2) := by decide +kernel
theorem dX12_story_141 : decode cX12_story 141 = .ok (.iadd, 1) := by decide +kernel
theorem dX12_story_142 : decode cX12_story 142 = .ok (.aload_n 0, 1) := by decide +kernel
theorem dX12_story_143 : decode cX12_story 143 = .ok (.getfield 337, 3) := by decide +kernel
theorem dX12_story_146 : decode cX12_story 146 = .ok (.iload 6, 2) := by decide +kernel
theorem dX12_story_148 : decode cX12_story 148 = .ok (.iaload, 1) := by decide +kernel
theorem dX12_story_149 : decode cX12_story 149 = .ok (.iastore, 1) := by decide +kernel
theorem dX12_story_150 : decode cX12_story 150 = .ok (.aload_n 0, 1) := by decide +kernel
theorem dX12_story_151 : decode cX12_story 151 = .ok (.getfield 362, 3) := by decide +kernel
theorem dX12_story_154 : decode cX12_story 154 = .ok (.bipush 12, 2) := by decide +kernel
theorem dX12_story_156 : decode cX12_story 156 = .ok (.aload_n 0, 1) := by decide +kernel
theorem dX12_story_157 : decode cX12_story 157 = .ok (.getfield 348, 3) := by decide +kernel
theorem dX12_story_160 : decode cX12_story 160 = .ok (.imul, 1) := by decide +kernel
theorem dX12_story_161 : decode cX12_story 161 = .ok (.iload 6, 2) := by decide +kernel
theorem dX12_story_163 : decode cX12_story 163 = .ok (.iadd, 1) := by decide +kernel
theorem dX12_story_164 : decode cX12_story 164 = .ok (.aload_n 0, 1) := by decide +kernel
theorem dX12_story_165 : decode cX12_story 165 = .ok (.getfield 342, 3) := by decide +kernel
theorem dX12_story_168 : decode cX12_story 168 = .ok (.iload 6, 2) := by decide +kernel
theorem dX12_story_170 : decode cX12_story 170 = .ok (.iaload, 1) := by decide +kernel
theorem dX12_story_171 : decode cX12_story 171 = .ok (.iastore, 1) := by decide +kernel
theorem dX12_story_172 : decode cX12_story 172 = .ok (.aload_n 0, 1) := by decide +kernel
theorem dX12_story_173 : decode cX12_story 173 = .ok (.getfield 365, 3) := by decide +kernel
theorem dX12_story_176 : decode cX12_story 176 = .ok (.bipush 12, 2) := by decide +kernel
theorem dX12_story_178 : decode cX12_story 178 = .ok (.aload_n 0, 1) := by decide +kernel
theorem dX12_story_179 : decode cX12_story 179 = .ok (.getfield 348, 3) := by decide +kernel
theorem dX12_story_182 : decode cX12_story 182 = .ok (.imul, 1) := by decide +kernel
theorem dX12_story_183 : decode cX12_story 183 = .ok (.iload 6, 2) := by decide +kernel
theorem dX12_story_185 : decode cX12_story 185 = .ok (.iadd, 1) := by decide +kernel
theorem dX12_story_186 : decode cX12_story 186 = .ok (.aload_n 0, 1) := by decide +kernel
theorem dX12_story_187 : decode cX12_story 187 = .ok (.getfield 345, 3) := by decide +kernel
theorem dX12_story_190 : decode cX12_story 190 = .ok (.iload 6, 2) := by decide +kernel
theorem dX12_story_192 : decode cX12_story 192 = .ok (.iaload, 1) := by decide +kernel
theorem dX12_story_193 : decode cX12_story 193 = .ok (.iastore, 1) := by decide +kernel
theorem dX12_story_194 : decode cX12_story 194 = .ok (.iinc 6 1, 3) := by decide +kernel
theorem dX12_story_197 : decode cX12_story 197 = .ok (.goto (-75), 3) := by decide +kernel
theorem dX12_story_200 : decode cX12_story 200 = .ok (.aload_n 0, 1) := by decide +kernel
theorem dX12_story_201 : decode cX12_story 201 = .ok (.dup, 1) := by decide +kernel
theorem dX12_story_202 : decode cX12_story 202 = .ok (.getfield 348, 3) := by decide +kernel
theorem dX12_story_205 : decode cX12_story 205 = .ok (.iconst 1, 1) := by decide +kernel
theorem dX12_story_206 : decode cX12_story 206 = .ok (.iadd, 1) := by decide +kernel
theorem dX12_story_207 : decode cX12_story 207 = .ok (.putfield 348, 3) := by decide +kernel
theorem dX12_story_210 : decode cX12_story 210 = .ok (.aload_n 0, 1) := by decide +kernel
theorem dX12_story_211 : decode cX12_story 211 = .ok (.getfield 348, 3) := by decide +kernel
theorem dX12_story_214 : decode cX12_story 214 = .ok (.iconst 1, 1) := by decide +kernel
theorem dX12_story_215 : decode cX12_story 215 = .ok (.isub, 1) := by decide +kernel
theorem dX12_story_216 : decode cX12_story 216 = .ok (.ireturn, 1) := by decide +kernel
theorem dX12_means_0 : decode cX12_means 0 = .ok (.aload_n 0, 1) := by decide +kernel
theorem dX12_means_1 : decode cX12_means 1 = .ok (.iload_n 1, 1) := by decide +kernel
theorem dX12_means_2 : decode cX12_means 2 = .ok (.invokevirtual 334, 3) := by decide +kernel
theorem dX12_means_5 : decode cX12_means 5 = .ok (.aload_n 0, 1) := by decide +kernel
theorem dX12_means_6 : decode cX12_means 6 = .ok (.getfield 331, 3) := by decide +kernel
theorem dX12_means_9 : decode cX12_means 9 = .ok (.iconst 0, 1) := by decide +kernel
theorem dX12_means_10 : decode cX12_means 10 = .ok (.laload, 1) := by decide +kernel
theorem dX12_means_11 : decode cX12_means 11 = .ok (.lconst 0, 1) := by decide +kernel
theorem dX12_means_12 : decode cX12_means 12 = .ok (.lcmp, 1) := by decide +kernel
theorem dX12_means_13 : decode cX12_means 13 = .ok (.ifCond .eq 18, 3) := by decide +kernel
theorem dX12_means_16 : decode cX12_means 16 = .ok (.aload_n 0, 1) := by decide +kernel
theorem dX12_means_17 : decode cX12_means 17 = .ok (.getfield 331, 3) := by decide +kernel
theorem dX12_means_20 : decode cX12_means 20 = .ok (.iconst 1, 1) := by decide +kernel
theorem dX12_means_21 : decode cX12_means 21 = .ok (.laload, 1) := by decide +kernel
theorem dX12_means_22 : decode cX12_means 22 = .ok (.lconst 0, 1) := by decide +kernel
theorem dX12_means_23 : decode cX12_means 23 = .ok (.lcmp, 1) := by decide +kernel
theorem dX12_means_24 : decode cX12_means 24 = .ok (.ifCond .eq 7, 3) := by decide +kernel
theorem dX12_means_27 : decode cX12_means 27 = .ok (.iconst 1, 1) := by decide +kernel
theorem dX12_means_28 : decode cX12_means 28 = .ok (.goto 4, 3) := by decide +kernel
theorem dX12_means_31 : decode cX12_means 31 = .ok (.iconst 0, 1) := by decide +kernel
theorem dX12_means_32 : decode cX12_means 32 = .ok (.istore_n 2, 1) := by decide +kernel
theorem dX12_means_33 : decode cX12_means 33 = .ok (.iconst 0, 1) := by decide +kernel
theorem dX12_means_34 : decode cX12_means 34 = .ok (.istore_n 3, 1) := by decide +kernel
theorem dX12_means_35 : decode cX12_means 35 = .ok (.iload_n 3, 1) := by decide +kernel
theorem dX12_means_36 : decode cX12_means 36 = .ok (.iconst 2, 1) := by decide +kernel
theorem dX12_means_37 : decode cX12_means 37 = .ok (.if_icmp .ge 49, 3) := by decide +kernel
theorem dX12_means_40 : decode cX12_means 40 = .ok (.aload_n 0, 1) := by decide +kernel
theorem dX12_means_41 : decode cX12_means 41 = .ok (.getfield 368, 3) := by decide +kernel
theorem dX12_means_44 : decode cX12_means 44 = .ok (.iconst 5, 1) := by decide +kernel
theorem dX12_means_45 : decode cX12_means 45 = .ok (.iload_n 3, 1) := by decide +kernel
theorem dX12_means_46 : decode cX12_means 46 = .ok (.imul, 1) := by decide +kernel
theorem dX12_means_47 : decode cX12_means 47 = .ok (.aload_n 0, 1) := by decide +kernel
theorem dX12_means_48 : decode cX12_means 48 = .ok (.getfield 328, 3) := by decide +kernel
theorem dX12_means_51 : decode cX12_means 51 = .ok (.iconst 1, 1) := by decide +kernel
theorem dX12_means_52 : decode cX12_means 52 = .ok (.iload_n 3, 1) := by decide +kernel
theorem dX12_means_53 : decode cX12_means 53 = .ok (.isub, 1) := by decide +kernel
theorem dX12_means_54 : decode cX12_means 54 = .ok (.laload, 1) := by decide +kernel
theorem dX12_means_55 : decode cX12_means 55 = .ok (.lastore, 1) := by decide +kernel
theorem dX12_means_56 : decode cX12_means 56 = .ok (.aload_n 0, 1) := by decide +kernel
theorem dX12_means_57 : decode cX12_means 57 = .ok (.getfield 371, 3) := by decide +kernel
theorem dX12_means_60 : decode cX12_means 60 = .ok (.iconst 5, 1) := by decide +kernel
theorem dX12_means_61 : decode cX12_means 61 = .ok (.iload_n 3, 1) := by decide +kernel
theorem dX12_means_62 : decode cX12_means 62 = .ok (.imul, 1) := by decide +kernel
theorem dX12_means_63 : decode cX12_means 63 = .ok (.iload_n 2, 1) := by decide +kernel
theorem dX12_means_64 : decode cX12_means 64 = .ok (.ifCond .eq 14, 3) := by decide +kernel
theorem dX12_means_67 : decode cX12_means 67 = .ok (.aload_n 0, 1) := by decide +kernel
theorem dX12_means_68 : decode cX12_means 68 = .ok (.getfield 331, 3) := by decide +kernel
theorem dX12_means_71 : decode cX12_means 71 = .ok (.iconst 1, 1) := by decide +kernel
theorem dX12_means_72 : decode cX12_means 72 = .ok (.iload_n 3, 1) := by decide +kernel
theorem dX12_means_73 : decode cX12_means 73 = .ok (.isub, 1) := by decide +kernel
theorem dX12_means_74 : decode cX12_means 74 = .ok (.laload, 1) := by decide +kernel
theorem dX12_means_75 : decode cX12_means 75 = .ok (.goto 4, 3) := by decide +kernel
theorem dX12_means_78 : decode cX12_means 78 = .ok (.lconst 0, 1) := by decide +kernel
theorem dX12_means_79 : decode cX12_means 79 = .ok (.lastore, 1) := by decide +kernel
theorem dX12_means_80 : decode cX12_means 80 = .ok (.iinc 3 1, 3) := by decide +kernel
theorem dX12_means_83 : decode cX12_means 83 = .ok (.goto (-48), 3) := by decide +kernel
theorem dX12_means_86 : decode cX12_means 86 = .ok (.iconst 1, 1) := by decide +kernel
theorem dX12_means_87 : decode cX12_means 87 = .ok (.istore_n 3, 1) := by decide +kernel
theorem dX12_means_88 : decode cX12_means 88 = .ok (.iload_n 3, 1) := by decide +kernel
theorem dX12_means_89 : decode cX12_means 89 = .ok (.iconst 5, 1) := by decide +kernel
theorem dX12_means_90 : decode cX12_means 90 = .ok (.if_icmp .ge 178, 3) := by decide +kernel
theorem dX12_means_93 : decode cX12_means 93 = .ok (.iload_n 3, 1) := by decide +kernel
theorem dX12_means_94 : decode cX12_means 94 = .ok (.iconst 1, 1) := by decide +kernel
theorem dX12_means_95 : decode cX12_means 95 = .ok (.if_icmp .ne 7, 3) := by decide +kernel
theorem dX12_means_98 : decode cX12_means 98 = .ok (.iconst 1, 1) := by decide +kernel
theorem dX12_means_99 : decode cX12_means 99 = .ok (.goto 22, 3) := by decide +kernel
theorem dX12_means_102 : decode cX12_means 102 = .ok (.iload_n 3, 1) := by decide +kernel
theorem dX12_means_103 : decode cX12_means 103 = .ok (.iconst 2, 1) := by decide +kernel
theorem dX12_means_104 : decode cX12_means 104 = .ok (.if_icmp .ne 7, 3) := by decide +kernel
theorem dX12_means_107 : decode cX12_means 107 = .ok (.iconst 0, 1) := by decide +kernel
theorem dX12_means_108 : decode cX12_means 108 = .ok (.goto 13, 3) := by decide +kernel
theorem dX12_means_111 : decode cX12_means 111 = .ok (.iload_n 3, 1) := by decide +kernel
theorem dX12_means_112 : decode cX12_means 112 = .ok (.iconst 3, 1) := by decide +kernel
theorem dX12_means_113 : decode cX12_means 113 = .ok (.if_icmp .ne 7, 3) := by decide +kernel
theorem dX12_means_116 : decode cX12_means 116 = .ok (.iconst 5, 1) := by decide +kernel
theorem dX12_means_117 : decode cX12_means 117 = .ok (.goto 4, 3) := by decide +kernel
theorem dX12_means_120 : decode cX12_means 120 = .ok (.iconst 2, 1) := by decide +kernel
theorem dX12_means_121 : decode cX12_means 121 = .ok (.istore 4, 2) := by decide +kernel
theorem dX12_means_123 : decode cX12_means 123 = .ok (.iconst 0, 1) := by decide +kernel
theorem dX12_means_124 : decode cX12_means 124 = .ok (.istore 5, 2) := by decide +kernel
theorem dX12_means_126 : decode cX12_means 126 = .ok (.iload 5, 2) := by decide +kernel
theorem dX12_means_128 : decode cX12_means 128 = .ok (.iconst 2, 1) := by decide +kernel
theorem dX12_means_129 : decode cX12_means 129 = .ok (.if_icmp .ge 33, 3) := by decide +kernel
theorem dX12_means_132 : decode cX12_means 132 = .ok (.aload_n 0, 1) := by decide +kernel
theorem dX12_means_133 : decode cX12_means 133 = .ok (.getfield 368, 3) := by decide +kernel
theorem dX12_means_136 : decode cX12_means 136 = .ok (.iconst 5, 1) := by decide +kernel
theorem dX12_means_137 : decode cX12_means 137 = .ok (.iload 5, 2) := by decide +kernel
theorem dX12_means_139 : decode cX12_means 139 = .ok (.imul, 1) := by decide +kernel
theorem dX12_means_140 : decode cX12_means 140 = .ok (.iload_n 3, 1) := by decide +kernel
theorem dX12_means_141 : decode cX12_means 141 = .ok (.iadd, 1) := by decide +kernel
theorem dX12_means_142 : decode cX12_means 142 = .ok (.lconst 0, 1) := by decide +kernel
theorem dX12_means_143 : decode cX12_means 143 = .ok (.lastore, 1) := by decide +kernel
theorem dX12_means_144 : decode cX12_means 144 = .ok (.aload_n 0, 1) := by decide +kernel
theorem dX12_means_145 : decode cX12_means 145 = .ok (.getfield 371, 3) := by decide +kernel
theorem dX12_means_148 : decode cX12_means 148 = .ok (.iconst 5, 1) := by decide +kernel
theorem dX12_means_149 : decode cX12_means 149 = .ok (.iload 5, 2) := by decide +kernel
theorem dX12_means_151 : decode cX12_means 151 = .ok (.imul, 1) := by decide +kernel
theorem dX12_means_152 : decode cX12_means 152 = .ok (.iload_n 3, 1) := by decide +kernel
theorem dX12_means_153 : decode cX12_means 153 = .ok (.iadd, 1) := by decide +kernel
theorem dX12_means_154 : decode cX12_means 154 = .ok (.lconst 0, 1) := by decide +kernel
theorem dX12_means_155 : decode cX12_means 155 = .ok (.lastore, 1) := by decide +kernel
theorem dX12_means_156 : decode cX12_means 156 = .ok (.iinc 5 1, 3) := by decide +kernel
theorem dX12_means_159 : decode cX12_means 159 = .ok (.goto (-33), 3) := by decide +kernel
theorem dX12_means_162 : decode cX12_means 162 = .ok (.iconst 0, 1) := by decide +kernel
theorem dX12_means_163 : decode cX12_means 163 = .ok (.istore 5, 2) := by decide +kernel
theorem dX12_means_165 : decode cX12_means 165 = .ok (.iload 5, 2) := by decide +kernel
theorem dX12_means_167 : decode cX12_means 167 = .ok (.bipush 12, 2) := by decide +kernel
theorem dX12_means_169 : decode cX12_means 169 = .ok (.aload_n 0, 1) := by decide +kernel
theorem dX12_means_170 : decode cX12_means 170 = .ok (.getfield 29, 3) := by decide +kernel
theorem dX12_means_173 : decode cX12_means 173 = .ok (.imul, 1) := by decide +kernel
theorem dX12_means_174 : decode cX12_means 174 = .ok (.if_icmp .ge 88, 3) := by decide +kernel
theorem dX12_means_177 : decode cX12_means 177 = .ok (.aload_n 0, 1) := by decide +kernel
theorem dX12_means_178 : decode cX12_means 178 = .ok (.iload 4, 2) := by decide +kernel
theorem dX12_means_180 : decode cX12_means 180 = .ok (.iload 5, 2) := by decide +kernel
theorem dX12_means_182 : decode cX12_means 182 = .ok (.iload_n 1, 1) := by decide +kernel
theorem dX12_means_183 : decode cX12_means 183 = .ok (.invokevirtual 254, 3) := by decide +kernel
theorem dX12_means_186 : decode cX12_means 186 = .ok (.ifCond .eq 70, 3) := by decide +kernel
theorem dX12_means_189 : decode cX12_means 189 = .ok (.aload_n 0, 1) := by decide +kernel
theorem dX12_means_190 : decode cX12_means 190 = .ok (.getfield 71, 3) := by decide +kernel
theorem dX12_means_193 : decode cX12_means 193 = .ok (.bipush 12, 2) := by decide +kernel
theorem dX12_means_195 : decode cX12_means 195 = .ok (.iload_n 1, 1) := by decide +kernel
theorem dX12_means_196 : decode cX12_means 196 = .ok (.imul, 1) := by decide +kernel
theorem dX12_means_197 : decode cX12_means 197 = .ok (.iload 5, 2) := by decide +kernel
theorem dX12_means_199 : decode cX12_means 199 = .ok (.bipush 12, 2) := by decide +kernel
theorem dX12_means_201 : decode cX12_means 201 = .ok (.irem, 1) := by decide +kernel
theorem dX12_means_202 : decode cX12_means 202 = .ok (.iadd, 1) := by decide +kernel
theorem dX12_means_203 : decode cX12_means 203 = .ok (.baload, 1) := by decide +kernel
theorem dX12_means_204 : decode cX12_means 204 = .ok (.ifCond .ne 7, 3) := by decide +kernel
theorem dX12_means_207 : decode cX12_means 207 = .ok (.iconst 1, 1) := by decide +kernel
theorem dX12_means_208 : decode cX12_means 208 = .ok (.goto 4, 3) := by decide +kernel
theorem dX12_means_211 : decode cX12_means 211 = .ok (.iconst 0, 1) := by decide +kernel
theorem dX12_means_212 : decode cX12_means 212 = .ok (.invokestatic 207, 3) := by decide +kernel
theorem dX12_means_215 : decode cX12_means 215 = .ok (.istore 6, 2) := by decide +kernel
theorem dX12_means_217 : decode cX12_means 217 = .ok (.aload_n 0, 1) := by decide +kernel
theorem dX12_means_218 : decode cX12_means 218 = .ok (.getfield 368, 3) := by decide +kernel
theorem dX12_means_221 : decode cX12_means 221 = .ok (.iconst 5, 1) := by decide +kernel
theorem dX12_means_222 : decode cX12_means 222 = .ok (.iload 6, 2) := by decide +kernel
theorem dX12_means_224 : decode cX12_means 224 = .ok (.imul, 1) := by decide +kernel
theorem dX12_means_225 : decode cX12_means 225 = .ok (.iload_n 3, 1) := by decide +kernel
theorem dX12_means_226 : decode cX12_means 226 = .ok (.iadd, 1) := by decide +kernel
theorem dX12_means_227 : decode cX12_means 227 = .ok (.dup2, 1) := by decide +kernel
theorem dX12_means_228 : decode cX12_means 228 = .ok (.laload, 1) := by decide +kernel
theorem dX12_means_229 : decode cX12_means 229 = .ok (.aload_n 0, 1) := by decide +kernel
theorem dX12_means_230 : decode cX12_means 230 = .ok (.iload 4, 2) := by decide +kernel
theorem dX12_means_232 : decode cX12_means 232 = .ok (.iload 5, 2) := by decide +kernel
theorem dX12_means_234 : decode cX12_means 234 = .ok (.iload_n 1, 1) := by decide +kernel
theorem dX12_means_235 : decode cX12_means 235 = .ok (.invokevirtual 92, 3) := by decide +kernel
theorem dX12_means_238 : decode cX12_means 238 = .ok (.i2l, 1) := by decide +kernel
theorem dX12_means_239 : decode cX12_means 239 = .ok (.ladd, 1) := by decide +kernel
theorem dX12_means_240 : decode cX12_means 240 = .ok (.lastore, 1) := by decide +kernel
theorem dX12_means_241 : decode cX12_means 241 = .ok (.aload_n 0, 1) := by decide +kernel
theorem dX12_means_242 : decode cX12_means 242 = .ok (.getfield 371, 3) := by decide +kernel
theorem dX12_means_245 : decode cX12_means 245 = .ok (.iconst 5, 1) := by decide +kernel
theorem dX12_means_246 : decode cX12_means 246 = .ok (.iload 6, 2) := by decide +kernel
theorem dX12_means_248 : decode cX12_means 248 = .ok (.imul, 1) := by decide +kernel
theorem dX12_means_249 : decode cX12_means 249 = .ok (.iload_n 3, 1) := by decide +kernel
theorem dX12_means_250 : decode cX12_means 250 = .ok (.iadd, 1) := by decide +kernel
theorem dX12_means_251 : decode cX12_means 251 = .ok (.dup2, 1) := by decide +kernel
theorem dX12_means_252 : decode cX12_means 252 = .ok (.laload, 1) := by decide +kernel
theorem dX12_means_253 : decode cX12_means 253 = .ok (.lconst 1, 1) := by decide +kernel
theorem dX12_means_254 : decode cX12_means 254 = .ok (.ladd, 1) := by decide +kernel
theorem dX12_means_255 : decode cX12_means 255 = .ok (.lastore, 1) := by decide +kernel
theorem dX12_means_256 : decode cX12_means 256 = .ok (.iinc 5 1, 3) := by decide +kernel
theorem dX12_means_259 : decode cX12_means 259 = .ok (.goto (-94), 3) := by decide +kernel
theorem dX12_means_262 : decode cX12_means 262 = .ok (.iinc 3 1, 3) := by decide +kernel
theorem dX12_means_265 : decode cX12_means 265 = .ok (.goto (-177), 3) := by decide +kernel
theorem dX12_means_268 : decode cX12_means 268 = .ok (.return_, 1) := by decide +kernel
theorem dX12_fails_0 : decode cX12_fails 0 = .ok (.iconst 0, 1) := by decide +kernel
theorem dX12_fails_1 : decode cX12_fails 1 = .ok (.istore_n 2, 1) := by decide +kernel
theorem dX12_fails_2 : decode cX12_fails 2 = .ok (.bipush 12, 2) := by decide +kernel
theorem dX12_fails_4 : decode cX12_fails 4 = .ok (.iload_n 1, 1) := by decide +kernel
theorem dX12_fails_5 : decode cX12_fails 5 = .ok (.imul, 1) := by decide +kernel
theorem dX12_fails_6 : decode cX12_fails 6 = .ok (.istore_n 3, 1) := by decide +kernel
theorem dX12_fails_7 : decode cX12_fails 7 = .ok (.iload_n 3, 1) := by decide +kernel
theorem dX12_fails_8 : decode cX12_fails 8 = .ok (.bipush 12, 2) := by decide +kernel
theorem dX12_fails_10 : decode cX12_fails 10 = .ok (.iload_n 1, 1) := by decide +kernel
theorem dX12_fails_11 : decode cX12_fails 11 = .ok (.imul, 1) := by decide +kernel
theorem dX12_fails_12 : decode cX12_fails 12 = .ok (.aload_n 0, 1) := by decide +kernel
theorem dX12_fails_13 : decode cX12_fails 13 = .ok (.getfield 356, 3) := by decide +kernel
theorem dX12_fails_16 : decode cX12_fails 16 = .ok (.iload_n 1, 1) := by decide +kernel
theorem dX12_fails_17 : decode cX12_fails 17 = .ok (.iaload, 1) := by decide +kernel
theorem dX12_fails_18 : decode cX12_fails 18 = .ok (.iadd, 1) := by decide +kernel
theorem dX12_fails_19 : decode cX12_fails 19 = .ok (.if_icmp .ge 158, 3) := by decide +kernel
theorem dX12_fails_22 : decode cX12_fails 22 = .ok (.aload_n 0, 1) := by decide +kernel
theorem dX12_fails_23 : decode cX12_fails 23 = .ok (.getfield 359, 3) := by decide +kernel
theorem dX12_fails_26 : decode cX12_fails 26 = .ok (.iload_n 3, 1) := by decide +kernel
theorem dX12_fails_27 : decode cX12_fails 27 = .ok (.iaload, 1) := by decide +kernel
theorem dX12_fails_28 : decode cX12_fails 28 = .ok (.istore 4, 2) := by decide +kernel
theorem dX12_fails_30 : decode cX12_fails 30 = .ok (.aload_n 0, 1) := by decide +kernel
theorem dX12_fails_31 : decode cX12_fails 31 = .ok (.getfield 365, 3) := by decide +kernel
theorem dX12_fails_34 : decode cX12_fails 34 = .ok (.iload_n 3, 1) := by decide +kernel
theorem dX12_fails_35 : decode cX12_fails 35 = .ok (.iaload, 1) := by decide +kernel
theorem dX12_fails_36 : decode cX12_fails 36 = .ok (.istore 5, 2) := by decide +kernel
theorem dX12_fails_38 : decode cX12_fails 38 = .ok (.aload_n 0, 1) := by decide +kernel
theorem dX12_fails_39 : decode cX12_fails 39 = .ok (.getfield 368, 3) := by decide +kernel
theorem dX12_fails_42 : decode cX12_fails 42 = .ok (.iload 4, 2) := by decide +kernel
theorem dX12_fails_44 : decode cX12_fails 44 = .ok (.laload, 1) := by decide +kernel
theorem dX12_fails_45 : decode cX12_fails 45 = .ok (.aload_n 0, 1) := by decide +kernel
theorem dX12_fails_46 : decode cX12_fails 46 = .ok (.getfield 371, 3) := by decide +kernel
theorem dX12_fails_49 : decode cX12_fails 49 = .ok (.iload 5, 2) := by decide +kernel
theorem dX12_fails_51 : decode cX12_fails 51 = .ok (.laload, 1) := by decide +kernel
theorem dX12_fails_52 : decode cX12_fails 52 = .ok (.lmul, 1) := by decide +kernel
theorem dX12_fails_53 : decode cX12_fails 53 = .ok (.aload_n 0, 1) := by decide +kernel
theorem dX12_fails_54 : decode cX12_fails 54 = .ok (.getfield 368, 3) := by decide +kernel
theorem dX12_fails_57 : decode cX12_fails 57 = .ok (.iload 5, 2) := by decide +kernel
theorem dX12_fails_59 : decode cX12_fails 59 = .ok (.laload, 1) := by decide +kernel
theorem dX12_fails_60 : decode cX12_fails 60 = .ok (.aload_n 0, 1) := by decide +kernel
theorem dX12_fails_61 : decode cX12_fails 61 = .ok (.getfield 371, 3) := by decide +kernel
theorem dX12_fails_64 : decode cX12_fails 64 = .ok (.iload 4, 2) := by decide +kernel
theorem dX12_fails_66 : decode cX12_fails 66 = .ok (.laload, 1) := by decide +kernel
theorem dX12_fails_67 : decode cX12_fails 67 = .ok (.lmul, 1) := by decide +kernel
theorem dX12_fails_68 : decode cX12_fails 68 = .ok (.lsub, 1) := by decide +kernel
theorem dX12_fails_69 : decode cX12_fails 69 = .ok (.invokestatic 295, 3) := by decide +kernel
theorem dX12_fails_72 : decode cX12_fails 72 = .ok (.istore 6, 2) := by decide +kernel
theorem dX12_fails_74 : decode cX12_fails 74 = .ok (.aload_n 0, 1) := by decide +kernel
theorem dX12_fails_75 : decode cX12_fails 75 = .ok (.getfield 362, 3) := by decide +kernel
theorem dX12_fails_78 : decode cX12_fails 78 = .ok (.iload_n 3, 1) := by decide +kernel
theorem dX12_fails_79 : decode cX12_fails 79 = .ok (.iaload, 1) := by decide +kernel
theorem dX12_fails_80 : decode cX12_fails 80 = .ok (.ifCond .ne 16, 3) := by decide +kernel
theorem dX12_fails_83 : decode cX12_fails 83 = .ok (.iload 6, 2) := by decide +kernel
theorem dX12_fails_85 : decode cX12_fails 85 = .ok (.ifCond .ge 7, 3) := by decide +kernel
theorem dX12_fails_88 : decode cX12_fails 88 = .ok (.iconst 1, 1) := by decide +kernel
theorem dX12_fails_89 : decode cX12_fails 89 = .ok (.goto 40, 3) := by decide +kernel
theorem dX12_fails_92 : decode cX12_fails 92 = .ok (.iconst 0, 1) := by decide +kernel
theorem dX12_fails_93 : decode cX12_fails 93 = .ok (.goto 36, 3) := by decide +kernel
theorem dX12_fails_96 : decode cX12_fails 96 = .ok (.aload_n 0, 1) := by decide +kernel
theorem dX12_fails_97 : decode cX12_fails 97 = .ok (.getfield 362, 3) := by decide +kernel
theorem dX12_fails_100 : decode cX12_fails 100 = .ok (.iload_n 3, 1) := by decide +kernel
theorem dX12_fails_101 : decode cX12_fails 101 = .ok (.iaload, 1) := by decide +kernel
theorem dX12_fails_102 : decode cX12_fails 102 = .ok (.iconst 1, 1) := by decide +kernel
theorem dX12_fails_103 : decode cX12_fails 103 = .ok (.if_icmp .ne 16, 3) := by decide +kernel
theorem dX12_fails_106 : decode cX12_fails 106 = .ok (.iload 6, 2) := by decide +kernel
theorem dX12_fails_108 : decode cX12_fails 108 = .ok (.ifCond .le 7, 3) := by decide +kernel
theorem dX12_fails_111 : decode cX12_fails 111 = .ok (.iconst 1, 1) := by decide +kernel
theorem dX12_fails_112 : decode cX12_fails 112 = .ok (.goto 17, 3) := by decide +kernel
theorem dX12_fails_115 : decode cX12_fails 115 = .ok (.iconst 0, 1) := by decide +kernel
theorem dX12_fails_116 : decode cX12_fails 116 = .ok (.goto 13, 3) := by decide +kernel
theorem dX12_fails_119 : decode cX12_fails 119 = .ok (.iload 6, 2) := by decide +kernel
theorem dX12_fails_121 : decode cX12_fails 121 = .ok (.ifCond .ne 7, 3) := by decide +kernel
theorem dX12_fails_124 : decode cX12_fails 124 = .ok (.iconst 1, 1) := by decide +kernel
theorem dX12_fails_125 : decode cX12_fails 125 = .ok (.goto 4, 3) := by decide +kernel
theorem dX12_fails_128 : decode cX12_fails 128 = .ok (.iconst 0, 1) := by decide +kernel
theorem dX12_fails_129 : decode cX12_fails 129 = .ok (.istore 7, 2) := by decide +kernel
theorem dX12_fails_131 : decode cX12_fails 131 = .ok (.iload_n 2, 1) := by decide +kernel
theorem dX12_fails_132 : decode cX12_fails 132 = .ok (.iload 7, 2) := by decide +kernel
theorem dX12_fails_134 : decode cX12_fails 134 = .ok (.ifCond .eq 27, 3) := by decide +kernel
theorem dX12_fails_137 : decode cX12_fails 137 = .ok (.aload_n 0, 1) := by decide +kernel
theorem dX12_fails_138 : decode cX12_fails 138 = .ok (.getfield 371, 3) := by decide +kernel
theorem dX12_fails_141 : decode cX12_fails 141 = .ok (.iload 4, 2) := by decide +kernel
theorem dX12_fails_143 : decode cX12_fails 143 = .ok (.laload, 1) := by decide +kernel
theorem dX12_fails_144 : decode cX12_fails 144 = .ok (.lconst 0, 1) := by decide +kernel
theorem dX12_fails_145 : decode cX12_fails 145 = .ok (.lcmp, 1) := by decide +kernel
theorem dX12_fails_146 : decode cX12_fails 146 = .ok (.ifCond .eq 15, 3) := by decide +kernel
theorem dX12_fails_149 : decode cX12_fails 149 = .ok (.aload_n 0, 1) := by decide +kernel
theorem dX12_fails_150 : decode cX12_fails 150 = .ok (.getfield 371, 3) := by decide +kernel
theorem dX12_fails_153 : decode cX12_fails 153 = .ok (.iload 5, 2) := by decide +kernel
theorem dX12_fails_155 : decode cX12_fails 155 = .ok (.laload, 1) := by decide +kernel
theorem dX12_fails_156 : decode cX12_fails 156 = .ok (.lconst 0, 1) := by decide +kernel
theorem dX12_fails_157 : decode cX12_fails 157 = .ok (.lcmp, 1) := by decide +kernel
theorem dX12_fails_158 : decode cX12_fails 158 = .ok (.ifCond .ne 7, 3) := by decide +kernel
theorem dX12_fails_161 : decode cX12_fails 161 = .ok (.iconst 1, 1) := by decide +kernel
theorem dX12_fails_162 : decode cX12_fails 162 = .ok (.goto 4, 3) := by decide +kernel
theorem dX12_fails_165 : decode cX12_fails 165 = .ok (.iconst 0, 1) := by decide +kernel
theorem dX12_fails_166 : decode cX12_fails 166 = .ok (.invokestatic 207, 3) := by decide +kernel
theorem dX12_fails_169 : decode cX12_fails 169 = .ok (.iadd, 1) := by decide +kernel
theorem dX12_fails_170 : decode cX12_fails 170 = .ok (.istore_n 2, 1) := by decide +kernel
theorem dX12_fails_171 : decode cX12_fails 171 = .ok (.iinc 3 1, 3) := by decide +kernel
theorem dX12_fails_174 : decode cX12_fails 174 = .ok (.goto (-167), 3) := by decide +kernel
theorem dX12_fails_177 : decode cX12_fails 177 = .ok (.iload_n 2, 1) := by decide +kernel
theorem dX12_fails_178 : decode cX12_fails 178 = .ok (.ireturn, 1) := by decide +kernel
theorem dX12_holding_0 : decode cX12_holding 0 = .ok (.aload_n 0, 1) := by decide +kernel
theorem dX12_holding_1 : decode cX12_holding 1 = .ok (.iload_n 1, 1) := by decide +kernel
theorem dX12_holding_2 : decode cX12_holding 2 = .ok (.invokevirtual 374, 3) := by decide +kernel
theorem dX12_holding_5 : decode cX12_holding 5 = .ok (.iconst 0, 1) := by decide +kernel
theorem dX12_holding_6 : decode cX12_holding 6 = .ok (.istore_n 2, 1) := by decide +kernel
theorem dX12_holding_7 : decode cX12_holding 7 = .ok (.iconst 0, 1) := by decide +kernel
theorem dX12_holding_8 : decode cX12_holding 8 = .ok (.istore_n 3, 1) := by decide +kernel
theorem dX12_holding_9 : decode cX12_holding 9 = .ok (.iload_n 3, 1) := by decide +kernel
theorem dX12_holding_10 : decode cX12_holding 10 = .ok (.aload_n 0, 1) := by decide +kernel
theorem dX12_holding_11 : decode cX12_holding 11 = .ok (.getfield 348, 3) := by decide +kernel
theorem dX12_holding_14 : decode cX12_holding 14 = .ok (.if_icmp .ge 27, 3) := by decide +kernel
theorem dX12_holding_17 : decode cX12_holding 17 = .ok (.iload_n 2, 1) := by decide +kernel
theorem dX12_holding_18 : decode cX12_holding 18 = .ok (.aload_n 0, 1) := by decide +kernel
theorem dX12_holding_19 : decode cX12_holding 19 = .ok (.iload_n 3, 1) := by decide +kernel
theorem dX12_holding_20 : decode cX12_holding 20 = .ok (.invokevirtual 377, 3) := by decide +kernel
theorem dX12_holding_23 : decode cX12_holding 23 = .ok (.ifCond .ne 9, 3) := by decide +kernel
theorem dX12_holding_26 : decode cX12_holding 26 = .ok (.iconst 1, 1) := by decide +kernel
theorem dX12_holding_27 : decode cX12_holding 27 = .ok (.iload_n 3, 1) := by decide +kernel
theorem dX12_holding_28 : decode cX12_holding 28 = .ok (.ishl, 1) := by decide +kernel
theorem dX12_holding_29 : decode cX12_holding 29 = .ok (.goto 4, 3) := by decide +kernel
theorem dX12_holding_32 : decode cX12_holding 32 = .ok (.iconst 0, 1) := by decide +kernel
theorem dX12_holding_33 : decode cX12_holding 33 = .ok (.ior, 1) := by decide +kernel
theorem dX12_holding_34 : decode cX12_holding 34 = .ok (.istore_n 2, 1) := by decide +kernel
theorem dX12_holding_35 : decode cX12_holding 35 = .ok (.iinc 3 1, 3) := by decide +kernel
theorem dX12_holding_38 : decode cX12_holding 38 = .ok (.goto (-29), 3) := by decide +kernel
theorem dX12_holding_41 : decode cX12_holding 41 = .ok (.iload_n 2, 1) := by decide +kernel
theorem dX12_holding_42 : decode cX12_holding 42 = .ok (.ireturn, 1) := by decide +kernel
theorem dX12_holds_0 : decode cX12_holds 0 = .ok (.aload_n 0, 1) := by decide +kernel
theorem dX12_holds_1 : decode cX12_holds 1 = .ok (.iconst 0, 1) := by decide +kernel
theorem dX12_holds_2 : decode cX12_holds 2 = .ok (.putfield 3, 3) := by decide +kernel
theorem dX12_holds_5 : decode cX12_holds 5 = .ok (.aload_n 0, 1) := by decide +kernel
theorem dX12_holds_6 : decode cX12_holds 6 = .ok (.iload_n 1, 1) := by decide +kernel
theorem dX12_holds_7 : decode cX12_holds 7 = .ok (.invokevirtual 52, 3) := by decide +kernel
theorem dX12_holds_10 : decode cX12_holds 10 = .ok (.ifCond .ne 5, 3) := by decide +kernel
theorem dX12_holds_13 : decode cX12_holds 13 = .ok (.iconst (-1), 1) := by decide +kernel
theorem dX12_holds_14 : decode cX12_holds 14 = .ok (.ireturn, 1) := by decide +kernel
theorem dX12_holds_15 : decode cX12_holds 15 = .ok (.aload_n 0, 1) := by decide +kernel
theorem dX12_holds_16 : decode cX12_holds 16 = .ok (.iload_n 1, 1) := by decide +kernel
theorem dX12_holds_17 : decode cX12_holds 17 = .ok (.invokevirtual 380, 3) := by decide +kernel
theorem dX12_holds_20 : decode cX12_holds 20 = .ok (.istore_n 2, 1) := by decide +kernel
theorem dX12_holds_21 : decode cX12_holds 21 = .ok (.aload_n 0, 1) := by decide +kernel
theorem dX12_holds_22 : decode cX12_holds 22 = .ok (.iconst 0, 1) := by decide +kernel
theorem dX12_holds_23 : decode cX12_holds 23 = .ok (.putfield 11, 3) := by decide +kernel
theorem dX12_holds_26 : decode cX12_holds 26 = .ok (.iconst 0, 1) := by decide +kernel
theorem dX12_holds_27 : decode cX12_holds 27 = .ok (.istore_n 3, 1) := by decide +kernel
theorem dX12_holds_28 : decode cX12_holds 28 = .ok (.iload_n 3, 1) := by decide +kernel
theorem dX12_holds_29 : decode cX12_holds 29 = .ok (.aload_n 0, 1) := by decide +kernel
theorem dX12_holds_30 : decode cX12_holds 30 = .ok (.getfield 348, 3) := by decide +kernel
theorem dX12_holds_33 : decode cX12_holds 33 = .ok (.if_icmp .ge 19, 3) := by decide +kernel
theorem dX12_holds_36 : decode cX12_holds 36 = .ok (.aload_n 0, 1) := by decide +kernel
theorem dX12_holds_37 : decode cX12_holds 37 = .ok (.aload_n 0, 1) := by decide +kernel
theorem dX12_holds_38 : decode cX12_holds 38 = .ok (.iload_n 3, 1) := by decide +kernel
theorem dX12_holds_39 : decode cX12_holds 39 = .ok (.invokevirtual 377, 3) := by decide +kernel
theorem dX12_holds_42 : decode cX12_holds 42 = .ok (.i2l, 1) := by decide +kernel
theorem dX12_holds_43 : decode cX12_holds 43 = .ok (.invokevirtual 18, 3) := by decide +kernel
theorem dX12_holds_46 : decode cX12_holds 46 = .ok (.iinc 3 1, 3) := by decide +kernel
theorem dX12_holds_49 : decode cX12_holds 49 = .ok (.goto (-21), 3) := by decide +kernel
theorem dX12_holds_52 : decode cX12_holds 52 = .ok (.iload_n 2, 1) := by decide +kernel
theorem dX12_holds_53 : decode cX12_holds 53 = .ok (.ireturn, 1) := by decide +kernel
theorem dX12_parts_0 : decode cX12_parts 0 = .ok (.aload_n 0, 1) := by decide +kernel
theorem dX12_parts_1 : decode cX12_parts 1 = .ok (.iconst 0, 1) := by decide +kernel
theorem dX12_parts_2 : decode cX12_parts 2 = .ok (.putfield 3, 3) := by decide +kernel
theorem dX12_parts_5 : decode cX12_parts 5 = .ok (.bipush (-2), 2) := by decide +kernel
theorem dX12_parts_7 : decode cX12_parts 7 = .ok (.istore_n 1, 1) := by decide +kernel
theorem dX12_parts_8 : decode cX12_parts 8 = .ok (.iconst 0, 1) := by decide +kernel
theorem dX12_parts_9 : decode cX12_parts 9 = .ok (.istore_n 2, 1) := by decide +kernel
theorem dX12_parts_10 : decode cX12_parts 10 = .ok (.iconst 0, 1) := by decide +kernel
theorem dX12_parts_11 : decode cX12_parts 11 = .ok (.istore_n 3, 1) := by decide +kernel
theorem dX12_parts_12 : decode cX12_parts 12 = .ok (.iload_n 3, 1) := by decide +kernel
theorem dX12_parts_13 : decode cX12_parts 13 = .ok (.aload_n 0, 1) := by decide +kernel
theorem dX12_parts_14 : decode cX12_parts 14 = .ok (.getfield 22, 3) := by decide +kernel
theorem dX12_parts_17 : decode cX12_parts 17 = .ok (.if_icmp .ge 42, 3) := by decide +kernel
theorem dX12_parts_20 : decode cX12_parts 20 = .ok (.aload_n 0, 1) := by decide +kernel
theorem dX12_parts_21 : decode cX12_parts 21 = .ok (.iload_n 3, 1) := by decide +kernel
theorem dX12_parts_22 : decode cX12_parts 22 = .ok (.invokevirtual 380, 3) := by decide +kernel
theorem dX12_parts_25 : decode cX12_parts 25 = .ok (.istore 4, 2) := by decide +kernel
theorem dX12_parts_27 : decode cX12_parts 27 = .ok (.iload 4, 2) := by decide +kernel
theorem dX12_parts_29 : decode cX12_parts 29 = .ok (.ifCond .eq 24, 3) := by decide +kernel
theorem dX12_parts_32 : decode cX12_parts 32 = .ok (.iload_n 1, 1) := by decide +kernel
theorem dX12_parts_33 : decode cX12_parts 33 = .ok (.ifCond .lt 15, 3) := by decide +kernel
theorem dX12_parts_36 : decode cX12_parts 36 = .ok (.iload 4, 2) := by decide +kernel
theorem dX12_parts_38 : decode cX12_parts 38 = .ok (.invokestatic 383, 3) := by decide +kernel
theorem dX12_parts_41 : decode cX12_parts 41 = .ok (.iload_n 2, 1) := by decide +kernel
theorem dX12_parts_42 : decode cX12_parts 42 = .ok (.invokestatic 383, 3) := by decide +kernel
theorem dX12_parts_45 : decode cX12_parts 45 = .ok (.if_icmp .ge 8, 3) := by decide +kernel
theorem dX12_parts_48 : decode cX12_parts 48 = .ok (.iload_n 3, 1) := by decide +kernel
theorem dX12_parts_49 : decode cX12_parts 49 = .ok (.istore_n 1, 1) := by decide +kernel
theorem dX12_parts_50 : decode cX12_parts 50 = .ok (.iload 4, 2) := by decide +kernel
theorem dX12_parts_52 : decode cX12_parts 52 = .ok (.istore_n 2, 1) := by decide +kernel
theorem dX12_parts_53 : decode cX12_parts 53 = .ok (.iinc 3 1, 3) := by decide +kernel
theorem dX12_parts_56 : decode cX12_parts 56 = .ok (.goto (-44), 3) := by decide +kernel
theorem dX12_parts_59 : decode cX12_parts 59 = .ok (.iload_n 1, 1) := by decide +kernel
theorem dX12_parts_60 : decode cX12_parts 60 = .ok (.ifCond .lt 14, 3) := by decide +kernel
theorem dX12_parts_63 : decode cX12_parts 63 = .ok (.aload_n 0, 1) := by decide +kernel
theorem dX12_parts_64 : decode cX12_parts 64 = .ok (.iconst 0, 1) := by decide +kernel
theorem dX12_parts_65 : decode cX12_parts 65 = .ok (.putfield 11, 3) := by decide +kernel
theorem dX12_parts_68 : decode cX12_parts 68 = .ok (.aload_n 0, 1) := by decide +kernel
theorem dX12_parts_69 : decode cX12_parts 69 = .ok (.iload_n 2, 1) := by decide +kernel
theorem dX12_parts_70 : decode cX12_parts 70 = .ok (.i2l, 1) := by decide +kernel
theorem dX12_parts_71 : decode cX12_parts 71 = .ok (.invokevirtual 18, 3) := by decide +kernel
theorem dX12_parts_74 : decode cX12_parts 74 = .ok (.iload_n 1, 1) := by decide +kernel
theorem dX12_parts_75 : decode cX12_parts 75 = .ok (.ireturn, 1) := by decide +kernel
theorem dX12_twice_0 : decode cX12_twice 0 = .ok (.aload_n 0, 1) := by decide +kernel
theorem dX12_twice_1 : decode cX12_twice 1 = .ok (.iconst 0, 1) := by decide +kernel
theorem dX12_twice_2 : decode cX12_twice 2 = .ok (.putfield 3, 3) := by decide +kernel
theorem dX12_twice_5 : decode cX12_twice 5 = .ok (.aload_n 0, 1) := by decide +kernel
theorem dX12_twice_6 : decode cX12_twice 6 = .ok (.iload_n 1, 1) := by decide +kernel
theorem dX12_twice_7 : decode cX12_twice 7 = .ok (.invokevirtual 52, 3) := by decide +kernel
theorem dX12_twice_10 : decode cX12_twice 10 = .ok (.ifCond .eq 35, 3) := by decide +kernel
theorem dX12_twice_13 : decode cX12_twice 13 = .ok (.aload_n 0, 1) := by decide +kernel
theorem dX12_twice_14 : decode cX12_twice 14 = .ok (.iload_n 2, 1) := by decide +kernel
theorem dX12_twice_15 : decode cX12_twice 15 = .ok (.invokevirtual 52, 3) := by decide +kernel
theorem dX12_twice_18 : decode cX12_twice 18 = .ok (.ifCond .eq 27, 3) := by decide +kernel
theorem dX12_twice_21 : decode cX12_twice 21 = .ok (.iload_n 3, 1) := by decide +kernel
theorem dX12_twice_22 : decode cX12_twice 22 = .ok (.i2l, 1) := by decide +kernel
theorem dX12_twice_23 : decode cX12_twice 23 = .ok (.lconst 1, 1) := by decide +kernel
theorem dX12_twice_24 : decode cX12_twice 24 = .ok (.ldc2_w 386, 3) := by decide +kernel
theorem dX12_twice_27 : decode cX12_twice 27 = .ok (.invokestatic 25, 3) := by decide +kernel
theorem dX12_twice_30 : decode cX12_twice 30 = .ok (.ifCond .eq 15, 3) := by decide +kernel
theorem dX12_twice_33 : decode cX12_twice 33 = .ok (.aload_n 0, 1) := by decide +kernel
theorem dX12_twice_34 : decode cX12_twice 34 = .ok (.getfield 388, 3) := by decide +kernel
theorem dX12_twice_37 : decode cX12_twice 37 = .ok (.iload_n 3, 1) := by decide +kernel
theorem dX12_twice_38 : decode cX12_twice 38 = .ok (.iadd, 1) := by decide +kernel
theorem dX12_twice_39 : decode cX12_twice 39 = .ok (.sipush 9999, 3) := by decide +kernel
theorem dX12_twice_42 : decode cX12_twice 42 = .ok (.if_icmp .le 5, 3) := by decide +kernel
theorem dX12_twice_45 : decode cX12_twice 45 = .ok (.iconst (-1), 1) := by decide +kernel
theorem dX12_twice_46 : decode cX12_twice 46 = .ok (.ireturn, 1) := by decide +kernel
theorem dX12_twice_47 : decode cX12_twice 47 = .ok (.aload_n 0, 1) := by decide +kernel
theorem dX12_twice_48 : decode cX12_twice 48 = .ok (.getfield 391, 3) := by decide +kernel
theorem dX12_twice_51 : decode cX12_twice 51 = .ok (.bipush 8, 2) := by decide +kernel
theorem dX12_twice_53 : decode cX12_twice 53 = .ok (.iload_n 1, 1) := by decide +kernel
theorem dX12_twice_54 : decode cX12_twice 54 = .ok (.imul, 1) := by decide +kernel
theorem dX12_twice_55 : decode cX12_twice 55 = .ok (.iload_n 2, 1) := by decide +kernel
theorem dX12_twice_56 : decode cX12_twice 56 = .ok (.iadd, 1) := by decide +kernel
theorem dX12_twice_57 : decode cX12_twice 57 = .ok (.dup2, 1) := by decide +kernel
theorem dX12_twice_58 : decode cX12_twice 58 = .ok (.iaload, 1) := by decide +kernel
theorem dX12_twice_59 : decode cX12_twice 59 = .ok (.iload_n 3, 1) := by decide +kernel
theorem dX12_twice_60 : decode cX12_twice 60 = .ok (.iadd, 1) := by decide +kernel
theorem dX12_twice_61 : decode cX12_twice 61 = .ok (.iastore, 1) := by decide +kernel
theorem dX12_twice_62 : decode cX12_twice 62 = .ok (.aload_n 0, 1) := by decide +kernel
theorem dX12_twice_63 : decode cX12_twice 63 = .ok (.dup, 1) := by decide +kernel
theorem dX12_twice_64 : decode cX12_twice 64 = .ok (.getfield 388, 3) := by decide +kernel
theorem dX12_twice_67 : decode cX12_twice 67 = .ok (.iload_n 3, 1) := by decide +kernel
theorem dX12_twice_68 : decode cX12_twice 68 = .ok (.iadd, 1) := by decide +kernel
theorem dX12_twice_69 : decode cX12_twice 69 = .ok (.putfield 388, 3) := by decide +kernel
theorem dX12_twice_72 : decode cX12_twice 72 = .ok (.aload_n 0, 1) := by decide +kernel
theorem dX12_twice_73 : decode cX12_twice 73 = .ok (.getfield 388, 3) := by decide +kernel
theorem dX12_twice_76 : decode cX12_twice 76 = .ok (.ireturn, 1) := by decide +kernel
theorem dX12_tookFor_0 : decode cX12_tookFor 0 = .ok (.iconst 0, 1) := by decide +kernel
theorem dX12_tookFor_1 : decode cX12_tookFor 1 = .ok (.istore_n 3, 1) := by decide +kernel
theorem dX12_tookFor_2 : decode cX12_tookFor 2 = .ok (.iconst 0, 1) := by decide +kernel
theorem dX12_tookFor_3 : decode cX12_tookFor 3 = .ok (.istore 4, 2) := by decide +kernel
theorem dX12_tookFor_5 : decode cX12_tookFor 5 = .ok (.iload 4, 2) := by decide +kernel
theorem dX12_tookFor_7 : decode cX12_tookFor 7 = .ok (.bipush 8, 2) := by decide +kernel
theorem dX12_tookFor_9 : decode cX12_tookFor 9 = .ok (.if_icmp .ge 43, 3) := by decide +kernel
theorem dX12_tookFor_12 : decode cX12_tookFor 12 = .ok (.iload_n 3, 1) := by decide +kernel
theorem dX12_tookFor_13 : decode cX12_tookFor 13 = .ok (.iload_n 1, 1) := by decide +kernel
theorem dX12_tookFor_14 : decode cX12_tookFor 14 = .ok (.ifCond .ne 18, 3) := by decide +kernel
theorem dX12_tookFor_17 : decode cX12_tookFor 17 = .ok (.aload_n 0, 1) := by decide +kernel
theorem dX12_tookFor_18 : decode cX12_tookFor 18 = .ok (.getfield 391, 3) := by decide +kernel
theorem dX12_tookFor_21 : decode cX12_tookFor 21 = .ok (.bipush 8, 2) := by decide +kernel
theorem dX12_tookFor_23 : decode cX12_tookFor 23 = .ok (.iload_n 2, 1) := by decide +kernel
theorem dX12_tookFor_24 : decode cX12_tookFor 24 = .ok (.imul, 1) := by decide +kernel
theorem dX12_tookFor_25 : decode cX12_tookFor 25 = .ok (.iload 4, 2) := by decide +kernel
theorem dX12_tookFor_27 : decode cX12_tookFor 27 = .ok (.iadd, 1) := by decide +kernel
theorem dX12_tookFor_28 : decode cX12_tookFor 28 = .ok (.iaload, 1) := by decide +kernel
theorem dX12_tookFor_29 : decode cX12_tookFor 29 = .ok (.goto 15, 3) := by decide +kernel
theorem dX12_tookFor_32 : decode cX12_tookFor 32 = .ok (.aload_n 0, 1) := by decide +kernel
theorem dX12_tookFor_33 : decode cX12_tookFor 33 = .ok (.getfield 391, 3) := by decide +kernel
theorem dX12_tookFor_36 : decode cX12_tookFor 36 = .ok (.bipush 8, 2) := by decide +kernel
theorem dX12_tookFor_38 : decode cX12_tookFor 38 = .ok (.iload 4, 2) := by decide +kernel
theorem dX12_tookFor_40 : decode cX12_tookFor 40 = .ok (.imul, 1) := by decide +kernel
theorem dX12_tookFor_41 : decode cX12_tookFor 41 = .ok (.iload_n 2, 1) := by decide +kernel
theorem dX12_tookFor_42 : decode cX12_tookFor 42 = .ok (.iadd, 1) := by decide +kernel
theorem dX12_tookFor_43 : decode cX12_tookFor 43 = .ok (.iaload, 1) := by decide +kernel
theorem dX12_tookFor_44 : decode cX12_tookFor 44 = .ok (.iadd, 1) := by decide +kernel
theorem dX12_tookFor_45 : decode cX12_tookFor 45 = .ok (.istore_n 3, 1) := by decide +kernel
theorem dX12_tookFor_46 : decode cX12_tookFor 46 = .ok (.iinc 4 1, 3) := by decide +kernel
theorem dX12_tookFor_49 : decode cX12_tookFor 49 = .ok (.goto (-44), 3) := by decide +kernel
theorem dX12_tookFor_52 : decode cX12_tookFor 52 = .ok (.iload_n 3, 1) := by decide +kernel
theorem dX12_tookFor_53 : decode cX12_tookFor 53 = .ok (.ireturn, 1) := by decide +kernel
theorem dX12_alike_0 : decode cX12_alike 0 = .ok (.aload_n 0, 1) := by decide +kernel
theorem dX12_alike_1 : decode cX12_alike 1 = .ok (.iconst 0, 1) := by decide +kernel
theorem dX12_alike_2 : decode cX12_alike 2 = .ok (.putfield 3, 3) := by decide +kernel
theorem dX12_alike_5 : decode cX12_alike 5 = .ok (.lconst 0, 1) := by decide +kernel
theorem dX12_alike_6 : decode cX12_alike 6 = .ok (.lstore_n 1, 1) := by decide +kernel
theorem dX12_alike_7 : decode cX12_alike 7 = .ok (.lconst 0, 1) := by decide +kernel
theorem dX12_alike_8 : decode cX12_alike 8 = .ok (.lstore_n 3, 1) := by decide +kernel
theorem dX12_alike_9 : decode cX12_alike 9 = .ok (.aload_n 0, 1) := by decide +kernel
theorem dX12_alike_10 : decode cX12_alike 10 = .ok (.getfield 388, 3) := by decide +kernel
theorem dX12_alike_13 : decode cX12_alike 13 = .ok (.i2l, 1) := by decide +kernel
theorem dX12_alike_14 : decode cX12_alike 14 = .ok (.lstore 5, 2) := by decide +kernel
theorem dX12_alike_16 : decode cX12_alike 16 = .ok (.iconst 0, 1) := by decide +kernel
theorem dX12_alike_17 : decode cX12_alike 17 = .ok (.istore 7, 2) := by decide +kernel
theorem dX12_alike_19 : decode cX12_alike 19 = .ok (.iload 7, 2) := by decide +kernel
theorem dX12_alike_21 : decode cX12_alike 21 = .ok (.bipush 8, 2) := by decide +kernel
theorem dX12_alike_23 : decode cX12_alike 23 = .ok (.if_icmp .ge 46, 3) := by decide +kernel
theorem dX12_alike_26 : decode cX12_alike 26 = .ok (.lload_n 1, 1) := by decide +kernel
theorem dX12_alike_27 : decode cX12_alike 27 = .ok (.aload_n 0, 1) := by decide +kernel
theorem dX12_alike_28 : decode cX12_alike 28 = .ok (.getfield 391, 3) := by decide +kernel
theorem dX12_alike_31 : decode cX12_alike 31 = .ok (.bipush 8, 2) := by decide +kernel
theorem dX12_alike_33 : decode cX12_alike 33 = .ok (.iload 7, 2) := by decide +kernel
theorem dX12_alike_35 : decode cX12_alike 35 = .ok (.imul, 1) := by decide +kernel
theorem dX12_alike_36 : decode cX12_alike 36 = .ok (.iload 7, 2) := by decide +kernel
theorem dX12_alike_38 : decode cX12_alike 38 = .ok (.iadd, 1) := by decide +kernel
theorem dX12_alike_39 : decode cX12_alike 39 = .ok (.iaload, 1) := by decide +kernel
theorem dX12_alike_40 : decode cX12_alike 40 = .ok (.i2l, 1) := by decide +kernel
theorem dX12_alike_41 : decode cX12_alike 41 = .ok (.ladd, 1) := by decide +kernel
theorem dX12_alike_42 : decode cX12_alike 42 = .ok (.lstore_n 1, 1) := by decide +kernel
theorem dX12_alike_43 : decode cX12_alike 43 = .ok (.lload_n 3, 1) := by decide +kernel
theorem dX12_alike_44 : decode cX12_alike 44 = .ok (.aload_n 0, 1) := by decide +kernel
theorem dX12_alike_45 : decode cX12_alike 45 = .ok (.iconst 0, 1) := by decide +kernel
theorem dX12_alike_46 : decode cX12_alike 46 = .ok (.iload 7, 2) := by decide +kernel
theorem dX12_alike_48 : decode cX12_alike 48 = .ok (.invokevirtual 394, 3) := by decide +kernel
theorem dX12_alike_51 : decode cX12_alike 51 = .ok (.i2l, 1) := by decide +kernel
theorem dX12_alike_52 : decode cX12_alike 52 = .ok (.aload_n 0, 1) := by decide +kernel
theorem dX12_alike_53 : decode cX12_alike 53 = .ok (.iconst 1, 1) := by decide +kernel
theorem dX12_alike_54 : decode cX12_alike 54 = .ok (.iload 7, 2) := by decide +kernel
theorem dX12_alike_56 : decode cX12_alike 56 = .ok (.invokevirtual 394, 3) := by decide +kernel
theorem dX12_alike_59 : decode cX12_alike 59 = .ok (.i2l, 1) := by decide +kernel
theorem dX12_alike_60 : decode cX12_alike 60 = .ok (.lmul, 1) := by decide +kernel
theorem dX12_alike_61 : decode cX12_alike 61 = .ok (.ladd, 1) := by decide +kernel
theorem dX12_alike_62 : decode cX12_alike 62 = .ok (.lstore_n 3, 1) := by decide +kernel
theorem dX12_alike_63 : decode cX12_alike 63 = .ok (.iinc 7 1, 3) := by decide +kernel
theorem dX12_alike_66 : decode cX12_alike 66 = .ok (.goto (-47), 3) := by decide +kernel
theorem dX12_alike_69 : decode cX12_alike 69 = .ok (.lload 5, 2) := by decide +kernel
theorem dX12_alike_71 : decode cX12_alike 71 = .ok (.lconst 0, 1) := by decide +kernel
theorem dX12_alike_72 : decode cX12_alike 72 = .ok (.lcmp, 1) := by decide +kernel
theorem dX12_alike_73 : decode cX12_alike 73 = .ok (.ifCond .eq 13, 3) := by decide +kernel
theorem dX12_alike_76 : decode cX12_alike 76 = .ok (.lload 5, 2) := by decide +kernel
theorem dX12_alike_78 : decode cX12_alike 78 = .ok (.lload 5, 2) := by decide +kernel
theorem dX12_alike_80 : decode cX12_alike 80 = .ok (.lmul, 1) := by decide +kernel
theorem dX12_alike_81 : decode cX12_alike 81 = .ok (.lload_n 3, 1) := by decide +kernel
theorem dX12_alike_82 : decode cX12_alike 82 = .ok (.lcmp, 1) := by decide +kernel
theorem dX12_alike_83 : decode cX12_alike 83 = .ok (.ifCond .ne 6, 3) := by decide +kernel
theorem dX12_alike_86 : decode cX12_alike 86 = .ok (.bipush (-2), 2) := by decide +kernel
theorem dX12_alike_88 : decode cX12_alike 88 = .ok (.ireturn, 1) := by decide +kernel
theorem dX12_alike_89 : decode cX12_alike 89 = .ok (.aload_n 0, 1) := by decide +kernel
theorem dX12_alike_90 : decode cX12_alike 90 = .ok (.iconst 0, 1) := by decide +kernel
theorem dX12_alike_91 : decode cX12_alike 91 = .ok (.putfield 11, 3) := by decide +kernel
theorem dX12_alike_94 : decode cX12_alike 94 = .ok (.aload_n 0, 1) := by decide +kernel
theorem dX12_alike_95 : decode cX12_alike 95 = .ok (.lload 5, 2) := by decide +kernel
theorem dX12_alike_97 : decode cX12_alike 97 = .ok (.lload_n 1, 1) := by decide +kernel
theorem dX12_alike_98 : decode cX12_alike 98 = .ok (.lmul, 1) := by decide +kernel
theorem dX12_alike_99 : decode cX12_alike 99 = .ok (.lload_n 3, 1) := by decide +kernel
theorem dX12_alike_100 : decode cX12_alike 100 = .ok (.lsub, 1) := by decide +kernel
theorem dX12_alike_101 : decode cX12_alike 101 = .ok (.lload 5, 2) := by decide +kernel
theorem dX12_alike_103 : decode cX12_alike 103 = .ok (.lload 5, 2) := by decide +kernel
theorem dX12_alike_105 : decode cX12_alike 105 = .ok (.lmul, 1) := by decide +kernel
theorem dX12_alike_106 : decode cX12_alike 106 = .ok (.lload_n 3, 1) := by decide +kernel
theorem dX12_alike_107 : decode cX12_alike 107 = .ok (.lsub, 1) := by decide +kernel
theorem dX12_alike_108 : decode cX12_alike 108 = .ok (.invokevirtual 258, 3) := by decide +kernel
theorem dX12_alike_111 : decode cX12_alike 111 = .ok (.lload_n 1, 1) := by decide +kernel
theorem dX12_alike_112 : decode cX12_alike 112 = .ok (.l2i, 1) := by decide +kernel
theorem dX12_alike_113 : decode cX12_alike 113 = .ok (.ireturn, 1) := by decide +kernel
theorem dX12_mixed_0 : decode cX12_mixed 0 = .ok (.aload_n 0, 1) := by decide +kernel
theorem dX12_mixed_1 : decode cX12_mixed 1 = .ok (.iconst 0, 1) := by decide +kernel
theorem dX12_mixed_2 : decode cX12_mixed 2 = .ok (.putfield 3, 3) := by decide +kernel
theorem dX12_mixed_5 : decode cX12_mixed 5 = .ok (.iconst 0, 1) := by decide +kernel
theorem dX12_mixed_6 : decode cX12_mixed 6 = .ok (.istore_n 1, 1) := by decide +kernel
theorem dX12_mixed_7 : decode cX12_mixed 7 = .ok (.iconst 0, 1) := by decide +kernel
theorem dX12_mixed_8 : decode cX12_mixed 8 = .ok (.istore_n 2, 1) := by decide +kernel
theorem dX12_mixed_9 : decode cX12_mixed 9 = .ok (.iconst 0, 1) := by decide +kernel
theorem dX12_mixed_10 : decode cX12_mixed 10 = .ok (.istore_n 3, 1) := by decide +kernel
theorem dX12_mixed_11 : decode cX12_mixed 11 = .ok (.iconst 0, 1) := by decide +kernel
theorem dX12_mixed_12 : decode cX12_mixed 12 = .ok (.istore 4, 2) := by decide +kernel
theorem dX12_mixed_14 : decode cX12_mixed 14 = .ok (.iload 4, 2) := by decide +kernel
theorem dX12_mixed_16 : decode cX12_mixed 16 = .ok (.bipush 8, 2) := by decide +kernel
theorem dX12_mixed_18 : decode cX12_mixed 18 = .ok (.if_icmp .ge 72, 3) := by decide +kernel
theorem dX12_mixed_21 : decode cX12_mixed 21 = .ok (.iload 4, 2) := by decide +kernel
theorem dX12_mixed_23 : decode cX12_mixed 23 = .ok (.iconst 1, 1) := by decide +kernel
theorem dX12_mixed_24 : decode cX12_mixed 24 = .ok (.iadd, 1) := by decide +kernel
theorem dX12_mixed_25 : decode cX12_mixed 25 = .ok (.istore 5, 2) := by decide +kernel
theorem dX12_mixed_27 : decode cX12_mixed 27 = .ok (.iload 5, 2) := by decide +kernel
theorem dX12_mixed_29 : decode cX12_mixed 29 = .ok (.bipush 8, 2) := by decide +kernel
theorem dX12_mixed_31 : decode cX12_mixed 31 = .ok (.if_icmp .ge 53, 3) := by decide +kernel
theorem dX12_mixed_34 : decode cX12_mixed 34 = .ok (.aload_n 0, 1) := by decide +kernel
theorem dX12_mixed_35 : decode cX12_mixed 35 = .ok (.getfield 391, 3) := by decide +kernel
theorem dX12_mixed_38 : decode cX12_mixed 38 = .ok (.bipush 8, 2) := by decide +kernel
theorem dX12_mixed_40 : decode cX12_mixed 40 = .ok (.iload 4, 2) := by decide +kernel
theorem dX12_mixed_42 : decode cX12_mixed 42 = .ok (.imul, 1) := by decide +kernel
theorem dX12_mixed_43 : decode cX12_mixed 43 = .ok (.iload 5, 2) := by decide +kernel
theorem dX12_mixed_45 : decode cX12_mixed 45 = .ok (.iadd, 1) := by decide +kernel
theorem dX12_mixed_46 : decode cX12_mixed 46 = .ok (.iaload, 1) := by decide +kernel
theorem dX12_mixed_47 : decode cX12_mixed 47 = .ok (.aload_n 0, 1) := by decide +kernel
theorem dX12_mixed_48 : decode cX12_mixed 48 = .ok (.getfield 391, 3) := by decide +kernel
theorem dX12_mixed_51 : decode cX12_mixed 51 = .ok (.bipush 8, 2) := by decide +kernel
theorem dX12_mixed_53 : decode cX12_mixed 53 = .ok (.iload 5, 2) := by decide +kernel
theorem dX12_mixed_55 : decode cX12_mixed 55 = .ok (.imul, 1) := by decide +kernel
theorem dX12_mixed_56 : decode cX12_mixed 56 = .ok (.iload 4, 2) := by decide +kernel
theorem dX12_mixed_58 : decode cX12_mixed 58 = .ok (.iadd, 1) := by decide +kernel
theorem dX12_mixed_59 : decode cX12_mixed 59 = .ok (.iaload, 1) := by decide +kernel
theorem dX12_mixed_60 : decode cX12_mixed 60 = .ok (.iadd, 1) := by decide +kernel
theorem dX12_mixed_61 : decode cX12_mixed 61 = .ok (.istore 6, 2) := by decide +kernel
theorem dX12_mixed_63 : decode cX12_mixed 63 = .ok (.iload 6, 2) := by decide +kernel
theorem dX12_mixed_65 : decode cX12_mixed 65 = .ok (.iload_n 1, 1) := by decide +kernel
theorem dX12_mixed_66 : decode cX12_mixed 66 = .ok (.if_icmp .le 12, 3) := by decide +kernel
theorem dX12_mixed_69 : decode cX12_mixed 69 = .ok (.iload 6, 2) := by decide +kernel
theorem dX12_mixed_71 : decode cX12_mixed 71 = .ok (.istore_n 1, 1) := by decide +kernel
theorem dX12_mixed_72 : decode cX12_mixed 72 = .ok (.iload 4, 2) := by decide +kernel
theorem dX12_mixed_74 : decode cX12_mixed 74 = .ok (.istore_n 2, 1) := by decide +kernel
theorem dX12_mixed_75 : decode cX12_mixed 75 = .ok (.iload 5, 2) := by decide +kernel
theorem dX12_mixed_77 : decode cX12_mixed 77 = .ok (.istore_n 3, 1) := by decide +kernel
theorem dX12_mixed_78 : decode cX12_mixed 78 = .ok (.iinc 5 1, 3) := by decide +kernel
theorem dX12_mixed_81 : decode cX12_mixed 81 = .ok (.goto (-54), 3) := by decide +kernel
theorem dX12_mixed_84 : decode cX12_mixed 84 = .ok (.iinc 4 1, 3) := by decide +kernel
theorem dX12_mixed_87 : decode cX12_mixed 87 = .ok (.goto (-73), 3) := by decide +kernel
theorem dX12_mixed_90 : decode cX12_mixed 90 = .ok (.iload_n 1, 1) := by decide +kernel
theorem dX12_mixed_91 : decode cX12_mixed 91 = .ok (.ifCond .le 20, 3) := by decide +kernel
theorem dX12_mixed_94 : decode cX12_mixed 94 = .ok (.aload_n 0, 1) := by decide +kernel
theorem dX12_mixed_95 : decode cX12_mixed 95 = .ok (.iconst 0, 1) := by decide +kernel
theorem dX12_mixed_96 : decode cX12_mixed 96 = .ok (.putfield 11, 3) := by decide +kernel
theorem dX12_mixed_99 : decode cX12_mixed 99 = .ok (.aload_n 0, 1) := by decide +kernel
theorem dX12_mixed_100 : decode cX12_mixed 100 = .ok (.iload_n 2, 1) := by decide +kernel
theorem dX12_mixed_101 : decode cX12_mixed 101 = .ok (.i2l, 1) := by decide +kernel
theorem dX12_mixed_102 : decode cX12_mixed 102 = .ok (.invokevirtual 18, 3) := by decide +kernel
theorem dX12_mixed_105 : decode cX12_mixed 105 = .ok (.aload_n 0, 1) := by decide +kernel
theorem dX12_mixed_106 : decode cX12_mixed 106 = .ok (.iload_n 3, 1) := by decide +kernel
theorem dX12_mixed_107 : decode cX12_mixed 107 = .ok (.i2l, 1) := by decide +kernel
theorem dX12_mixed_108 : decode cX12_mixed 108 = .ok (.invokevirtual 18, 3) := by decide +kernel
theorem dX12_mixed_111 : decode cX12_mixed 111 = .ok (.iload_n 1, 1) := by decide +kernel
theorem dX12_mixed_112 : decode cX12_mixed 112 = .ok (.ireturn, 1) := by decide +kernel
theorem dX12_leans_0 : decode cX12_leans 0 = .ok (.aload_n 0, 1) := by decide +kernel
theorem dX12_leans_1 : decode cX12_leans 1 = .ok (.iconst 0, 1) := by decide +kernel
theorem dX12_leans_2 : decode cX12_leans 2 = .ok (.putfield 3, 3) := by decide +kernel
theorem dX12_leans_5 : decode cX12_leans 5 = .ok (.aload_n 0, 1) := by decide +kernel
theorem dX12_leans_6 : decode cX12_leans 6 = .ok (.iload_n 1, 1) := by decide +kernel
theorem dX12_leans_7 : decode cX12_leans 7 = .ok (.invokevirtual 52, 3) := by decide +kernel
theorem dX12_leans_10 : decode cX12_leans 10 = .ok (.ifCond .ne 10, 3) := by decide +kernel
theorem dX12_leans_13 : decode cX12_leans 13 = .ok (.aload_n 0, 1) := by decide +kernel
theorem dX12_leans_14 : decode cX12_leans 14 = .ok (.iconst 1, 1) := by decide +kernel
theorem dX12_leans_15 : decode cX12_leans 15 = .ok (.putfield 3, 3) := by decide +kernel
theorem dX12_leans_18 : decode cX12_leans 18 = .ok (.iconst 0, 1) := by decide +kernel
theorem dX12_leans_19 : decode cX12_leans 19 = .ok (.ireturn, 1) := by decide +kernel
theorem dX12_leans_20 : decode cX12_leans 20 = .ok (.aload_n 0, 1) := by decide +kernel
theorem dX12_leans_21 : decode cX12_leans 21 = .ok (.iconst 0, 1) := by decide +kernel
theorem dX12_leans_22 : decode cX12_leans 22 = .ok (.iload_n 1, 1) := by decide +kernel
theorem dX12_leans_23 : decode cX12_leans 23 = .ok (.invokevirtual 394, 3) := by decide +kernel
theorem dX12_leans_26 : decode cX12_leans 26 = .ok (.aload_n 0, 1) := by decide +kernel
theorem dX12_leans_27 : decode cX12_leans 27 = .ok (.iconst 1, 1) := by decide +kernel
theorem dX12_leans_28 : decode cX12_leans 28 = .ok (.iload_n 1, 1) := by decide +kernel
theorem dX12_leans_29 : decode cX12_leans 29 = .ok (.invokevirtual 394, 3) := by decide +kernel
theorem dX12_leans_32 : decode cX12_leans 32 = .ok (.isub, 1) := by decide +kernel
theorem dX12_leans_33 : decode cX12_leans 33 = .ok (.ireturn, 1) := by decide +kernel
theorem dX12_truly_0 : decode cX12_truly 0 = .ok (.aload_n 0, 1) := by decide +kernel
theorem dX12_truly_1 : decode cX12_truly 1 = .ok (.iconst 0, 1) := by decide +kernel
theorem dX12_truly_2 : decode cX12_truly 2 = .ok (.putfield 3, 3) := by decide +kernel
theorem dX12_truly_5 : decode cX12_truly 5 = .ok (.aload_n 0, 1) := by decide +kernel
theorem dX12_truly_6 : decode cX12_truly 6 = .ok (.iload_n 1, 1) := by decide +kernel
theorem dX12_truly_7 : decode cX12_truly 7 = .ok (.invokevirtual 52, 3) := by decide +kernel
theorem dX12_truly_10 : decode cX12_truly 10 = .ok (.ifCond .eq 11, 3) := by decide +kernel
theorem dX12_truly_13 : decode cX12_truly 13 = .ok (.aload_n 0, 1) := by decide +kernel
theorem dX12_truly_14 : decode cX12_truly 14 = .ok (.iload_n 2, 1) := by decide +kernel
theorem dX12_truly_15 : decode cX12_truly 15 = .ok (.invokevirtual 85, 3) := by decide +kernel
theorem dX12_truly_18 : decode cX12_truly 18 = .ok (.ifCond .ne 5, 3) := by decide +kernel
theorem dX12_truly_21 : decode cX12_truly 21 = .ok (.iconst (-1), 1) := by decide +kernel
theorem dX12_truly_22 : decode cX12_truly 22 = .ok (.ireturn, 1) := by decide +kernel
theorem dX12_truly_23 : decode cX12_truly 23 = .ok (.aload_n 0, 1) := by decide +kernel
theorem dX12_truly_24 : decode cX12_truly 24 = .ok (.iconst 0, 1) := by decide +kernel
theorem dX12_truly_25 : decode cX12_truly 25 = .ok (.iload_n 1, 1) := by decide +kernel
theorem dX12_truly_26 : decode cX12_truly 26 = .ok (.invokevirtual 394, 3) := by decide +kernel
theorem dX12_truly_29 : decode cX12_truly 29 = .ok (.istore_n 3, 1) := by decide +kernel
theorem dX12_truly_30 : decode cX12_truly 30 = .ok (.aload_n 0, 1) := by decide +kernel
theorem dX12_truly_31 : decode cX12_truly 31 = .ok (.iconst 0, 1) := by decide +kernel
theorem dX12_truly_32 : decode cX12_truly 32 = .ok (.iload_n 2, 1) := by decide +kernel
theorem dX12_truly_33 : decode cX12_truly 33 = .ok (.iload_n 1, 1) := by decide +kernel
theorem dX12_truly_34 : decode cX12_truly 34 = .ok (.invokevirtual 254, 3) := by decide +kernel
theorem dX12_truly_37 : decode cX12_truly 37 = .ok (.ifCond .eq 7, 3) := by decide +kernel
theorem dX12_truly_40 : decode cX12_truly 40 = .ok (.iload_n 3, 1) := by decide +kernel
theorem dX12_truly_41 : decode cX12_truly 41 = .ok (.ifCond .ne 6, 3) := by decide +kernel
theorem dX12_truly_44 : decode cX12_truly 44 = .ok (.bipush (-2), 2) := by decide +kernel
theorem dX12_truly_46 : decode cX12_truly 46 = .ok (.ireturn, 1) := by decide +kernel
theorem dX12_truly_47 : decode cX12_truly 47 = .ok (.iconst 0, 1) := by decide +kernel
theorem dX12_truly_48 : decode cX12_truly 48 = .ok (.istore 4, 2) := by decide +kernel
theorem dX12_truly_50 : decode cX12_truly 50 = .ok (.aload_n 0, 1) := by decide +kernel
theorem dX12_truly_51 : decode cX12_truly 51 = .ok (.iconst 0, 1) := by decide +kernel
theorem dX12_truly_52 : decode cX12_truly 52 = .ok (.putfield 11, 3) := by decide +kernel
theorem dX12_truly_55 : decode cX12_truly 55 = .ok (.iconst 0, 1) := by decide +kernel
theorem dX12_truly_56 : decode cX12_truly 56 = .ok (.istore 5, 2) := by decide +kernel
theorem dX12_truly_58 : decode cX12_truly 58 = .ok (.iload 5, 2) := by decide +kernel
theorem dX12_truly_60 : decode cX12_truly 60 = .ok (.aload_n 0, 1) := by decide +kernel
theorem dX12_truly_61 : decode cX12_truly 61 = .ok (.getfield 22, 3) := by decide +kernel
theorem dX12_truly_64 : decode cX12_truly 64 = .ok (.if_icmp .ge 47, 3) := by decide +kernel
theorem dX12_truly_67 : decode cX12_truly 67 = .ok (.aload_n 0, 1) := by decide +kernel
theorem dX12_truly_68 : decode cX12_truly 68 = .ok (.iconst 0, 1) := by decide +kernel
theorem dX12_truly_69 : decode cX12_truly 69 = .ok (.iload_n 2, 1) := by decide +kernel
theorem dX12_truly_70 : decode cX12_truly 70 = .ok (.iload_n 1, 1) := by decide +kernel
theorem dX12_truly_71 : decode cX12_truly 71 = .ok (.invokevirtual 92, 3) := by decide +kernel
theorem dX12_truly_74 : decode cX12_truly 74 = .ok (.aload_n 0, 1) := by decide +kernel
theorem dX12_truly_75 : decode cX12_truly 75 = .ok (.getfield 391, 3) := by decide +kernel
theorem dX12_truly_78 : decode cX12_truly 78 = .ok (.bipush 8, 2) := by decide +kernel
theorem dX12_truly_80 : decode cX12_truly 80 = .ok (.iload_n 1, 1) := by decide +kernel
theorem dX12_truly_81 : decode cX12_truly 81 = .ok (.imul, 1) := by decide +kernel
theorem dX12_truly_82 : decode cX12_truly 82 = .ok (.iload 5, 2) := by decide +kernel
theorem dX12_truly_84 : decode cX12_truly 84 = .ok (.iadd, 1) := by decide +kernel
theorem dX12_truly_85 : decode cX12_truly 85 = .ok (.iaload, 1) := by decide +kernel
theorem dX12_truly_86 : decode cX12_truly 86 = .ok (.imul, 1) := by decide +kernel
theorem dX12_truly_87 : decode cX12_truly 87 = .ok (.iload_n 3, 1) := by decide +kernel
theorem dX12_truly_88 : decode cX12_truly 88 = .ok (.idiv, 1) := by decide +kernel
theorem dX12_truly_89 : decode cX12_truly 89 = .ok (.istore 6, 2) := by decide +kernel
theorem dX12_truly_91 : decode cX12_truly 91 = .ok (.aload_n 0, 1) := by decide +kernel
theorem dX12_truly_92 : decode cX12_truly 92 = .ok (.iload 6, 2) := by decide +kernel
theorem dX12_truly_94 : decode cX12_truly 94 = .ok (.i2l, 1) := by decide +kernel
theorem dX12_truly_95 : decode cX12_truly 95 = .ok (.invokevirtual 18, 3) := by decide +kernel
theorem dX12_truly_98 : decode cX12_truly 98 = .ok (.iload 4, 2) := by decide +kernel
theorem dX12_truly_100 : decode cX12_truly 100 = .ok (.iload 6, 2) := by decide +kernel
theorem dX12_truly_102 : decode cX12_truly 102 = .ok (.iadd, 1) := by decide +kernel
theorem dX12_truly_103 : decode cX12_truly 103 = .ok (.istore 4, 2) := by decide +kernel
theorem dX12_truly_105 : decode cX12_truly 105 = .ok (.iinc 5 1, 3) := by decide +kernel
theorem dX12_truly_108 : decode cX12_truly 108 = .ok (.goto (-50), 3) := by decide +kernel
theorem dX12_truly_111 : decode cX12_truly 111 = .ok (.iload 4, 2) := by decide +kernel
theorem dX12_truly_113 : decode cX12_truly 113 = .ok (.ireturn, 1) := by decide +kernel
theorem dX12_moved_0 : decode cX12_moved 0 = .ok (.aload_n 0, 1) := by decide +kernel
theorem dX12_moved_1 : decode cX12_moved 1 = .ok (.iconst 0, 1) := by decide +kernel
theorem dX12_moved_2 : decode cX12_moved 2 = .ok (.putfield 3, 3) := by decide +kernel
theorem dX12_moved_5 : decode cX12_moved 5 = .ok (.aload_n 0, 1) := by decide +kernel
theorem dX12_moved_6 : decode cX12_moved 6 = .ok (.iload_n 1, 1) := by decide +kernel
theorem dX12_moved_7 : decode cX12_moved 7 = .ok (.invokevirtual 52, 3) := by decide +kernel
theorem dX12_moved_10 : decode cX12_moved 10 = .ok (.ifCond .eq 10, 3) := by decide +kernel
theorem dX12_moved_13 : decode cX12_moved 13 = .ok (.iload_n 2, 1) := by decide +kernel
theorem dX12_moved_14 : decode cX12_moved 14 = .ok (.invokestatic 68, 3) := by decide +kernel
theorem dX12_moved_17 : decode cX12_moved 17 = .ok (.ifCond .ne 5, 3) := by decide +kernel
theorem dX12_moved_20 : decode cX12_moved 20 = .ok (.iconst (-1), 1) := by decide +kernel
theorem dX12_moved_21 : decode cX12_moved 21 = .ok (.ireturn, 1) := by decide +kernel
theorem dX12_moved_22 : decode cX12_moved 22 = .ok (.iconst 0, 1) := by decide +kernel
theorem dX12_moved_23 : decode cX12_moved 23 = .ok (.istore_n 3, 1) := by decide +kernel
theorem dX12_moved_24 : decode cX12_moved 24 = .ok (.iconst 0, 1) := by decide +kernel
theorem dX12_moved_25 : decode cX12_moved 25 = .ok (.istore 4, 2) := by decide +kernel
theorem dX12_moved_27 : decode cX12_moved 27 = .ok (.iconst 0, 1) := by decide +kernel
theorem dX12_moved_28 : decode cX12_moved 28 = .ok (.istore 5, 2) := by decide +kernel
theorem dX12_moved_30 : decode cX12_moved 30 = .ok (.iconst 0, 1) := by decide +kernel
theorem dX12_moved_31 : decode cX12_moved 31 = .ok (.istore 6, 2) := by decide +kernel
theorem dX12_moved_33 : decode cX12_moved 33 = .ok (.iconst 0, 1) := by decide +kernel
theorem dX12_moved_34 : decode cX12_moved 34 = .ok (.istore 7, 2) := by decide +kernel
theorem dX12_moved_36 : decode cX12_moved 36 = .ok (.iload 7, 2) := by decide +kernel
theorem dX12_moved_38 : decode cX12_moved 38 = .ok (.aload_n 0, 1) := by decide +kernel
theorem dX12_moved_39 : decode cX12_moved 39 = .ok (.getfield 29, 3) := by decide +kernel
theorem dX12_moved_42 : decode cX12_moved 42 = .ok (.if_icmp .ge 144, 3) := by decide +kernel
theorem dX12_moved_45 : decode cX12_moved 45 = .ok (.bipush 12, 2) := by decide +kernel
theorem dX12_moved_47 : decode cX12_moved 47 = .ok (.iload 7, 2) := by decide +kernel
theorem dX12_moved_49 : decode cX12_moved 49 = .ok (.imul, 1) := by decide +kernel
theorem dX12_moved_50 : decode cX12_moved 50 = .ok (.iload_n 2, 1) := by decide +kernel
theorem dX12_moved_51 : decode cX12_moved 51 = .ok (.iadd, 1) := by decide +kernel
theorem dX12_moved_52 : decode cX12_moved 52 = .ok (.istore 8, 2) := by decide +kernel
theorem dX12_moved_54 : decode cX12_moved 54 = .ok (.aload_n 0, 1) := by decide +kernel
theorem dX12_moved_55 : decode cX12_moved 55 = .ok (.iconst 0, 1) := by decide +kernel
theorem dX12_moved_56 : decode cX12_moved 56 = .ok (.iload 8, 2) := by decide +kernel
theorem dX12_moved_58 : decode cX12_moved 58 = .ok (.iload_n 1, 1) := by decide +kernel
theorem dX12_moved_59 : decode cX12_moved 59 = .ok (.invokevirtual 254, 3) := by decide +kernel
theorem dX12_moved_62 : decode cX12_moved 62 = .ok (.ifCond .eq 118, 3) := by decide +kernel
theorem dX12_moved_65 : decode cX12_moved 65 = .ok (.aload_n 0, 1) := by decide +kernel
theorem dX12_moved_66 : decode cX12_moved 66 = .ok (.iconst 1, 1) := by decide +kernel
theorem dX12_moved_67 : decode cX12_moved 67 = .ok (.iload 8, 2) := by decide +kernel
theorem dX12_moved_69 : decode cX12_moved 69 = .ok (.iload_n 1, 1) := by decide +kernel
theorem dX12_moved_70 : decode cX12_moved 70 = .ok (.invokevirtual 254, 3) := by decide +kernel
theorem dX12_moved_73 : decode cX12_moved 73 = .ok (.ifCond .eq 107, 3) := by decide +kernel
theorem dX12_moved_76 : decode cX12_moved 76 = .ok (.aload_n 0, 1) := by decide +kernel
theorem dX12_moved_77 : decode cX12_moved 77 = .ok (.iconst 0, 1) := by decide +kernel
theorem dX12_moved_78 : decode cX12_moved 78 = .ok (.iload 8, 2) := by decide +kernel
theorem dX12_moved_80 : decode cX12_moved 80 = .ok (.iload_n 1, 1) := by decide +kernel
theorem dX12_moved_81 : decode cX12_moved 81 = .ok (.invokevirtual 92, 3) := by decide +kernel
theorem dX12_moved_84 : decode cX12_moved 84 = .ok (.aload_n 0, 1) := by decide +kernel
theorem dX12_moved_85 : decode cX12_moved 85 = .ok (.iconst 1, 1) := by decide +kernel
theorem dX12_moved_86 : decode cX12_moved 86 = .ok (.iload 8, 2) := by decide +kernel
theorem dX12_moved_88 : decode cX12_moved 88 = .ok (.iload_n 1, 1) := by decide +kernel
theorem dX12_moved_89 : decode cX12_moved 89 = .ok (.invokevirtual 92, 3) := by decide +kernel
theorem dX12_moved_92 : decode cX12_moved 92 = .ok (.isub, 1) := by decide +kernel
theorem dX12_moved_93 : decode cX12_moved 93 = .ok (.istore 9, 2) := by decide +kernel
theorem dX12_moved_95 : decode cX12_moved 95 = .ok (.aload_n 0, 1) := by decide +kernel
theorem dX12_moved_96 : decode cX12_moved 96 = .ok (.iconst 1, 1) := by decide +kernel
theorem dX12_moved_97 : decode cX12_moved 97 = .ok (.iload 8, 2) := by decide +kernel
theorem dX12_moved_99 : decode cX12_moved 99 = .ok (.iload_n 1, 1) := by decide +kernel
theorem dX12_moved_100 : decode cX12_moved 100 = .ok (.invokevirtual 92, 3) := by decide +kernel
theorem dX12_moved_103 : decode cX12_moved 103 = .ok (.aload_n 0, 1) := by decide +kernel
theorem dX12_moved_104 : decode cX12_moved 104 = .ok (.getfield 42, 3) := by decide +kernel
theorem dX12_moved_107 : decode cX12_moved 107 = .ok (.iload_n 1, 1) := by decide +kernel
theorem dX12_moved_108 : decode cX12_moved 108 = .ok (.iaload, 1) := by decide +kernel
theorem dX12_moved_109 : decode cX12_moved 109 = .ok (.imul, 1) := by decide +kernel
theorem dX12_moved_110 : decode cX12_moved 110 = .ok (.bipush 100, 2) := by decide +kernel
theorem dX12_moved_112 : decode cX12_moved 112 = .ok (.idiv, 1) := by decide +kernel
theorem dX12_moved_113 : decode cX12_moved 113 = .ok (.aload_n 0, 1) := by decide +kernel
theorem dX12_moved_114 : decode cX12_moved 114 = .ok (.iconst 0, 1) := by decide +kernel
theorem dX12_moved_115 : decode cX12_moved 115 = .ok (.iload 8, 2) := by decide +kernel
theorem dX12_moved_117 : decode cX12_moved 117 = .ok (.iload_n 1, 1) := by decide +kernel
theorem dX12_moved_118 : decode cX12_moved 118 = .ok (.invokevirtual 92, 3) := by decide +kernel
theorem dX12_moved_121 : decode cX12_moved 121 = .ok (.isub, 1) := by decide +kernel
theorem dX12_moved_122 : decode cX12_moved 122 = .ok (.istore 10, 2) := by decide +kernel
theorem dX12_moved_124 : decode cX12_moved 124 = .ok (.iload_n 3, 1) := by decide +kernel
theorem dX12_moved_125 : decode cX12_moved 125 = .ok (.iconst 0, 1) := by decide +kernel
theorem dX12_moved_126 : decode cX12_moved 126 = .ok (.iload 9, 2) := by decide +kernel
theorem dX12_moved_128 : decode cX12_moved 128 = .ok (.invokestatic 233, 3) := by decide +kernel
theorem dX12_moved_131 : decode cX12_moved 131 = .ok (.iadd, 1) := by decide +kernel
theorem dX12_moved_132 : decode cX12_moved 132 = .ok (.istore_n 3, 1) := by decide +kernel
theorem dX12_moved_133 : decode cX12_moved 133 = .ok (.iload 4, 2) := by decide +kernel
theorem dX12_moved_135 : decode cX12_moved 135 = .ok (.iconst 0, 1) := by decide +kernel
theorem dX12_moved_136 : decode cX12_moved 136 = .ok (.iload 10, 2) := by decide +kernel
theorem dX12_moved_138 : decode cX12_moved 138 = .ok (.invokestatic 233, 3) := by decide +kernel
theorem dX12_moved_141 : decode cX12_moved 141 = .ok (.iadd, 1) := by decide +kernel
theorem dX12_moved_142 : decode cX12_moved 142 = .ok (.istore 4, 2) := by decide +kernel
theorem dX12_moved_144 : decode cX12_moved 144 = .ok (.iload 5, 2) := by decide +kernel
theorem dX12_moved_146 : decode cX12_moved 146 = .ok (.iload 9, 2) := by decide +kernel
theorem dX12_moved_148 : decode cX12_moved 148 = .ok (.ifCond .le 10, 3) := by decide +kernel
theorem dX12_moved_151 : decode cX12_moved 151 = .ok (.iconst 1, 1) := by decide +kernel
theorem dX12_moved_152 : decode cX12_moved 152 = .ok (.iload 7, 2) := by decide +kernel
theorem dX12_moved_154 : decode cX12_moved 154 = .ok (.ishl, 1) := by decide +kernel
theorem dX12_moved_155 : decode cX12_moved 155 = .ok (.goto 4, 3) := by decide +kernel
theorem dX12_moved_158 : decode cX12_moved 158 = .ok (.iconst 0, 1) := by decide +kernel
theorem dX12_moved_159 : decode cX12_moved 159 = .ok (.ior, 1) := by decide +kernel
theorem dX12_moved_160 : decode cX12_moved 160 = .ok (.istore 5, 2) := by decide +kernel
theorem dX12_moved_162 : decode cX12_moved 162 = .ok (.iload 6, 2) := by decide +kernel
theorem dX12_moved_164 : decode cX12_moved 164 = .ok (.iload 10, 2) := by decide +kernel
theorem dX12_moved_166 : decode cX12_moved 166 = .ok (.ifCond .le 10, 3) := by decide +kernel
theorem dX12_moved_169 : decode cX12_moved 169 = .ok (.iconst 1, 1) := by decide +kernel
theorem dX12_moved_170 : decode cX12_moved 170 = .ok (.iload 7, 2) := by decide +kernel
theorem dX12_moved_172 : decode cX12_moved 172 = .ok (.ishl, 1) := by decide +kernel
theorem dX12_moved_173 : decode cX12_moved 173 = .ok (.goto 4, 3) := by decide +kernel
theorem dX12_moved_176 : decode cX12_moved 176 = .ok (.iconst 0, 1) := by decide +kernel
theorem dX12_moved_177 : decode cX12_moved 177 = .ok (.ior, 1) := by decide +kernel
theorem dX12_moved_178 : decode cX12_moved 178 = .ok (.istore 6, 2) := by decide +kernel
theorem dX12_moved_180 : decode cX12_moved 180 = .ok (.iinc 7 1, 3) := by decide +kernel
theorem dX12_moved_183 : decode cX12_moved 183 = .ok (.goto (-147), 3) := by decide +kernel
theorem dX12_moved_186 : decode cX12_moved 186 = .ok (.aload_n 0, 1) := by decide +kernel
theorem dX12_moved_187 : decode cX12_moved 187 = .ok (.iconst 0, 1) := by decide +kernel
theorem dX12_moved_188 : decode cX12_moved 188 = .ok (.putfield 11, 3) := by decide +kernel
theorem dX12_moved_191 : decode cX12_moved 191 = .ok (.aload_n 0, 1) := by decide +kernel
theorem dX12_moved_192 : decode cX12_moved 192 = .ok (.iload 4, 2) := by decide +kernel
theorem dX12_moved_194 : decode cX12_moved 194 = .ok (.i2l, 1) := by decide +kernel
theorem dX12_moved_195 : decode cX12_moved 195 = .ok (.invokevirtual 18, 3) := by decide +kernel
theorem dX12_moved_198 : decode cX12_moved 198 = .ok (.aload_n 0, 1) := by decide +kernel
theorem dX12_moved_199 : decode cX12_moved 199 = .ok (.iload 5, 2) := by decide +kernel
theorem dX12_moved_201 : decode cX12_moved 201 = .ok (.i2l, 1) := by decide +kernel
theorem dX12_moved_202 : decode cX12_moved 202 = .ok (.invokevirtual 18, 3) := by decide +kernel
theorem dX12_moved_205 : decode cX12_moved 205 = .ok (.aload_n 0, 1) := by decide +kernel
theorem dX12_moved_206 : decode cX12_moved 206 = .ok (.iload 6, 2) := by decide +kernel
theorem dX12_moved_208 : decode cX12_moved 208 = .ok (.i2l, 1) := by decide +kernel
theorem dX12_moved_209 : decode cX12_moved 209 = .ok (.invokevirtual 18, 3) := by decide +kernel
theorem dX12_moved_212 : decode cX12_moved 212 = .ok (.iload_n 3, 1) := by decide +kernel
theorem dX12_moved_213 : decode cX12_moved 213 = .ok (.ireturn, 1) := by decide +kernel
theorem dX12_feasts_0 : decode cX12_feasts 0 = .ok (.aload_n 0, 1) := by decide +kernel
theorem dX12_feasts_1 : decode cX12_feasts 1 = .ok (.iconst 0, 1) := by decide +kernel
theorem dX12_feasts_2 : decode cX12_feasts 2 = .ok (.putfield 3, 3) := by decide +kernel
theorem dX12_feasts_5 : decode cX12_feasts 5 = .ok (.aload_n 0, 1) := by decide +kernel
theorem dX12_feasts_6 : decode cX12_feasts 6 = .ok (.iload_n 1, 1) := by decide +kernel
theorem dX12_feasts_7 : decode cX12_feasts 7 = .ok (.invokevirtual 236, 3) := by decide +kernel
theorem dX12_feasts_10 : decode cX12_feasts 10 = .ok (.ifCond .ne 5, 3) := by decide +kernel
theorem dX12_feasts_13 : decode cX12_feasts 13 = .ok (.iconst (-1), 1) := by decide +kernel
theorem dX12_feasts_14 : decode cX12_feasts 14 = .ok (.ireturn, 1) := by decide +kernel
theorem dX12_feasts_15 : decode cX12_feasts 15 = .ok (.iconst 0, 1) := by decide +kernel
theorem dX12_feasts_16 : decode cX12_feasts 16 = .ok (.istore_n 2, 1) := by decide +kernel
theorem dX12_feasts_17 : decode cX12_feasts 17 = .ok (.iconst 0, 1) := by decide +kernel
theorem dX12_feasts_18 : decode cX12_feasts 18 = .ok (.istore_n 3, 1) := by decide +kernel
theorem dX12_feasts_19 : decode cX12_feasts 19 = .ok (.iload_n 3, 1) := by decide +kernel
theorem dX12_feasts_20 : decode cX12_feasts 20 = .ok (.bipush 12, 2) := by decide +kernel
theorem dX12_feasts_22 : decode cX12_feasts 22 = .ok (.if_icmp .ge 153, 3) := by decide +kernel
theorem dX12_feasts_25 : decode cX12_feasts 25 = .ok (.aload_n 0, 1) := by decide +kernel
theorem dX12_feasts_26 : decode cX12_feasts 26 = .ok (.getfield 397, 3) := by decide +kernel
theorem dX12_feasts_29 : decode cX12_feasts 29 = .ok (.iload_n 3, 1) := by decide +kernel
theorem dX12_feasts_30 : decode cX12_feasts 30 = .ok (.iconst (-1), 1) := by decide +kernel
theorem dX12_feasts_31 : decode cX12_feasts 31 = .ok (.iastore, 1) := by decide +kernel
theorem dX12_feasts_32 : decode cX12_feasts 32 = .ok (.iconst 0, 1) := by decide +kernel
theorem dX12_feasts_33 : decode cX12_feasts 33 = .ok (.istore 4, 2) := by decide +kernel
theorem dX12_feasts_35 : decode cX12_feasts 35 = .ok (.iload 4, 2) := by decide +kernel
theorem dX12_feasts_37 : decode cX12_feasts 37 = .ok (.aload_n 0, 1) := by decide +kernel
theorem dX12_feasts_38 : decode cX12_feasts 38 = .ok (.getfield 22, 3) := by decide +kernel
theorem dX12_feasts_41 : decode cX12_feasts 41 = .ok (.if_icmp .ge 55, 3) := by decide +kernel
theorem dX12_feasts_44 : decode cX12_feasts 44 = .ok (.aload_n 0, 1) := by decide +kernel
theorem dX12_feasts_45 : decode cX12_feasts 45 = .ok (.iconst 0, 1) := by decide +kernel
theorem dX12_feasts_46 : decode cX12_feasts 46 = .ok (.bipush 12, 2) := by decide +kernel
theorem dX12_feasts_48 : decode cX12_feasts 48 = .ok (.iload_n 1, 1) := by decide +kernel
theorem dX12_feasts_49 : decode cX12_feasts 49 = .ok (.imul, 1) := by decide +kernel
theorem dX12_feasts_50 : decode cX12_feasts 50 = .ok (.iload_n 3, 1) := by decide +kernel
theorem dX12_feasts_51 : decode cX12_feasts 51 = .ok (.iadd, 1) := by decide +kernel
theorem dX12_feasts_52 : decode cX12_feasts 52 = .ok (.iload 4, 2) := by decide +kernel
theorem dX12_feasts_54 : decode cX12_feasts 54 = .ok (.invokevirtual 254, 3) := by decide +kernel
theorem dX12_feasts_57 : decode cX12_feasts 57 = .ok (.ifCond .eq 33, 3) := by decide +kernel
theorem dX12_feasts_60 : decode cX12_feasts 60 = .ok (.aload_n 0, 1) := by decide +kernel
theorem dX12_feasts_61 : decode cX12_feasts 61 = .ok (.getfield 397, 3) := by decide +kernel
theorem dX12_feasts_64 : decode cX12_feasts 64 = .ok (.iload_n 3, 1) := by decide +kernel
theorem dX12_feasts_65 : decode cX12_feasts 65 = .ok (.iconst 0, 1) := by decide +kernel
theorem dX12_feasts_66 : decode cX12_feasts 66 = .ok (.aload_n 0, 1) := by decide +kernel
theorem dX12_feasts_67 : decode cX12_feasts 67 = .ok (.getfield 397, 3) := by decide +kernel
theorem dX12_feasts_70 : decode cX12_feasts 70 = .ok (.iload_n 3, 1) := by decide +kernel
theorem dX12_feasts_71 : decode cX12_feasts 71 = .ok (.iaload, 1) := by decide +kernel
theorem dX12_feasts_72 : decode cX12_feasts 72 = .ok (.invokestatic 233, 3) := by decide +kernel
theorem dX12_feasts_75 : decode cX12_feasts 75 = .ok (.aload_n 0, 1) := by decide +kernel
theorem dX12_feasts_76 : decode cX12_feasts 76 = .ok (.iconst 0, 1) := by decide +kernel
theorem dX12_feasts_77 : decode cX12_feasts 77 = .ok (.bipush 12, 2) := by decide +kernel
theorem dX12_feasts_79 : decode cX12_feasts 79 = .ok (.iload_n 1, 1) := by decide +kernel
theorem dX12_feasts_80 : decode cX12_feasts 80 = .ok (.imul, 1) := by decide +kernel
theorem dX12_feasts_81 : decode cX12_feasts 81 = .ok (.iload_n 3, 1) := by decide +kernel
theorem dX12_feasts_82 : decode cX12_feasts 82 = .ok (.iadd, 1) := by decide +kernel
theorem dX12_feasts_83 : decode cX12_feasts 83 = .ok (.iload 4, 2) := by decide +kernel
theorem dX12_feasts_85 : decode cX12_feasts 85 = .ok (.invokevirtual 92, 3) := by decide +kernel
theorem dX12_feasts_88 : decode cX12_feasts 88 = .ok (.iadd, 1) := by decide +kernel
theorem dX12_feasts_89 : decode cX12_feasts 89 = .ok (.iastore, 1) := by decide +kernel
theorem dX12_feasts_90 : decode cX12_feasts 90 = .ok (.iinc 4 1, 3) := by decide +kernel
theorem dX12_feasts_93 : decode cX12_feasts 93 = .ok (.goto (-58), 3) := by decide +kernel
theorem dX12_feasts_96 : decode cX12_feasts 96 = .ok (.aload_n 0, 1) := by decide +kernel
theorem dX12_feasts_97 : decode cX12_feasts 97 = .ok (.getfield 397, 3) := by decide +kernel
theorem dX12_feasts_100 : decode cX12_feasts 100 = .ok (.iload_n 3, 1) := by decide +kernel
theorem dX12_feasts_101 : decode cX12_feasts 101 = .ok (.iaload, 1) := by decide +kernel
theorem dX12_feasts_102 : decode cX12_feasts 102 = .ok (.ifCond .lt 67, 3) := by decide +kernel
theorem dX12_feasts_105 : decode cX12_feasts 105 = .ok (.iload_n 2, 1) := by decide +kernel
theorem dX12_feasts_106 : decode cX12_feasts 106 = .ok (.istore 4, 2) := by decide +kernel
theorem dX12_feasts_108 : decode cX12_feasts 108 = .ok (.iload 4, 2) := by decide +kernel
theorem dX12_feasts_110 : decode cX12_feasts 110 = .ok (.ifCond .le 43, 3) := by decide +kernel
theorem dX12_feasts_113 : decode cX12_feasts 113 = .ok (.aload_n 0, 1) := by decide +kernel
theorem dX12_feasts_114 : decode cX12_feasts 114 = .ok (.getfield 400, 3) := by decide +kernel
theorem dX12_feasts_117 : decode cX12_feasts 117 = .ok (.iload 4, 2) := by decide +kernel
theorem dX12_feasts_119 : decode cX12_feasts 119 = .ok (.iconst 1, 1) := by decide +kernel
theorem dX12_feasts_120 : decode cX12_feasts 120 = .ok (.isub, 1) := by decide +kernel
theorem dX12_feasts_121 : decode cX12_feasts 121 = .ok (.iaload, 1) := by decide +kernel
theorem dX12_feasts_122 : decode cX12_feasts 122 = .ok (.aload_n 0, 1) := by decide +kernel
theorem dX12_feasts_123 : decode cX12_feasts 123 = .ok (.getfield 397, 3) := by decide +kernel
theorem dX12_feasts_126 : decode cX12_feasts 126 = .ok (.iload_n 3, 1) := by decide +kernel
theorem dX12_feasts_127 : decode cX12_feasts 127 = .ok (.iaload, 1) := by decide +kernel
theorem dX12_feasts_128 : decode cX12_feasts 128 = .ok (.if_icmp .le 25, 3) := by decide +kernel
theorem dX12_feasts_131 : decode cX12_feasts 131 = .ok (.aload_n 0, 1) := by decide +kernel
theorem dX12_feasts_132 : decode cX12_feasts 132 = .ok (.getfield 400, 3) := by decide +kernel
theorem dX12_feasts_135 : decode cX12_feasts 135 = .ok (.iload 4, 2) := by decide +kernel
theorem dX12_feasts_137 : decode cX12_feasts 137 = .ok (.aload_n 0, 1) := by decide +kernel
theorem dX12_feasts_138 : decode cX12_feasts 138 = .ok (.getfield 400, 3) := by decide +kernel
theorem dX12_feasts_141 : decode cX12_feasts 141 = .ok (.iload 4, 2) := by decide +kernel
theorem dX12_feasts_143 : decode cX12_feasts 143 = .ok (.iconst 1, 1) := by decide +kernel
theorem dX12_feasts_144 : decode cX12_feasts 144 = .ok (.isub, 1) := by decide +kernel
theorem dX12_feasts_145 : decode cX12_feasts 145 = .ok (.iaload, 1) := by decide +kernel
theorem dX12_feasts_146 : decode cX12_feasts 146 = .ok (.iastore, 1) := by decide +kernel
theorem dX12_feasts_147 : decode cX12_feasts 147 = .ok (.iinc 4 (-1), 3) := by decide +kernel
theorem dX12_feasts_150 : decode cX12_feasts 150 = .ok (.goto (-42), 3) := by decide +kernel
theorem dX12_feasts_153 : decode cX12_feasts 153 = .ok (.aload_n 0, 1) := by decide +kernel
theorem dX12_feasts_154 : decode cX12_feasts 154 = .ok (.getfield 400, 3) := by decide +kernel
theorem dX12_feasts_157 : decode cX12_feasts 157 = .ok (.iload 4, 2) := by decide +kernel
theorem dX12_feasts_159 : decode cX12_feasts 159 = .ok (.aload_n 0, 1) := by decide +kernel
theorem dX12_feasts_160 : decode cX12_feasts 160 = .ok (.getfield 397, 3) := by decide +kernel
theorem dX12_feasts_163 : decode cX12_feasts 163 = .ok (.iload_n 3, 1) := by decide +kernel
theorem dX12_feasts_164 : decode cX12_feasts 164 = .ok (.iaload, 1) := by decide +kernel
theorem dX12_feasts_165 : decode cX12_feasts 165 = .ok (.iastore, 1) := by decide +kernel
theorem dX12_feasts_166 : decode cX12_feasts 166 = .ok (.iinc 2 1, 3) := by decide +kernel
theorem dX12_feasts_169 : decode cX12_feasts 169 = .ok (.iinc 3 1, 3) := by decide +kernel
theorem dX12_feasts_172 : decode cX12_feasts 172 = .ok (.goto (-153), 3) := by decide +kernel
theorem dX12_feasts_175 : decode cX12_feasts 175 = .ok (.iconst 0, 1) := by decide +kernel
theorem dX12_feasts_176 : decode cX12_feasts 176 = .ok (.istore_n 3, 1) := by decide +kernel
theorem dX12_feasts_177 : decode cX12_feasts 177 = .ok (.iconst 0, 1) := by decide +kernel
theorem dX12_feasts_178 : decode cX12_feasts 178 = .ok (.istore 4, 2) := by decide +kernel
theorem dX12_feasts_180 : decode cX12_feasts 180 = .ok (.iload 4, 2) := by decide +kernel
theorem dX12_feasts_182 : decode cX12_feasts 182 = .ok (.bipush 12, 2) := by decide +kernel
theorem dX12_feasts_184 : decode cX12_feasts 184 = .ok (.if_icmp .ge 46, 3) := by decide +kernel
theorem dX12_feasts_187 : decode cX12_feasts 187 = .ok (.iload_n 2, 1) := by decide +kernel
theorem dX12_feasts_188 : decode cX12_feasts 188 = .ok (.ifCond .le 42, 3) := by decide +kernel
theorem dX12_feasts_191 : decode cX12_feasts 191 = .ok (.iload_n 3, 1) := by decide +kernel
theorem dX12_feasts_192 : decode cX12_feasts 192 = .ok (.aload_n 0, 1) := by decide +kernel
theorem dX12_feasts_193 : decode cX12_feasts 193 = .ok (.getfield 397, 3) := by decide +kernel
theorem dX12_feasts_196 : decode cX12_feasts 196 = .ok (.iload 4, 2) := by decide +kernel
theorem dX12_feasts_198 : decode cX12_feasts 198 = .ok (.iaload, 1) := by decide +kernel
theorem dX12_feasts_199 : decode cX12_feasts 199 = .ok (.iconst 2, 1) := by decide +kernel
theorem dX12_feasts_200 : decode cX12_feasts 200 = .ok (.aload_n 0, 1) := by decide +kernel
theorem dX12_feasts_201 : decode cX12_feasts 201 = .ok (.getfield 400, 3) := by decide +kernel
theorem dX12_feasts_204 : decode cX12_feasts 204 = .ok (.iload_n 2, 1) := by decide +kernel
theorem dX12_feasts_205 : decode cX12_feasts 205 = .ok (.iconst 1, 1) := by decide +kernel
theorem dX12_feasts_206 : decode cX12_feasts 206 = .ok (.isub, 1) := by decide +kernel
theorem dX12_feasts_207 : decode cX12_feasts 207 = .ok (.iconst 2, 1) := by decide +kernel
theorem dX12_feasts_208 : decode cX12_feasts 208 = .ok (.idiv, 1) := by decide +kernel
theorem dX12_feasts_209 : decode cX12_feasts 209 = .ok (.iaload, 1) := by decide +kernel
theorem dX12_feasts_210 : decode cX12_feasts 210 = .ok (.imul, 1) := by decide +kernel
theorem dX12_feasts_211 : decode cX12_feasts 211 = .ok (.if_icmp .le 10, 3) := by decide +kernel
theorem dX12_feasts_214 : decode cX12_feasts 214 = .ok (.iconst 1, 1) := by decide +kernel
theorem dX12_feasts_215 : decode cX12_feasts 215 = .ok (.iload 4, 2) := by decide +kernel
theorem dX12_feasts_217 : decode cX12_feasts 217 = .ok (.ishl, 1) := by decide +kernel
theorem dX12_feasts_218 : decode cX12_feasts 218 = .ok (.goto 4, 3) := by decide +kernel
theorem dX12_feasts_221 : decode cX12_feasts 221 = .ok (.iconst 0, 1) := by decide +kernel
theorem dX12_feasts_222 : decode cX12_feasts 222 = .ok (.ior, 1) := by decide +kernel
theorem dX12_feasts_223 : decode cX12_feasts 223 = .ok (.istore_n 3, 1) := by decide +kernel
theorem dX12_feasts_224 : decode cX12_feasts 224 = .ok (.iinc 4 1, 3) := by decide +kernel
theorem dX12_feasts_227 : decode cX12_feasts 227 = .ok (.goto (-47), 3) := by decide +kernel
theorem dX12_feasts_230 : decode cX12_feasts 230 = .ok (.iload_n 3, 1) := by decide +kernel
theorem dX12_feasts_231 : decode cX12_feasts 231 = .ok (.ireturn, 1) := by decide +kernel
theorem dX12_takesMean_0 : decode cX12_takesMean 0 = .ok (.lconst 0, 1) := by decide +kernel
theorem dX12_takesMean_1 : decode cX12_takesMean 1 = .ok (.lstore 6, 2) := by decide +kernel
theorem dX12_takesMean_3 : decode cX12_takesMean 3 = .ok (.iconst 0, 1) := by decide +kernel
theorem dX12_takesMean_4 : decode cX12_takesMean 4 = .ok (.istore 8, 2) := by decide +kernel
theorem dX12_takesMean_6 : decode cX12_takesMean 6 = .ok (.iconst 0, 1) := by decide +kernel
theorem dX12_takesMean_7 : decode cX12_takesMean 7 = .ok (.istore 9, 2) := by decide +kernel
theorem dX12_takesMean_9 : decode cX12_takesMean 9 = .ok (.iload 9, 2) := by decide +kernel
theorem dX12_takesMean_11 : decode cX12_takesMean 11 = .ok (.iload 5, 2) := by decide +kernel
theorem dX12_takesMean_13 : decode cX12_takesMean 13 = .ok (.if_icmp .ge 47, 3) := by decide +kernel
theorem dX12_takesMean_16 : decode cX12_takesMean 16 = .ok (.aload_n 0, 1) := by decide +kernel
theorem dX12_takesMean_17 : decode cX12_takesMean 17 = .ok (.iload_n 1, 1) := by decide +kernel
theorem dX12_takesMean_18 : decode cX12_takesMean 18 = .ok (.iload_n 3, 1) := by decide +kernel
theorem dX12_takesMean_19 : decode cX12_takesMean 19 = .ok (.iload 9, 2) := by decide +kernel
theorem dX12_takesMean_21 : decode cX12_takesMean 21 = .ok (.iload 4, 2) := by decide +kernel
theorem dX12_takesMean_23 : decode cX12_takesMean 23 = .ok (.imul, 1) := by decide +kernel
theorem dX12_takesMean_24 : decode cX12_takesMean 24 = .ok (.iadd, 1) := by decide +kernel
theorem dX12_takesMean_25 : decode cX12_takesMean 25 = .ok (.iload_n 2, 1) := by decide +kernel
theorem dX12_takesMean_26 : decode cX12_takesMean 26 = .ok (.invokevirtual 254, 3) := by decide +kernel
theorem dX12_takesMean_29 : decode cX12_takesMean 29 = .ok (.ifCond .eq 25, 3) := by decide +kernel
theorem dX12_takesMean_32 : decode cX12_takesMean 32 = .ok (.lload 6, 2) := by decide +kernel
theorem dX12_takesMean_34 : decode cX12_takesMean 34 = .ok (.aload_n 0, 1) := by decide +kernel
theorem dX12_takesMean_35 : decode cX12_takesMean 35 = .ok (.iload_n 1, 1) := by decide +kernel
theorem dX12_takesMean_36 : decode cX12_takesMean 36 = .ok (.iload_n 3, 1) := by decide +kernel
theorem dX12_takesMean_37 : decode cX12_takesMean 37 = .ok (.iload 9, 2) := by decide +kernel
theorem dX12_takesMean_39 : decode cX12_takesMean 39 = .ok (.iload 4, 2) := by decide +kernel
theorem dX12_takesMean_41 : decode cX12_takesMean 41 = .ok (.imul, 1) := by decide +kernel
theorem dX12_takesMean_42 : decode cX12_takesMean 42 = .ok (.iadd, 1) := by decide +kernel
theorem dX12_takesMean_43 : decode cX12_takesMean 43 = .ok (.iload_n 2, 1) := by decide +kernel
theorem dX12_takesMean_44 : decode cX12_takesMean 44 = .ok (.invokevirtual 92, 3) := by decide +kernel
theorem dX12_takesMean_47 : decode cX12_takesMean 47 = .ok (.i2l, 1) := by decide +kernel
theorem dX12_takesMean_48 : decode cX12_takesMean 48 = .ok (.ladd, 1) := by decide +kernel
theorem dX12_takesMean_49 : decode cX12_takesMean 49 = .ok (.lstore 6, 2) := by decide +kernel
theorem dX12_takesMean_51 : decode cX12_takesMean 51 = .ok (.iinc 8 1, 3) := by decide +kernel
theorem dX12_takesMean_54 : decode cX12_takesMean 54 = .ok (.iinc 9 1, 3) := by decide +kernel
theorem dX12_takesMean_57 : decode cX12_takesMean 57 = .ok (.goto (-48), 3) := by decide +kernel
theorem dX12_takesMean_60 : decode cX12_takesMean 60 = .ok (.iload 8, 2) := by decide +kernel
theorem dX12_takesMean_62 : decode cX12_takesMean 62 = .ok (.ifCond .le 32, 3) := by decide +kernel
theorem dX12_takesMean_65 : decode cX12_takesMean 65 = .ok (.aload_n 0, 1) := by decide +kernel
theorem dX12_takesMean_66 : decode cX12_takesMean 66 = .ok (.getfield 403, 3) := by decide +kernel
theorem dX12_takesMean_69 : decode cX12_takesMean 69 = .ok (.aload_n 0, 1) := by decide +kernel
theorem dX12_takesMean_70 : decode cX12_takesMean 70 = .ok (.getfield 406, 3) := by decide +kernel
theorem dX12_takesMean_73 : decode cX12_takesMean 73 = .ok (.lload 6, 2) := by decide +kernel
theorem dX12_takesMean_75 : decode cX12_takesMean 75 = .ok (.ldc2_w 409, 3) := by decide +kernel
theorem dX12_takesMean_78 : decode cX12_takesMean 78 = .ok (.iload 8, 2) := by decide +kernel
theorem dX12_takesMean_80 : decode cX12_takesMean 80 = .ok (.i2l, 1) := by decide +kernel
theorem dX12_takesMean_81 : decode cX12_takesMean 81 = .ok (.ldiv, 1) := by decide +kernel
theorem dX12_takesMean_82 : decode cX12_takesMean 82 = .ok (.lmul, 1) := by decide +kernel
theorem dX12_takesMean_83 : decode cX12_takesMean 83 = .ok (.lastore, 1) := by decide +kernel
theorem dX12_takesMean_84 : decode cX12_takesMean 84 = .ok (.aload_n 0, 1) := by decide +kernel
theorem dX12_takesMean_85 : decode cX12_takesMean 85 = .ok (.dup, 1) := by decide +kernel
theorem dX12_takesMean_86 : decode cX12_takesMean 86 = .ok (.getfield 406, 3) := by decide +kernel
theorem dX12_takesMean_89 : decode cX12_takesMean 89 = .ok (.iconst 1, 1) := by decide +kernel
theorem dX12_takesMean_90 : decode cX12_takesMean 90 = .ok (.iadd, 1) := by decide +kernel
theorem dX12_takesMean_91 : decode cX12_takesMean 91 = .ok (.putfield 406, 3) := by decide +kernel
theorem dX12_takesMean_94 : decode cX12_takesMean 94 = .ok (.return_, 1) := by decide +kernel
theorem dX12_fewest_0 : decode cX12_fewest 0 = .ok (.aload_n 0, 1) := by decide +kernel
theorem dX12_fewest_1 : decode cX12_fewest 1 = .ok (.getfield 406, 3) := by decide +kernel
theorem dX12_fewest_4 : decode cX12_fewest 4 = .ok (.ifCond .ne 6, 3) := by decide +kernel
theorem dX12_fewest_7 : decode cX12_fewest 7 = .ok (.bipush (-2), 2) := by decide +kernel
theorem dX12_fewest_9 : decode cX12_fewest 9 = .ok (.ireturn, 1) := by decide +kernel
theorem dX12_fewest_10 : decode cX12_fewest 10 = .ok (.lconst 0, 1) := by decide +kernel
theorem dX12_fewest_11 : decode cX12_fewest 11 = .ok (.lstore_n 3, 1) := by decide +kernel
theorem dX12_fewest_12 : decode cX12_fewest 12 = .ok (.iconst 0, 1) := by decide +kernel
theorem dX12_fewest_13 : decode cX12_fewest 13 = .ok (.istore 5, 2) := by decide +kernel
theorem dX12_fewest_15 : decode cX12_fewest 15 = .ok (.iload 5, 2) := by decide +kernel
theorem dX12_fewest_17 : decode cX12_fewest 17 = .ok (.aload_n 0, 1) := by decide +kernel
theorem dX12_fewest_18 : decode cX12_fewest 18 = .ok (.getfield 406, 3) := by decide +kernel
theorem dX12_fewest_21 : decode cX12_fewest 21 = .ok (.if_icmp .ge 19, 3) := by decide +kernel
theorem dX12_fewest_24 : decode cX12_fewest 24 = .ok (.lload_n 3, 1) := by decide +kernel
theorem dX12_fewest_25 : decode cX12_fewest 25 = .ok (.aload_n 0, 1) := by decide +kernel
theorem dX12_fewest_26 : decode cX12_fewest 26 = .ok (.getfield 403, 3) := by decide +kernel
theorem dX12_fewest_29 : decode cX12_fewest 29 = .ok (.iload 5, 2) := by decide +kernel
theorem dX12_fewest_31 : decode cX12_fewest 31 = .ok (.laload, 1) := by decide +kernel
theorem dX12_fewest_32 : decode cX12_fewest 32 = .ok (.ladd, 1) := by decide +kernel
theorem dX12_fewest_33 : decode cX12_fewest 33 = .ok (.lstore_n 3, 1) := by decide +kernel
theorem dX12_fewest_34 : decode cX12_fewest 34 = .ok (.iinc 5 1, 3) := by decide +kernel
theorem dX12_fewest_37 : decode cX12_fewest 37 = .ok (.goto (-22), 3) := by decide +kernel
theorem dX12_fewest_40 : decode cX12_fewest 40 = .ok (.iconst 1, 1) := by decide +kernel
theorem dX12_fewest_41 : decode cX12_fewest 41 = .ok (.istore 5, 2) := by decide +kernel
theorem dX12_fewest_43 : decode cX12_fewest 43 = .ok (.iload 5, 2) := by decide +kernel
theorem dX12_fewest_45 : decode cX12_fewest 45 = .ok (.aload_n 0, 1) := by decide +kernel
theorem dX12_fewest_46 : decode cX12_fewest 46 = .ok (.getfield 406, 3) := by decide +kernel
theorem dX12_fewest_49 : decode cX12_fewest 49 = .ok (.if_icmp .gt 182, 3) := by decide +kernel
theorem dX12_fewest_52 : decode cX12_fewest 52 = .ok (.iconst 0, 1) := by decide +kernel
theorem dX12_fewest_53 : decode cX12_fewest 53 = .ok (.istore 6, 2) := by decide +kernel
theorem dX12_fewest_55 : decode cX12_fewest 55 = .ok (.iconst 0, 1) := by decide +kernel
theorem dX12_fewest_56 : decode cX12_fewest 56 = .ok (.istore 7, 2) := by decide +kernel
theorem dX12_fewest_58 : decode cX12_fewest 58 = .ok (.iconst 0, 1) := by decide +kernel
theorem dX12_fewest_59 : decode cX12_fewest 59 = .ok (.istore 8, 2) := by decide +kernel
theorem dX12_fewest_61 : decode cX12_fewest 61 = .ok (.iload 8, 2) := by decide +kernel
theorem dX12_fewest_63 : decode cX12_fewest 63 = .ok (.iconst 1, 1) := by decide +kernel
theorem dX12_fewest_64 : decode cX12_fewest 64 = .ok (.aload_n 0, 1) := by decide +kernel
theorem dX12_fewest_65 : decode cX12_fewest 65 = .ok (.getfield 406, 3) := by decide +kernel
theorem dX12_fewest_68 : decode cX12_fewest 68 = .ok (.ishl, 1) := by decide +kernel
theorem dX12_fewest_69 : decode cX12_fewest 69 = .ok (.if_icmp .ge 122, 3) := by decide +kernel
theorem dX12_fewest_72 : decode cX12_fewest 72 = .ok (.iload 8, 2) := by decide +kernel
theorem dX12_fewest_74 : decode cX12_fewest 74 = .ok (.invokestatic 383, 3) := by decide +kernel
theorem dX12_fewest_77 : decode cX12_fewest 77 = .ok (.iload 5, 2) := by decide +kernel
theorem dX12_fewest_79 : decode cX12_fewest 79 = .ok (.if_icmp .eq 6, 3) := by decide +kernel
theorem dX12_fewest_82 : decode cX12_fewest 82 = .ok (.goto 103, 3) := by decide +kernel
theorem dX12_fewest_85 : decode cX12_fewest 85 = .ok (.lconst 0, 1) := by decide +kernel
theorem dX12_fewest_86 : decode cX12_fewest 86 = .ok (.lstore 9, 2) := by decide +kernel
theorem dX12_fewest_88 : decode cX12_fewest 88 = .ok (.iconst 0, 1) := by decide +kernel
theorem dX12_fewest_89 : decode cX12_fewest 89 = .ok (.istore 11, 2) := by decide +kernel
theorem dX12_fewest_91 : decode cX12_fewest 91 = .ok (.iload 11, 2) := by decide +kernel
theorem dX12_fewest_93 : decode cX12_fewest 93 = .ok (.aload_n 0, 1) := by decide +kernel
theorem dX12_fewest_94 : decode cX12_fewest 94 = .ok (.getfield 406, 3) := by decide +kernel
theorem dX12_fewest_97 : decode cX12_fewest 97 = .ok (.if_icmp .ge 35, 3) := by decide +kernel
theorem dX12_fewest_100 : decode cX12_fewest 100 = .ok (.lload 9, 2) := by decide +kernel
theorem dX12_fewest_102 : decode cX12_fewest 102 = .ok (.iload 8, 2) := by decide +kernel
theorem dX12_fewest_104 : decode cX12_fewest 104 = .ok (.iload 11, 2) := by decide +kernel
theorem dX12_fewest_106 : decode cX12_fewest 106 = .ok (.invokestatic 250, 3) := by decide +kernel
theorem dX12_fewest_109 : decode cX12_fewest 109 = .ok (.ifCond .eq 13, 3) := by decide +kernel
theorem dX12_fewest_112 : decode cX12_fewest 112 = .ok (.aload_n 0, 1) := by decide +kernel
theorem dX12_fewest_113 : decode cX12_fewest 113 = .ok (.getfield 403, 3) := by decide +kernel
theorem dX12_fewest_116 : decode cX12_fewest 116 = .ok (.iload 11, 2) := by decide +kernel
theorem dX12_fewest_118 : decode cX12_fewest 118 = .ok (.laload, 1) := by decide +kernel
theorem dX12_fewest_119 : decode cX12_fewest 119 = .ok (.goto 4, 3) := by decide +kernel
theorem dX12_fewest_122 : decode cX12_fewest 122 = .ok (.lconst 0, 1) := by decide +kernel
theorem dX12_fewest_123 : decode cX12_fewest 123 = .ok (.ladd, 1) := by decide +kernel
theorem dX12_fewest_124 : decode cX12_fewest 124 = .ok (.lstore 9, 2) := by decide +kernel
theorem dX12_fewest_126 : decode cX12_fewest 126 = .ok (.iinc 11 1, 3) := by decide +kernel
theorem dX12_fewest_129 : decode cX12_fewest 129 = .ok (.goto (-38), 3) := by decide +kernel
theorem dX12_fewest_132 : decode cX12_fewest 132 = .ok (.iinc 6 1, 3) := by decide +kernel
theorem dX12_fewest_135 : decode cX12_fewest 135 = .ok (.iload 7, 2) := by decide +kernel
theorem dX12_fewest_137 : decode cX12_fewest 137 = .ok (.lload 9, 2) := by decide +kernel
theorem dX12_fewest_139 : decode cX12_fewest 139 = .ok (.aload_n 0, 1) := by decide +kernel
theorem dX12_fewest_140 : decode cX12_fewest 140 = .ok (.getfield 406, 3) := by decide +kernel
theorem dX12_fewest_143 : decode cX12_fewest 143 = .ok (.i2l, 1) := by decide +kernel
theorem dX12_fewest_144 : decode cX12_fewest 144 = .ok (.lmul, 1) := by decide +kernel
theorem dX12_fewest_145 : decode cX12_fewest 145 = .ok (.lload_n 3, 1) := by decide +kernel
theorem dX12_fewest_146 : decode cX12_fewest 146 = .ok (.iload 5, 2) := by decide +kernel
theorem dX12_fewest_148 : decode cX12_fewest 148 = .ok (.i2l, 1) := by decide +kernel
theorem dX12_fewest_149 : decode cX12_fewest 149 = .ok (.lmul, 1) := by decide +kernel
theorem dX12_fewest_150 : decode cX12_fewest 150 = .ok (.lsub, 1) := by decide +kernel
theorem dX12_fewest_151 : decode cX12_fewest 151 = .ok (.invokestatic 411, 3) := by decide +kernel
theorem dX12_fewest_154 : decode cX12_fewest 154 = .ok (.iload_n 1, 1) := by decide +kernel
theorem dX12_fewest_155 : decode cX12_fewest 155 = .ok (.i2l, 1) := by decide +kernel
theorem dX12_fewest_156 : decode cX12_fewest 156 = .ok (.ldc2_w 409, 3) := by decide +kernel
theorem dX12_fewest_159 : decode cX12_fewest 159 = .ok (.lmul, 1) := by decide +kernel
theorem dX12_fewest_160 : decode cX12_fewest 160 = .ok (.iload 5, 2) := by decide +kernel
theorem dX12_fewest_162 : decode cX12_fewest 162 = .ok (.i2l, 1) := by decide +kernel
theorem dX12_fewest_163 : decode cX12_fewest 163 = .ok (.lmul, 1) := by decide +kernel
theorem dX12_fewest_164 : decode cX12_fewest 164 = .ok (.aload_n 0, 1) := by decide +kernel
theorem dX12_fewest_165 : decode cX12_fewest 165 = .ok (.getfield 406, 3) := by decide +kernel
theorem dX12_fewest_168 : decode cX12_fewest 168 = .ok (.i2l, 1) := by decide +kernel
theorem dX12_fewest_169 : decode cX12_fewest 169 = .ok (.lmul, 1) := by decide +kernel
theorem dX12_fewest_170 : decode cX12_fewest 170 = .ok (.lcmp, 1) := by decide +kernel
theorem dX12_fewest_171 : decode cX12_fewest 171 = .ok (.ifCond .gt 7, 3) := by decide +kernel
theorem dX12_fewest_174 : decode cX12_fewest 174 = .ok (.iconst 1, 1) := by decide +kernel
theorem dX12_fewest_175 : decode cX12_fewest 175 = .ok (.goto 4, 3) := by decide +kernel
theorem dX12_fewest_178 : decode cX12_fewest 178 = .ok (.iconst 0, 1) := by decide +kernel
theorem dX12_fewest_179 : decode cX12_fewest 179 = .ok (.invokestatic 207, 3) := by decide +kernel
theorem dX12_fewest_182 : decode cX12_fewest 182 = .ok (.iadd, 1) := by decide +kernel
theorem dX12_fewest_183 : decode cX12_fewest 183 = .ok (.istore 7, 2) := by decide +kernel
theorem dX12_fewest_185 : decode cX12_fewest 185 = .ok (.iinc 8 1, 3) := by decide +kernel
theorem dX12_fewest_188 : decode cX12_fewest 188 = .ok (.goto (-127), 3) := by decide +kernel
theorem dX12_fewest_191 : decode cX12_fewest 191 = .ok (.iload 7, 2) := by decide +kernel
theorem dX12_fewest_193 : decode cX12_fewest 193 = .ok (.bipush 100, 2) := by decide +kernel
theorem dX12_fewest_195 : decode cX12_fewest 195 = .ok (.imul, 1) := by decide +kernel
theorem dX12_fewest_196 : decode cX12_fewest 196 = .ok (.iload_n 2, 1) := by decide +kernel
theorem dX12_fewest_197 : decode cX12_fewest 197 = .ok (.iload 6, 2) := by decide +kernel
theorem dX12_fewest_199 : decode cX12_fewest 199 = .ok (.imul, 1) := by decide +kernel
theorem dX12_fewest_200 : decode cX12_fewest 200 = .ok (.if_icmp .lt 25, 3) := by decide +kernel
theorem dX12_fewest_203 : decode cX12_fewest 203 = .ok (.aload_n 0, 1) := by decide +kernel
theorem dX12_fewest_204 : decode cX12_fewest 204 = .ok (.iconst 0, 1) := by decide +kernel
theorem dX12_fewest_205 : decode cX12_fewest 205 = .ok (.putfield 11, 3) := by decide +kernel
theorem dX12_fewest_208 : decode cX12_fewest 208 = .ok (.aload_n 0, 1) := by decide +kernel
theorem dX12_fewest_209 : decode cX12_fewest 209 = .ok (.iload 7, 2) := by decide +kernel
theorem dX12_fewest_211 : decode cX12_fewest 211 = .ok (.i2l, 1) := by decide +kernel
theorem dX12_fewest_212 : decode cX12_fewest 212 = .ok (.invokevirtual 18, 3) := by decide +kernel
theorem dX12_fewest_215 : decode cX12_fewest 215 = .ok (.aload_n 0, 1) := by decide +kernel
theorem dX12_fewest_216 : decode cX12_fewest 216 = .ok (.iload 6, 2) := by decide +kernel
theorem dX12_fewest_218 : decode cX12_fewest 218 = .ok (.i2l, 1) := by decide +kernel
theorem dX12_fewest_219 : decode cX12_fewest 219 = .ok (.invokevirtual 18, 3) := by decide +kernel
theorem dX12_fewest_222 : decode cX12_fewest 222 = .ok (.iload 5, 2) := by decide +kernel
theorem dX12_fewest_224 : decode cX12_fewest 224 = .ok (.ireturn, 1) := by decide +kernel
theorem dX12_fewest_225 : decode cX12_fewest 225 = .ok (.iinc 5 1, 3) := by decide +kernel
theorem dX12_fewest_228 : decode cX12_fewest 228 = .ok (.goto (-185), 3) := by decide +kernel
theorem dX12_fewest_231 : decode cX12_fewest 231 = .ok (.bipush (-2), 2) := by decide +kernel
theorem dX12_fewest_233 : decode cX12_fewest 233 = .ok (.ireturn, 1) := by decide +kernel
theorem dX12_isNeed_0 : decode cX12_isNeed 0 = .ok (.iload_n 1, 1) := by decide +kernel
theorem dX12_isNeed_1 : decode cX12_isNeed 1 = .ok (.invokestatic 82, 3) := by decide +kernel
theorem dX12_isNeed_4 : decode cX12_isNeed 4 = .ok (.ifCond .eq 40, 3) := by decide +kernel
theorem dX12_isNeed_7 : decode cX12_isNeed 7 = .ok (.aload_n 0, 1) := by decide +kernel
theorem dX12_isNeed_8 : decode cX12_isNeed 8 = .ok (.iload_n 2, 1) := by decide +kernel
theorem dX12_isNeed_9 : decode cX12_isNeed 9 = .ok (.invokevirtual 52, 3) := by decide +kernel
theorem dX12_isNeed_12 : decode cX12_isNeed 12 = .ok (.ifCond .eq 32, 3) := by decide +kernel
theorem dX12_isNeed_15 : decode cX12_isNeed 15 = .ok (.iload_n 3, 1) := by decide +kernel
theorem dX12_isNeed_16 : decode cX12_isNeed 16 = .ok (.i2l, 1) := by decide +kernel
theorem dX12_isNeed_17 : decode cX12_isNeed 17 = .ok (.lconst 0, 1) := by decide +kernel
theorem dX12_isNeed_18 : decode cX12_isNeed 18 = .ok (.ldc2_w 90, 3) := by decide +kernel
theorem dX12_isNeed_21 : decode cX12_isNeed 21 = .ok (.invokestatic 25, 3) := by decide +kernel
theorem dX12_isNeed_24 : decode cX12_isNeed 24 = .ok (.ifCond .eq 20, 3) := by decide +kernel
theorem dX12_isNeed_27 : decode cX12_isNeed 27 = .ok (.iload 4, 2) := by decide +kernel
theorem dX12_isNeed_29 : decode cX12_isNeed 29 = .ok (.i2l, 1) := by decide +kernel
theorem dX12_isNeed_30 : decode cX12_isNeed 30 = .ok (.lconst 1, 1) := by decide +kernel
theorem dX12_isNeed_31 : decode cX12_isNeed 31 = .ok (.ldc2_w 38, 3) := by decide +kernel
theorem dX12_isNeed_34 : decode cX12_isNeed 34 = .ok (.invokestatic 25, 3) := by decide +kernel
theorem dX12_isNeed_37 : decode cX12_isNeed 37 = .ok (.ifCond .eq 7, 3) := by decide +kernel
theorem dX12_isNeed_40 : decode cX12_isNeed 40 = .ok (.iconst 1, 1) := by decide +kernel
theorem dX12_isNeed_41 : decode cX12_isNeed 41 = .ok (.goto 4, 3) := by decide +kernel
theorem dX12_isNeed_44 : decode cX12_isNeed 44 = .ok (.iconst 0, 1) := by decide +kernel
theorem dX12_isNeed_45 : decode cX12_isNeed 45 = .ok (.ireturn, 1) := by decide +kernel
theorem dX12_need_0 : decode cX12_need 0 = .ok (.aload_n 0, 1) := by decide +kernel
theorem dX12_need_1 : decode cX12_need 1 = .ok (.iconst 0, 1) := by decide +kernel
theorem dX12_need_2 : decode cX12_need 2 = .ok (.putfield 3, 3) := by decide +kernel
theorem dX12_need_5 : decode cX12_need 5 = .ok (.aload_n 0, 1) := by decide +kernel
theorem dX12_need_6 : decode cX12_need 6 = .ok (.iload_n 1, 1) := by decide +kernel
theorem dX12_need_7 : decode cX12_need 7 = .ok (.iload_n 2, 1) := by decide +kernel
theorem dX12_need_8 : decode cX12_need 8 = .ok (.iload_n 3, 1) := by decide +kernel
theorem dX12_need_9 : decode cX12_need 9 = .ok (.iload 4, 2) := by decide +kernel
theorem dX12_need_11 : decode cX12_need 11 = .ok (.invokevirtual 414, 3) := by decide +kernel
theorem dX12_need_14 : decode cX12_need 14 = .ok (.ifCond .ne 5, 3) := by decide +kernel
theorem dX12_need_17 : decode cX12_need 17 = .ok (.iconst (-1), 1) := by decide +kernel
theorem dX12_need_18 : decode cX12_need 18 = .ok (.ireturn, 1) := by decide +kernel
theorem dX12_need_19 : decode cX12_need 19 = .ok (.aload_n 0, 1) := by decide +kernel
theorem dX12_need_20 : decode cX12_need 20 = .ok (.iconst 0, 1) := by decide +kernel
theorem dX12_need_21 : decode cX12_need 21 = .ok (.putfield 406, 3) := by decide +kernel
theorem dX12_need_24 : decode cX12_need 24 = .ok (.iconst 0, 1) := by decide +kernel
theorem dX12_need_25 : decode cX12_need 25 = .ok (.istore 5, 2) := by decide +kernel
theorem dX12_need_27 : decode cX12_need 27 = .ok (.iload 5, 2) := by decide +kernel
theorem dX12_need_29 : decode cX12_need 29 = .ok (.aload_n 0, 1) := by decide +kernel
theorem dX12_need_30 : decode cX12_need 30 = .ok (.getfield 29, 3) := by decide +kernel
theorem dX12_need_33 : decode cX12_need 33 = .ok (.if_icmp .ge 23, 3) := by decide +kernel
theorem dX12_need_36 : decode cX12_need 36 = .ok (.aload_n 0, 1) := by decide +kernel
theorem dX12_need_37 : decode cX12_need 37 = .ok (.iload_n 1, 1) := by decide +kernel
theorem dX12_need_38 : decode cX12_need 38 = .ok (.iload_n 2, 1) := by decide +kernel
theorem dX12_need_39 : decode cX12_need 39 = .ok (.bipush 12, 2) := by decide +kernel
theorem dX12_need_41 : decode cX12_need 41 = .ok (.iload 5, 2) := by decide +kernel
theorem dX12_need_43 : decode cX12_need 43 = .ok (.imul, 1) := by decide +kernel
theorem dX12_need_44 : decode cX12_need 44 = .ok (.iconst 1, 1) := by decide +kernel
theorem dX12_need_45 : decode cX12_need 45 = .ok (.bipush 12, 2) := by decide +kernel
theorem dX12_need_47 : decode cX12_need 47 = .ok (.invokevirtual 418, 3) := by decide +kernel
theorem dX12_need_50 : decode cX12_need 50 = .ok (.iinc 5 1, 3) := by decide +kernel
theorem dX12_need_53 : decode cX12_need 53 = .ok (.goto (-26), 3) := by decide +kernel
theorem dX12_need_56 : decode cX12_need 56 = .ok (.aload_n 0, 1) := by decide +kernel
theorem dX12_need_57 : decode cX12_need 57 = .ok (.iload_n 3, 1) := by decide +kernel
theorem dX12_need_58 : decode cX12_need 58 = .ok (.iload 4, 2) := by decide +kernel
theorem dX12_need_60 : decode cX12_need 60 = .ok (.invokevirtual 422, 3) := by decide +kernel
theorem dX12_need_63 : decode cX12_need 63 = .ok (.ireturn, 1) := by decide +kernel
theorem dX12_weeks_0 : decode cX12_weeks 0 = .ok (.aload_n 0, 1) := by decide +kernel
theorem dX12_weeks_1 : decode cX12_weeks 1 = .ok (.iconst 0, 1) := by decide +kernel
theorem dX12_weeks_2 : decode cX12_weeks 2 = .ok (.putfield 3, 3) := by decide +kernel
theorem dX12_weeks_5 : decode cX12_weeks 5 = .ok (.aload_n 0, 1) := by decide +kernel
theorem dX12_weeks_6 : decode cX12_weeks 6 = .ok (.iload_n 1, 1) := by decide +kernel
theorem dX12_weeks_7 : decode cX12_weeks 7 = .ok (.iload_n 2, 1) := by decide +kernel
theorem dX12_weeks_8 : decode cX12_weeks 8 = .ok (.iload_n 3, 1) := by decide +kernel
theorem dX12_weeks_9 : decode cX12_weeks 9 = .ok (.iload 4, 2) := by decide +kernel
theorem dX12_weeks_11 : decode cX12_weeks 11 = .ok (.invokevirtual 414, 3) := by decide +kernel
theorem dX12_weeks_14 : decode cX12_weeks 14 = .ok (.ifCond .ne 5, 3) := by decide +kernel
theorem dX12_weeks_17 : decode cX12_weeks 17 = .ok (.iconst (-1), 1) := by decide +kernel
theorem dX12_weeks_18 : decode cX12_weeks 18 = .ok (.ireturn, 1) := by decide +kernel
theorem dX12_weeks_19 : decode cX12_weeks 19 = .ok (.aload_n 0, 1) := by decide +kernel
theorem dX12_weeks_20 : decode cX12_weeks 20 = .ok (.iconst 0, 1) := by decide +kernel
theorem dX12_weeks_21 : decode cX12_weeks 21 = .ok (.putfield 406, 3) := by decide +kernel
theorem dX12_weeks_24 : decode cX12_weeks 24 = .ok (.iconst 0, 1) := by decide +kernel
theorem dX12_weeks_25 : decode cX12_weeks 25 = .ok (.istore 5, 2) := by decide +kernel
theorem dX12_weeks_27 : decode cX12_weeks 27 = .ok (.iload 5, 2) := by decide +kernel
theorem dX12_weeks_29 : decode cX12_weeks 29 = .ok (.bipush 12, 2) := by decide +kernel
theorem dX12_weeks_31 : decode cX12_weeks 31 = .ok (.if_icmp .ge 23, 3) := by decide +kernel
theorem dX12_weeks_34 : decode cX12_weeks 34 = .ok (.aload_n 0, 1) := by decide +kernel
theorem dX12_weeks_35 : decode cX12_weeks 35 = .ok (.iload_n 1, 1) := by decide +kernel
theorem dX12_weeks_36 : decode cX12_weeks 36 = .ok (.iload_n 2, 1) := by decide +kernel
theorem dX12_weeks_37 : decode cX12_weeks 37 = .ok (.iload 5, 2) := by decide +kernel
theorem dX12_weeks_39 : decode cX12_weeks 39 = .ok (.bipush 12, 2) := by decide +kernel
theorem dX12_weeks_41 : decode cX12_weeks 41 = .ok (.aload_n 0, 1) := by decide +kernel
theorem dX12_weeks_42 : decode cX12_weeks 42 = .ok (.getfield 29, 3) := by decide +kernel
theorem dX12_weeks_45 : decode cX12_weeks 45 = .ok (.invokevirtual 418, 3) := by decide +kernel
theorem dX12_weeks_48 : decode cX12_weeks 48 = .ok (.iinc 5 1, 3) := by decide +kernel
theorem dX12_weeks_51 : decode cX12_weeks 51 = .ok (.goto (-24), 3) := by decide +kernel
theorem dX12_weeks_54 : decode cX12_weeks 54 = .ok (.aload_n 0, 1) := by decide +kernel
theorem dX12_weeks_55 : decode cX12_weeks 55 = .ok (.iload_n 3, 1) := by decide +kernel
theorem dX12_weeks_56 : decode cX12_weeks 56 = .ok (.iload 4, 2) := by decide +kernel
theorem dX12_weeks_58 : decode cX12_weeks 58 = .ok (.invokevirtual 422, 3) := by decide +kernel
theorem dX12_weeks_61 : decode cX12_weeks 61 = .ok (.ireturn, 1) := by decide +kernel
theorem dX12_isYear_0 : decode cX12_isYear 0 = .ok (.iload_n 0, 1) := by decide +kernel
theorem dX12_isYear_1 : decode cX12_isYear 1 = .ok (.i2l, 1) := by decide +kernel
theorem dX12_isYear_2 : decode cX12_isYear 2 = .ok (.ldc2_w 425, 3) := by decide +kernel
theorem dX12_isYear_5 : decode cX12_isYear 5 = .ok (.ldc2_w 427, 3) := by decide +kernel
theorem dX12_isYear_8 : decode cX12_isYear 8 = .ok (.invokestatic 25, 3) := by decide +kernel
theorem dX12_isYear_11 : decode cX12_isYear 11 = .ok (.ireturn, 1) := by decide +kernel
theorem dX12_paper_0 : decode cX12_paper 0 = .ok (.aload_n 0, 1) := by decide +kernel
theorem dX12_paper_1 : decode cX12_paper 1 = .ok (.iconst 0, 1) := by decide +kernel
theorem dX12_paper_2 : decode cX12_paper 2 = .ok (.putfield 3, 3) := by decide +kernel
theorem dX12_paper_5 : decode cX12_paper 5 = .ok (.iload_n 1, 1) := by decide +kernel
theorem dX12_paper_6 : decode cX12_paper 6 = .ok (.i2l, 1) := by decide +kernel
theorem dX12_paper_7 : decode cX12_paper 7 = .ok (.lconst 0, 1) := by decide +kernel
theorem dX12_paper_8 : decode cX12_paper 8 = .ok (.ldc2_w 429, 3) := by decide +kernel
theorem dX12_paper_11 : decode cX12_paper 11 = .ok (.invokestatic 25, 3) := by decide +kernel
theorem dX12_paper_14 : decode cX12_paper 14 = .ok (.ifCond .eq 31, 3) := by decide +kernel
theorem dX12_paper_17 : decode cX12_paper 17 = .ok (.iload_n 2, 1) := by decide +kernel
theorem dX12_paper_18 : decode cX12_paper 18 = .ok (.invokestatic 431, 3) := by decide +kernel
theorem dX12_paper_21 : decode cX12_paper 21 = .ok (.ifCond .eq 24, 3) := by decide +kernel
theorem dX12_paper_24 : decode cX12_paper 24 = .ok (.iload_n 3, 1) := by decide +kernel
theorem dX12_paper_25 : decode cX12_paper 25 = .ok (.invokestatic 431, 3) := by decide +kernel
theorem dX12_paper_28 : decode cX12_paper 28 = .ok (.ifCond .eq 17, 3) := by decide +kernel
theorem dX12_paper_31 : decode cX12_paper 31 = .ok (.iload_n 3, 1) := by decide +kernel
theorem dX12_paper_32 : decode cX12_paper 32 = .ok (.iload_n 2, 1) := by decide +kernel
theorem dX12_paper_33 : decode cX12_paper 33 = .ok (.if_icmp .lt 12, 3) := by decide +kernel
theorem dX12_paper_36 : decode cX12_paper 36 = .ok (.aload_n 0, 1) := by decide +kernel
theorem dX12_paper_37 : decode cX12_paper 37 = .ok (.getfield 434, 3) := by decide +kernel
theorem dX12_paper_40 : decode cX12_paper 40 = .ok (.bipush 12, 2) := by decide +kernel
theorem dX12_paper_42 : decode cX12_paper 42 = .ok (.if_icmp .ne 5, 3) := by decide +kernel
theorem dX12_paper_45 : decode cX12_paper 45 = .ok (.iconst (-1), 1) := by decide +kernel
theorem dX12_paper_46 : decode cX12_paper 46 = .ok (.ireturn, 1) := by decide +kernel
theorem dX12_paper_47 : decode cX12_paper 47 = .ok (.aload_n 0, 1) := by decide +kernel
theorem dX12_paper_48 : decode cX12_paper 48 = .ok (.getfield 437, 3) := by decide +kernel
theorem dX12_paper_51 : decode cX12_paper 51 = .ok (.aload_n 0, 1) := by decide +kernel
theorem dX12_paper_52 : decode cX12_paper 52 = .ok (.getfield 434, 3) := by decide +kernel
theorem dX12_paper_55 : decode cX12_paper 55 = .ok (.iload_n 1, 1) := by decide +kernel
theorem dX12_paper_56 : decode cX12_paper 56 = .ok (.iastore, 1) := by decide +kernel
theorem dX12_paper_57 : decode cX12_paper 57 = .ok (.aload_n 0, 1) := by decide +kernel
theorem dX12_paper_58 : decode cX12_paper 58 = .ok (.getfield 440, 3) := by decide +kernel
theorem dX12_paper_61 : decode cX12_paper 61 = .ok (.aload_n 0, 1) := by decide +kernel
theorem dX12_paper_62 : decode cX12_paper 62 = .ok (.getfield 434, 3) := by decide +kernel
theorem dX12_paper_65 : decode cX12_paper 65 = .ok (.iload_n 2, 1) := by decide +kernel
theorem dX12_paper_66 : decode cX12_paper 66 = .ok (.iastore, 1) := by decide +kernel
theorem dX12_paper_67 : decode cX12_paper 67 = .ok (.aload_n 0, 1) := by decide +kernel
theorem dX12_paper_68 : decode cX12_paper 68 = .ok (.getfield 443, 3) := by decide +kernel
theorem dX12_paper_71 : decode cX12_paper 71 = .ok (.aload_n 0, 1) := by decide +kernel
theorem dX12_paper_72 : decode cX12_paper 72 = .ok (.getfield 434, 3) := by decide +kernel
theorem dX12_paper_75 : decode cX12_paper 75 = .ok (.iload_n 3, 1) := by decide +kernel
theorem dX12_paper_76 : decode cX12_paper 76 = .ok (.iastore, 1) := by decide +kernel
theorem dX12_paper_77 : decode cX12_paper 77 = .ok (.aload_n 0, 1) := by decide +kernel
theorem dX12_paper_78 : decode cX12_paper 78 = .ok (.dup, 1) := by decide +kernel
theorem dX12_paper_79 : decode cX12_paper 79 = .ok (.getfield 434, 3) := by decide +kernel
theorem dX12_paper_82 : decode cX12_paper 82 = .ok (.iconst 1, 1) := by decide +kernel
theorem dX12_paper_83 : decode cX12_paper 83 = .ok (.iadd, 1) := by decide +kernel
theorem dX12_paper_84 : decode cX12_paper 84 = .ok (.putfield 434, 3) := by decide +kernel
theorem dX12_paper_87 : decode cX12_paper 87 = .ok (.aload_n 0, 1) := by decide +kernel
theorem dX12_paper_88 : decode cX12_paper 88 = .ok (.getfield 434, 3) := by decide +kernel
theorem dX12_paper_91 : decode cX12_paper 91 = .ok (.ireturn, 1) := by decide +kernel
theorem dX12_dates_0 : decode cX12_dates 0 = .ok (.iconst 0, 1) := by decide +kernel
theorem dX12_dates_1 : decode cX12_dates 1 = .ok (.istore_n 2, 1) := by decide +kernel
theorem dX12_dates_2 : decode cX12_dates 2 = .ok (.iload_n 2, 1) := by decide +kernel
theorem dX12_dates_3 : decode cX12_dates 3 = .ok (.bipush 10, 2) := by decide +kernel
theorem dX12_dates_5 : decode cX12_dates 5 = .ok (.if_icmp .ge 27, 3) := by decide +kernel
theorem dX12_dates_8 : decode cX12_dates 8 = .ok (.aload_n 0, 1) := by decide +kernel
theorem dX12_dates_9 : decode cX12_dates 9 = .ok (.getfield 446, 3) := by decide +kernel
theorem dX12_dates_12 : decode cX12_dates 12 = .ok (.iload_n 2, 1) := by decide +kernel
theorem dX12_dates_13 : decode cX12_dates 13 = .ok (.sipush 1900, 3) := by decide +kernel
theorem dX12_dates_16 : decode cX12_dates 16 = .ok (.iastore, 1) := by decide +kernel
theorem dX12_dates_17 : decode cX12_dates 17 = .ok (.aload_n 0, 1) := by decide +kernel
theorem dX12_dates_18 : decode cX12_dates 18 = .ok (.getfield 449, 3) := by decide +kernel
theorem dX12_dates_21 : decode cX12_dates 21 = .ok (.iload_n 2, 1) := by decide +kernel
theorem dX12_dates_22 : decode cX12_dates 22 = .ok (.sipush 2100, 3) := by decide +kernel
theorem dX12_dates_25 : decode cX12_dates 25 = .ok (.iastore, 1) := by decide +kernel
theorem dX12_dates_26 : decode cX12_dates 26 = .ok (.iinc 2 1, 3) := by decide +kernel
theorem dX12_dates_29 : decode cX12_dates 29 = .ok (.goto (-27), 3) := by decide +kernel
theorem dX12_dates_32 : decode cX12_dates 32 = .ok (.iconst 0, 1) := by decide +kernel
theorem dX12_dates_33 : decode cX12_dates 33 = .ok (.istore_n 2, 1) := by decide +kernel
theorem dX12_dates_34 : decode cX12_dates 34 = .ok (.iload_n 2, 1) := by decide +kernel
theorem dX12_dates_35 : decode cX12_dates 35 = .ok (.aload_n 0, 1) := by decide +kernel
theorem dX12_dates_36 : decode cX12_dates 36 = .ok (.getfield 434, 3) := by decide +kernel
theorem dX12_dates_39 : decode cX12_dates 39 = .ok (.if_icmp .ge 66, 3) := by decide +kernel
theorem dX12_dates_42 : decode cX12_dates 42 = .ok (.iload_n 1, 1) := by decide +kernel
theorem dX12_dates_43 : decode cX12_dates 43 = .ok (.iload_n 2, 1) := by decide +kernel
theorem dX12_dates_44 : decode cX12_dates 44 = .ok (.invokestatic 250, 3) := by decide +kernel
theorem dX12_dates_47 : decode cX12_dates 47 = .ok (.ifCond .ne 52, 3) := by decide +kernel
theorem dX12_dates_50 : decode cX12_dates 50 = .ok (.aload_n 0, 1) := by decide +kernel
theorem dX12_dates_51 : decode cX12_dates 51 = .ok (.getfield 437, 3) := by decide +kernel
theorem dX12_dates_54 : decode cX12_dates 54 = .ok (.iload_n 2, 1) := by decide +kernel
theorem dX12_dates_55 : decode cX12_dates 55 = .ok (.iaload, 1) := by decide +kernel
theorem dX12_dates_56 : decode cX12_dates 56 = .ok (.istore_n 3, 1) := by decide +kernel
theorem dX12_dates_57 : decode cX12_dates 57 = .ok (.aload_n 0, 1) := by decide +kernel
theorem dX12_dates_58 : decode cX12_dates 58 = .ok (.getfield 446, 3) := by decide +kernel
theorem dX12_dates_61 : decode cX12_dates 61 = .ok (.iload_n 3, 1) := by decide +kernel
theorem dX12_dates_62 : decode cX12_dates 62 = .ok (.aload_n 0, 1) := by decide +kernel
theorem dX12_dates_63 : decode cX12_dates 63 = .ok (.getfield 446, 3) := by decide +kernel
theorem dX12_dates_66 : decode cX12_dates 66 = .ok (.iload_n 3, 1) := by decide +kernel
theorem dX12_dates_67 : decode cX12_dates 67 = .ok (.iaload, 1) := by decide +kernel
theorem dX12_dates_68 : decode cX12_dates 68 = .ok (.aload_n 0, 1) := by decide +kernel
theorem dX12_dates_69 : decode cX12_dates 69 = .ok (.getfield 440, 3) := by decide +kernel
theorem dX12_dates_72 : decode cX12_dates 72 = .ok (.iload_n 2, 1) := by decide +kernel
theorem dX12_dates_73 : decode cX12_dates 73 = .ok (.iaload, 1) := by decide +kernel
theorem dX12_dates_74 : decode cX12_dates 74 = .ok (.invokestatic 233, 3) := by decide +kernel
theorem dX12_dates_77 : decode cX12_dates 77 = .ok (.iastore, 1) := by decide +kernel
theorem dX12_dates_78 : decode cX12_dates 78 = .ok (.aload_n 0, 1) := by decide +kernel
theorem dX12_dates_79 : decode cX12_dates 79 = .ok (.getfield 449, 3) := by decide +kernel
theorem dX12_dates_82 : decode cX12_dates 82 = .ok (.iload_n 3, 1) := by decide +kernel
theorem dX12_dates_83 : decode cX12_dates 83 = .ok (.aload_n 0, 1) := by decide +kernel
theorem dX12_dates_84 : decode cX12_dates 84 = .ok (.getfield 449, 3) := by decide +kernel
theorem dX12_dates_87 : decode cX12_dates 87 = .ok (.iload_n 3, 1) := by decide +kernel
theorem dX12_dates_88 : decode cX12_dates 88 = .ok (.iaload, 1) := by decide +kernel
theorem dX12_dates_89 : decode cX12_dates 89 = .ok (.aload_n 0, 1) := by decide +kernel
theorem dX12_dates_90 : decode cX12_dates 90 = .ok (.getfield 443, 3) := by decide +kernel
theorem dX12_dates_93 : decode cX12_dates 93 = .ok (.iload_n 2, 1) := by decide +kernel
theorem dX12_dates_94 : decode cX12_dates 94 = .ok (.iaload, 1) := by decide +kernel
theorem dX12_dates_95 : decode cX12_dates 95 = .ok (.invokestatic 99, 3) := by decide +kernel
theorem dX12_dates_98 : decode cX12_dates 98 = .ok (.iastore, 1) := by decide +kernel
theorem dX12_dates_99 : decode cX12_dates 99 = .ok (.iinc 2 1, 3) := by decide +kernel
theorem dX12_dates_102 : decode cX12_dates 102 = .ok (.goto (-68), 3) := by decide +kernel
theorem dX12_dates_105 : decode cX12_dates 105 = .ok (.iconst 1, 1) := by decide +kernel
theorem dX12_dates_106 : decode cX12_dates 106 = .ok (.istore_n 2, 1) := by decide +kernel
theorem dX12_dates_107 : decode cX12_dates 107 = .ok (.iload_n 2, 1) := by decide +kernel
theorem dX12_dates_108 : decode cX12_dates 108 = .ok (.bipush 10, 2) := by decide +kernel
theorem dX12_dates_110 : decode cX12_dates 110 = .ok (.if_icmp .ge 32, 3) := by decide +kernel
theorem dX12_dates_113 : decode cX12_dates 113 = .ok (.aload_n 0, 1) := by decide +kernel
theorem dX12_dates_114 : decode cX12_dates 114 = .ok (.getfield 449, 3) := by decide +kernel
theorem dX12_dates_117 : decode cX12_dates 117 = .ok (.iload_n 2, 1) := by decide +kernel
theorem dX12_dates_118 : decode cX12_dates 118 = .ok (.aload_n 0, 1) := by decide +kernel
theorem dX12_dates_119 : decode cX12_dates 119 = .ok (.getfield 449, 3) := by decide +kernel
theorem dX12_dates_122 : decode cX12_dates 122 = .ok (.iload_n 2, 1) := by decide +kernel
theorem dX12_dates_123 : decode cX12_dates 123 = .ok (.iaload, 1) := by decide +kernel
theorem dX12_dates_124 : decode cX12_dates 124 = .ok (.aload_n 0, 1) := by decide +kernel
theorem dX12_dates_125 : decode cX12_dates 125 = .ok (.getfield 449, 3) := by decide +kernel
theorem dX12_dates_128 : decode cX12_dates 128 = .ok (.iload_n 2, 1) := by decide +kernel
theorem dX12_dates_129 : decode cX12_dates 129 = .ok (.iconst 1, 1) := by decide +kernel
theorem dX12_dates_130 : decode cX12_dates 130 = .ok (.isub, 1) := by decide +kernel
theorem dX12_dates_131 : decode cX12_dates 131 = .ok (.iaload, 1) := by decide +kernel
theorem dX12_dates_132 : decode cX12_dates 132 = .ok (.invokestatic 99, 3) := by decide +kernel
theorem dX12_dates_135 : decode cX12_dates 135 = .ok (.iastore, 1) := by decide +kernel
theorem dX12_dates_136 : decode cX12_dates 136 = .ok (.iinc 2 1, 3) := by decide +kernel
theorem dX12_dates_139 : decode cX12_dates 139 = .ok (.goto (-32), 3) := by decide +kernel
theorem dX12_dates_142 : decode cX12_dates 142 = .ok (.iconst 1, 1) := by decide +kernel
theorem dX12_dates_143 : decode cX12_dates 143 = .ok (.istore_n 2, 1) := by decide +kernel
theorem dX12_dates_144 : decode cX12_dates 144 = .ok (.bipush 9, 2) := by decide +kernel
theorem dX12_dates_146 : decode cX12_dates 146 = .ok (.istore_n 3, 1) := by decide +kernel
theorem dX12_dates_147 : decode cX12_dates 147 = .ok (.iload_n 3, 1) := by decide +kernel
theorem dX12_dates_148 : decode cX12_dates 148 = .ok (.ifCond .lt 74, 3) := by decide +kernel
theorem dX12_dates_151 : decode cX12_dates 151 = .ok (.aload_n 0, 1) := by decide +kernel
theorem dX12_dates_152 : decode cX12_dates 152 = .ok (.getfield 446, 3) := by decide +kernel
theorem dX12_dates_155 : decode cX12_dates 155 = .ok (.iload_n 3, 1) := by decide +kernel
theorem dX12_dates_156 : decode cX12_dates 156 = .ok (.iload_n 3, 1) := by decide +kernel
theorem dX12_dates_157 : decode cX12_dates 157 = .ok (.iconst 1, 1) := by decide +kernel
theorem dX12_dates_158 : decode cX12_dates 158 = .ok (.iadd, 1) := by decide +kernel
theorem dX12_dates_159 : decode cX12_dates 159 = .ok (.bipush 10, 2) := by decide +kernel
theorem dX12_dates_161 : decode cX12_dates 161 = .ok (.if_icmp .ge 23, 3) := by decide +kernel
theorem dX12_dates_164 : decode cX12_dates 164 = .ok (.aload_n 0, 1) := by decide +kernel
theorem dX12_dates_165 : decode cX12_dates 165 = .ok (.getfield 446, 3) := by decide +kernel
theorem dX12_dates_168 : decode cX12_dates 168 = .ok (.iload_n 3, 1) := by decide +kernel
theorem dX12_dates_169 : decode cX12_dates 169 = .ok (.iaload, 1) := by decide +kernel
theorem dX12_dates_170 : decode cX12_dates 170 = .ok (.aload_n 0, 1) := by decide +kernel
theorem dX12_dates_171 : decode cX12_dates 171 = .ok (.getfield 446, 3) := by decide +kernel
theorem dX12_dates_174 : decode cX12_dates 174 = .ok (.iload_n 3, 1) := by decide +kernel
theorem dX12_dates_175 : decode cX12_dates 175 = .ok (.iconst 1, 1) := by decide +kernel
theorem dX12_dates_176 : decode cX12_dates 176 = .ok (.iadd, 1) := by decide +kernel
theorem dX12_dates_177 : decode cX12_dates 177 = .ok (.iaload, 1) := by decide +kernel
theorem dX12_dates_178 : decode cX12_dates 178 = .ok (.invokestatic 233, 3) := by decide +kernel
theorem dX12_dates_181 : decode cX12_dates 181 = .ok (.goto 9, 3) := by decide +kernel
theorem dX12_dates_184 : decode cX12_dates 184 = .ok (.aload_n 0, 1) := by decide +kernel
theorem dX12_dates_185 : decode cX12_dates 185 = .ok (.getfield 446, 3) := by decide +kernel
theorem dX12_dates_188 : decode cX12_dates 188 = .ok (.iload_n 3, 1) := by decide +kernel
theorem dX12_dates_189 : decode cX12_dates 189 = .ok (.iaload, 1) := by decide +kernel
theorem dX12_dates_190 : decode cX12_dates 190 = .ok (.iastore, 1) := by decide +kernel
theorem dX12_dates_191 : decode cX12_dates 191 = .ok (.iload_n 2, 1) := by decide +kernel
theorem dX12_dates_192 : decode cX12_dates 192 = .ok (.ifCond .eq 22, 3) := by decide +kernel
theorem dX12_dates_195 : decode cX12_dates 195 = .ok (.aload_n 0, 1) := by decide +kernel
theorem dX12_dates_196 : decode cX12_dates 196 = .ok (.getfield 446, 3) := by decide +kernel
theorem dX12_dates_199 : decode cX12_dates 199 = .ok (.iload_n 3, 1) := by decide +kernel
theorem dX12_dates_200 : decode cX12_dates 200 = .ok (.iaload, 1) := by decide +kernel
theorem dX12_dates_201 : decode cX12_dates 201 = .ok (.aload_n 0, 1) := by decide +kernel
theorem dX12_dates_202 : decode cX12_dates 202 = .ok (.getfield 449, 3) := by decide +kernel
theorem dX12_dates_205 : decode cX12_dates 205 = .ok (.iload_n 3, 1) := by decide +kernel
theorem dX12_dates_206 : decode cX12_dates 206 = .ok (.iaload, 1) := by decide +kernel
theorem dX12_dates_207 : decode cX12_dates 207 = .ok (.if_icmp .gt 7, 3) := by decide +kernel
theorem dX12_dates_210 : decode cX12_dates 210 = .ok (.iconst 1, 1) := by decide +kernel
theorem dX12_dates_211 : decode cX12_dates 211 = .ok (.goto 4, 3) := by decide +kernel
theorem dX12_dates_214 : decode cX12_dates 214 = .ok (.iconst 0, 1) := by decide +kernel
theorem dX12_dates_215 : decode cX12_dates 215 = .ok (.istore_n 2, 1) := by decide +kernel
theorem dX12_dates_216 : decode cX12_dates 216 = .ok (.iinc 3 (-1), 3) := by decide +kernel
theorem dX12_dates_219 : decode cX12_dates 219 = .ok (.goto (-72), 3) := by decide +kernel
theorem dX12_dates_222 : decode cX12_dates 222 = .ok (.iload_n 2, 1) := by decide +kernel
theorem dX12_dates_223 : decode cX12_dates 223 = .ok (.ireturn, 1) := by decide +kernel
theorem dX12_year_0 : decode cX12_year 0 = .ok (.aload_n 0, 1) := by decide +kernel
theorem dX12_year_1 : decode cX12_year 1 = .ok (.iconst 0, 1) := by decide +kernel
theorem dX12_year_2 : decode cX12_year 2 = .ok (.putfield 3, 3) := by decide +kernel
theorem dX12_year_5 : decode cX12_year 5 = .ok (.iload_n 1, 1) := by decide +kernel
theorem dX12_year_6 : decode cX12_year 6 = .ok (.i2l, 1) := by decide +kernel
theorem dX12_year_7 : decode cX12_year 7 = .ok (.lconst 0, 1) := by decide +kernel
theorem dX12_year_8 : decode cX12_year 8 = .ok (.ldc2_w 429, 3) := by decide +kernel
theorem dX12_year_11 : decode cX12_year 11 = .ok (.invokestatic 25, 3) := by decide +kernel
theorem dX12_year_14 : decode cX12_year 14 = .ok (.ifCond .ne 5, 3) := by decide +kernel
theorem dX12_year_17 : decode cX12_year 17 = .ok (.iconst (-1), 1) := by decide +kernel
theorem dX12_year_18 : decode cX12_year 18 = .ok (.ireturn, 1) := by decide +kernel
theorem dX12_year_19 : decode cX12_year 19 = .ok (.aload_n 0, 1) := by decide +kernel
theorem dX12_year_20 : decode cX12_year 20 = .ok (.iconst 0, 1) := by decide +kernel
theorem dX12_year_21 : decode cX12_year 21 = .ok (.invokevirtual 452, 3) := by decide +kernel
theorem dX12_year_24 : decode cX12_year 24 = .ok (.ifCond .ne 6, 3) := by decide +kernel
theorem dX12_year_27 : decode cX12_year 27 = .ok (.bipush (-2), 2) := by decide +kernel
theorem dX12_year_29 : decode cX12_year 29 = .ok (.ireturn, 1) := by decide +kernel
theorem dX12_year_30 : decode cX12_year 30 = .ok (.aload_n 0, 1) := by decide +kernel
theorem dX12_year_31 : decode cX12_year 31 = .ok (.iconst 0, 1) := by decide +kernel
theorem dX12_year_32 : decode cX12_year 32 = .ok (.putfield 11, 3) := by decide +kernel
theorem dX12_year_35 : decode cX12_year 35 = .ok (.aload_n 0, 1) := by decide +kernel
theorem dX12_year_36 : decode cX12_year 36 = .ok (.aload_n 0, 1) := by decide +kernel
theorem dX12_year_37 : decode cX12_year 37 = .ok (.getfield 446, 3) := by decide +kernel
theorem dX12_year_40 : decode cX12_year 40 = .ok (.iload_n 1, 1) := by decide +kernel
theorem dX12_year_41 : decode cX12_year 41 = .ok (.iaload, 1) := by decide +kernel
theorem dX12_year_42 : decode cX12_year 42 = .ok (.i2l, 1) := by decide +kernel
theorem dX12_year_43 : decode cX12_year 43 = .ok (.invokevirtual 18, 3) := by decide +kernel
theorem dX12_year_46 : decode cX12_year 46 = .ok (.aload_n 0, 1) := by decide +kernel
theorem dX12_year_47 : decode cX12_year 47 = .ok (.aload_n 0, 1) := by decide +kernel
theorem dX12_year_48 : decode cX12_year 48 = .ok (.getfield 449, 3) := by decide +kernel
theorem dX12_year_51 : decode cX12_year 51 = .ok (.iload_n 1, 1) := by decide +kernel
theorem dX12_year_52 : decode cX12_year 52 = .ok (.iaload, 1) := by decide +kernel
theorem dX12_year_53 : decode cX12_year 53 = .ok (.i2l, 1) := by decide +kernel
theorem dX12_year_54 : decode cX12_year 54 = .ok (.invokevirtual 18, 3) := by decide +kernel
theorem dX12_year_57 : decode cX12_year 57 = .ok (.aload_n 0, 1) := by decide +kernel
theorem dX12_year_58 : decode cX12_year 58 = .ok (.getfield 449, 3) := by decide +kernel
theorem dX12_year_61 : decode cX12_year 61 = .ok (.iload_n 1, 1) := by decide +kernel
theorem dX12_year_62 : decode cX12_year 62 = .ok (.iaload, 1) := by decide +kernel
theorem dX12_year_63 : decode cX12_year 63 = .ok (.aload_n 0, 1) := by decide +kernel
theorem dX12_year_64 : decode cX12_year 64 = .ok (.getfield 446, 3) := by decide +kernel
theorem dX12_year_67 : decode cX12_year 67 = .ok (.iload_n 1, 1) := by decide +kernel
theorem dX12_year_68 : decode cX12_year 68 = .ok (.iaload, 1) := by decide +kernel
theorem dX12_year_69 : decode cX12_year 69 = .ok (.isub, 1) := by decide +kernel
theorem dX12_year_70 : decode cX12_year 70 = .ok (.iconst 1, 1) := by decide +kernel
theorem dX12_year_71 : decode cX12_year 71 = .ok (.iadd, 1) := by decide +kernel
theorem dX12_year_72 : decode cX12_year 72 = .ok (.ireturn, 1) := by decide +kernel
theorem dX12_stray_0 : decode cX12_stray 0 = .ok (.aload_n 0, 1) := by decide +kernel
theorem dX12_stray_1 : decode cX12_stray 1 = .ok (.iconst 0, 1) := by decide +kernel
theorem dX12_stray_2 : decode cX12_stray 2 = .ok (.putfield 3, 3) := by decide +kernel
theorem dX12_stray_5 : decode cX12_stray 5 = .ok (.iconst (-1), 1) := by decide +kernel
theorem dX12_stray_6 : decode cX12_stray 6 = .ok (.istore_n 1, 1) := by decide +kernel
theorem dX12_stray_7 : decode cX12_stray 7 = .ok (.iconst 0, 1) := by decide +kernel
theorem dX12_stray_8 : decode cX12_stray 8 = .ok (.istore_n 2, 1) := by decide +kernel
theorem dX12_stray_9 : decode cX12_stray 9 = .ok (.iload_n 2, 1) := by decide +kernel
theorem dX12_stray_10 : decode cX12_stray 10 = .ok (.iconst 1, 1) := by decide +kernel
theorem dX12_stray_11 : decode cX12_stray 11 = .ok (.aload_n 0, 1) := by decide +kernel
theorem dX12_stray_12 : decode cX12_stray 12 = .ok (.getfield 434, 3) := by decide +kernel
theorem dX12_stray_15 : decode cX12_stray 15 = .ok (.ishl, 1) := by decide +kernel
theorem dX12_stray_16 : decode cX12_stray 16 = .ok (.if_icmp .ge 48, 3) := by decide +kernel
theorem dX12_stray_19 : decode cX12_stray 19 = .ok (.iload_n 1, 1) := by decide +kernel
theorem dX12_stray_20 : decode cX12_stray 20 = .ok (.ifCond .lt 14, 3) := by decide +kernel
theorem dX12_stray_23 : decode cX12_stray 23 = .ok (.iload_n 2, 1) := by decide +kernel
theorem dX12_stray_24 : decode cX12_stray 24 = .ok (.invokestatic 383, 3) := by decide +kernel
theorem dX12_stray_27 : decode cX12_stray 27 = .ok (.iload_n 1, 1) := by decide +kernel
theorem dX12_stray_28 : decode cX12_stray 28 = .ok (.invokestatic 383, 3) := by decide +kernel
theorem dX12_stray_31 : decode cX12_stray 31 = .ok (.if_icmp .ge 7, 3) := by decide +kernel
theorem dX12_stray_34 : decode cX12_stray 34 = .ok (.iconst 1, 1) := by decide +kernel
theorem dX12_stray_35 : decode cX12_stray 35 = .ok (.goto 4, 3) := by decide +kernel
theorem dX12_stray_38 : decode cX12_stray 38 = .ok (.iconst 0, 1) := by decide +kernel
theorem dX12_stray_39 : decode cX12_stray 39 = .ok (.istore_n 3, 1) := by decide +kernel
theorem dX12_stray_40 : decode cX12_stray 40 = .ok (.iload_n 3, 1) := by decide +kernel
theorem dX12_stray_41 : decode cX12_stray 41 = .ok (.ifCond .eq 15, 3) := by decide +kernel
theorem dX12_stray_44 : decode cX12_stray 44 = .ok (.aload_n 0, 1) := by decide +kernel
theorem dX12_stray_45 : decode cX12_stray 45 = .ok (.iload_n 2, 1) := by decide +kernel
theorem dX12_stray_46 : decode cX12_stray 46 = .ok (.invokevirtual 452, 3) := by decide +kernel
theorem dX12_stray_49 : decode cX12_stray 49 = .ok (.ifCond .eq 7, 3) := by decide +kernel
theorem dX12_stray_52 : decode cX12_stray 52 = .ok (.iload_n 2, 1) := by decide +kernel
theorem dX12_stray_53 : decode cX12_stray 53 = .ok (.goto 4, 3) := by decide +kernel
theorem dX12_stray_56 : decode cX12_stray 56 = .ok (.iload_n 1, 1) := by decide +kernel
theorem dX12_stray_57 : decode cX12_stray 57 = .ok (.istore_n 1, 1) := by decide +kernel
theorem dX12_stray_58 : decode cX12_stray 58 = .ok (.iinc 2 1, 3) := by decide +kernel
theorem dX12_stray_61 : decode cX12_stray 61 = .ok (.goto (-52), 3) := by decide +kernel
theorem dX12_stray_64 : decode cX12_stray 64 = .ok (.aload_n 0, 1) := by decide +kernel
theorem dX12_stray_65 : decode cX12_stray 65 = .ok (.iconst 0, 1) := by decide +kernel
theorem dX12_stray_66 : decode cX12_stray 66 = .ok (.putfield 11, 3) := by decide +kernel
theorem dX12_stray_69 : decode cX12_stray 69 = .ok (.aload_n 0, 1) := by decide +kernel
theorem dX12_stray_70 : decode cX12_stray 70 = .ok (.iload_n 1, 1) := by decide +kernel
theorem dX12_stray_71 : decode cX12_stray 71 = .ok (.i2l, 1) := by decide +kernel
theorem dX12_stray_72 : decode cX12_stray 72 = .ok (.invokevirtual 18, 3) := by decide +kernel
theorem dX12_stray_75 : decode cX12_stray 75 = .ok (.iload_n 1, 1) := by decide +kernel
theorem dX12_stray_76 : decode cX12_stray 76 = .ok (.invokestatic 383, 3) := by decide +kernel
theorem dX12_stray_79 : decode cX12_stray 79 = .ok (.ireturn, 1) := by decide +kernel
theorem dX12_power_0 : decode cX12_power 0 = .ok (.lconst 1, 1) := by decide +kernel
theorem dX12_power_1 : decode cX12_power 1 = .ok (.lstore_n 3, 1) := by decide +kernel
theorem dX12_power_2 : decode cX12_power 2 = .ok (.iconst 0, 1) := by decide +kernel
theorem dX12_power_3 : decode cX12_power 3 = .ok (.istore 5, 2) := by decide +kernel
theorem dX12_power_5 : decode cX12_power 5 = .ok (.iload 5, 2) := by decide +kernel
theorem dX12_power_7 : decode cX12_power 7 = .ok (.iload_n 2, 1) := by decide +kernel
theorem dX12_power_8 : decode cX12_power 8 = .ok (.if_icmp .ge 13, 3) := by decide +kernel
theorem dX12_power_11 : decode cX12_power 11 = .ok (.lload_n 3, 1) := by decide +kernel
theorem dX12_power_12 : decode cX12_power 12 = .ok (.lload_n 0, 1) := by decide +kernel
theorem dX12_power_13 : decode cX12_power 13 = .ok (.lmul, 1) := by decide +kernel
theorem dX12_power_14 : decode cX12_power 14 = .ok (.lstore_n 3, 1) := by decide +kernel
theorem dX12_power_15 : decode cX12_power 15 = .ok (.iinc 5 1, 3) := by decide +kernel
theorem dX12_power_18 : decode cX12_power 18 = .ok (.goto (-13), 3) := by decide +kernel
theorem dX12_power_21 : decode cX12_power 21 = .ok (.lload_n 3, 1) := by decide +kernel
theorem dX12_power_22 : decode cX12_power 22 = .ok (.lreturn, 1) := by decide +kernel
theorem dX12_once_0 : decode cX12_once 0 = .ok (.iconst 0, 1) := by decide +kernel
theorem dX12_once_1 : decode cX12_once 1 = .ok (.iconst 4, 1) := by decide +kernel
theorem dX12_once_2 : decode cX12_once 2 = .ok (.iload_n 3, 1) := by decide +kernel
theorem dX12_once_3 : decode cX12_once 3 = .ok (.bipush 10, 2) := by decide +kernel
theorem dX12_once_5 : decode cX12_once 5 = .ok (.idiv, 1) := by decide +kernel
theorem dX12_once_6 : decode cX12_once 6 = .ok (.invokestatic 99, 3) := by decide +kernel
theorem dX12_once_9 : decode cX12_once 9 = .ok (.invokestatic 233, 3) := by decide +kernel
theorem dX12_once_12 : decode cX12_once 12 = .ok (.istore 4, 2) := by decide +kernel
theorem dX12_once_14 : decode cX12_once 14 = .ok (.iload_n 2, 1) := by decide +kernel
theorem dX12_once_15 : decode cX12_once 15 = .ok (.i2l, 1) := by decide +kernel
theorem dX12_once_16 : decode cX12_once 16 = .ok (.ldc2_w 38, 3) := by decide +kernel
theorem dX12_once_19 : decode cX12_once 19 = .ok (.iload 4, 2) := by decide +kernel
theorem dX12_once_21 : decode cX12_once 21 = .ok (.invokestatic 455, 3) := by decide +kernel
theorem dX12_once_24 : decode cX12_once 24 = .ok (.lmul, 1) := by decide +kernel
theorem dX12_once_25 : decode cX12_once 25 = .ok (.aload_n 0, 1) := by decide +kernel
theorem dX12_once_26 : decode cX12_once 26 = .ok (.getfield 49, 3) := by decide +kernel
theorem dX12_once_29 : decode cX12_once 29 = .ok (.iload_n 1, 1) := by decide +kernel
theorem dX12_once_30 : decode cX12_once 30 = .ok (.iaload, 1) := by decide +kernel
theorem dX12_once_31 : decode cX12_once 31 = .ok (.i2l, 1) := by decide +kernel
theorem dX12_once_32 : decode cX12_once 32 = .ok (.iload 4, 2) := by decide +kernel
theorem dX12_once_34 : decode cX12_once 34 = .ok (.invokestatic 455, 3) := by decide +kernel
theorem dX12_once_37 : decode cX12_once 37 = .ok (.ldiv, 1) := by decide +kernel
theorem dX12_once_38 : decode cX12_once 38 = .ok (.lreturn, 1) := by decide +kernel
theorem dX12_was_0 : decode cX12_was 0 = .ok (.aload_n 0, 1) := by decide +kernel
theorem dX12_was_1 : decode cX12_was 1 = .ok (.iconst 0, 1) := by decide +kernel
theorem dX12_was_2 : decode cX12_was 2 = .ok (.putfield 3, 3) := by decide +kernel
theorem dX12_was_5 : decode cX12_was 5 = .ok (.iload_n 1, 1) := by decide +kernel
theorem dX12_was_6 : decode cX12_was 6 = .ok (.i2l, 1) := by decide +kernel
theorem dX12_was_7 : decode cX12_was 7 = .ok (.lconst 0, 1) := by decide +kernel
theorem dX12_was_8 : decode cX12_was 8 = .ok (.ldc2_w 429, 3) := by decide +kernel
theorem dX12_was_11 : decode cX12_was 11 = .ok (.invokestatic 25, 3) := by decide +kernel
theorem dX12_was_14 : decode cX12_was 14 = .ok (.ifCond .eq 31, 3) := by decide +kernel
theorem dX12_was_17 : decode cX12_was 17 = .ok (.aload_n 0, 1) := by decide +kernel
theorem dX12_was_18 : decode cX12_was 18 = .ok (.iload_n 2, 1) := by decide +kernel
theorem dX12_was_19 : decode cX12_was 19 = .ok (.invokevirtual 52, 3) := by decide +kernel
theorem dX12_was_22 : decode cX12_was 22 = .ok (.ifCond .eq 23, 3) := by decide +kernel
theorem dX12_was_25 : decode cX12_was 25 = .ok (.iload_n 3, 1) := by decide +kernel
theorem dX12_was_26 : decode cX12_was 26 = .ok (.i2l, 1) := by decide +kernel
theorem dX12_was_27 : decode cX12_was 27 = .ok (.lconst 0, 1) := by decide +kernel
theorem dX12_was_28 : decode cX12_was 28 = .ok (.ldc2_w 459, 3) := by decide +kernel
theorem dX12_was_31 : decode cX12_was 31 = .ok (.invokestatic 25, 3) := by decide +kernel
theorem dX12_was_34 : decode cX12_was 34 = .ok (.ifCond .eq 11, 3) := by decide +kernel
theorem dX12_was_37 : decode cX12_was 37 = .ok (.iload 4, 2) := by decide +kernel
theorem dX12_was_39 : decode cX12_was 39 = .ok (.invokestatic 431, 3) := by decide +kernel
theorem dX12_was_42 : decode cX12_was 42 = .ok (.ifCond .ne 5, 3) := by decide +kernel
theorem dX12_was_45 : decode cX12_was 45 = .ok (.iconst (-1), 1) := by decide +kernel
theorem dX12_was_46 : decode cX12_was 46 = .ok (.ireturn, 1) := by decide +kernel
theorem dX12_was_47 : decode cX12_was 47 = .ok (.aload_n 0, 1) := by decide +kernel
theorem dX12_was_48 : decode cX12_was 48 = .ok (.iconst 0, 1) := by decide +kernel
theorem dX12_was_49 : decode cX12_was 49 = .ok (.invokevirtual 452, 3) := by decide +kernel
theorem dX12_was_52 : decode cX12_was 52 = .ok (.ifCond .ne 6, 3) := by decide +kernel
theorem dX12_was_55 : decode cX12_was 55 = .ok (.bipush (-2), 2) := by decide +kernel
theorem dX12_was_57 : decode cX12_was 57 = .ok (.ireturn, 1) := by decide +kernel
theorem dX12_was_58 : decode cX12_was 58 = .ok (.aload_n 0, 1) := by decide +kernel
theorem dX12_was_59 : decode cX12_was 59 = .ok (.iconst 0, 1) := by decide +kernel
theorem dX12_was_60 : decode cX12_was 60 = .ok (.putfield 11, 3) := by decide +kernel
theorem dX12_was_63 : decode cX12_was 63 = .ok (.aload_n 0, 1) := by decide +kernel
theorem dX12_was_64 : decode cX12_was 64 = .ok (.aload_n 0, 1) := by decide +kernel
theorem dX12_was_65 : decode cX12_was 65 = .ok (.iload_n 2, 1) := by decide +kernel
theorem dX12_was_66 : decode cX12_was 66 = .ok (.iload_n 3, 1) := by decide +kernel
theorem dX12_was_67 : decode cX12_was 67 = .ok (.iload 4, 2) := by decide +kernel
theorem dX12_was_69 : decode cX12_was 69 = .ok (.aload_n 0, 1) := by decide +kernel
theorem dX12_was_70 : decode cX12_was 70 = .ok (.getfield 449, 3) := by decide +kernel
theorem dX12_was_73 : decode cX12_was 73 = .ok (.iload_n 1, 1) := by decide +kernel
theorem dX12_was_74 : decode cX12_was 74 = .ok (.iaload, 1) := by decide +kernel
theorem dX12_was_75 : decode cX12_was 75 = .ok (.isub, 1) := by decide +kernel
theorem dX12_was_76 : decode cX12_was 76 = .ok (.invokevirtual 461, 3) := by decide +kernel
theorem dX12_was_79 : decode cX12_was 79 = .ok (.invokevirtual 18, 3) := by decide +kernel
theorem dX12_was_82 : decode cX12_was 82 = .ok (.aload_n 0, 1) := by decide +kernel
theorem dX12_was_83 : decode cX12_was 83 = .ok (.aload_n 0, 1) := by decide +kernel
theorem dX12_was_84 : decode cX12_was 84 = .ok (.iload_n 2, 1) := by decide +kernel
theorem dX12_was_85 : decode cX12_was 85 = .ok (.iload_n 3, 1) := by decide +kernel
theorem dX12_was_86 : decode cX12_was 86 = .ok (.iload 4, 2) := by decide +kernel
theorem dX12_was_88 : decode cX12_was 88 = .ok (.aload_n 0, 1) := by decide +kernel
theorem dX12_was_89 : decode cX12_was 89 = .ok (.getfield 446, 3) := by decide +kernel
theorem dX12_was_92 : decode cX12_was 92 = .ok (.iload_n 1, 1) := by decide +kernel
theorem dX12_was_93 : decode cX12_was 93 = .ok (.iaload, 1) := by decide +kernel
theorem dX12_was_94 : decode cX12_was 94 = .ok (.isub, 1) := by decide +kernel
theorem dX12_was_95 : decode cX12_was 95 = .ok (.invokevirtual 461, 3) := by decide +kernel
theorem dX12_was_98 : decode cX12_was 98 = .ok (.invokevirtual 18, 3) := by decide +kernel
theorem dX12_was_101 : decode cX12_was 101 = .ok (.iconst 0, 1) := by decide +kernel
theorem dX12_was_102 : decode cX12_was 102 = .ok (.ireturn, 1) := by decide +kernel
theorem dX12_told_0 : decode cX12_told 0 = .ok (.aload_n 0, 1) := by decide +kernel
theorem dX12_told_1 : decode cX12_told 1 = .ok (.iconst 0, 1) := by decide +kernel
theorem dX12_told_2 : decode cX12_told 2 = .ok (.putfield 3, 3) := by decide +kernel
theorem dX12_told_5 : decode cX12_told 5 = .ok (.aload_n 0, 1) := by decide +kernel
theorem dX12_told_6 : decode cX12_told 6 = .ok (.iload_n 1, 1) := by decide +kernel
theorem dX12_told_7 : decode cX12_told 7 = .ok (.invokevirtual 236, 3) := by decide +kernel
theorem dX12_told_10 : decode cX12_told 10 = .ok (.ifCond .eq 17, 3) := by decide +kernel
theorem dX12_told_13 : decode cX12_told 13 = .ok (.iload_n 2, 1) := by decide +kernel
theorem dX12_told_14 : decode cX12_told 14 = .ok (.i2l, 1) := by decide +kernel
theorem dX12_told_15 : decode cX12_told 15 = .ok (.ldc2_w 88, 3) := by decide +kernel
theorem dX12_told_18 : decode cX12_told 18 = .ok (.ldc2_w 32, 3) := by decide +kernel
theorem dX12_told_21 : decode cX12_told 21 = .ok (.invokestatic 25, 3) := by decide +kernel
theorem dX12_told_24 : decode cX12_told 24 = .ok (.ifCond .ne 5, 3) := by decide +kernel
theorem dX12_told_27 : decode cX12_told 27 = .ok (.iconst 0, 1) := by decide +kernel
theorem dX12_told_28 : decode cX12_told 28 = .ok (.ireturn, 1) := by decide +kernel
theorem dX12_told_29 : decode cX12_told 29 = .ok (.aload_n 0, 1) := by decide +kernel
theorem dX12_told_30 : decode cX12_told 30 = .ok (.getfield 464, 3) := by decide +kernel
theorem dX12_told_33 : decode cX12_told 33 = .ok (.iload_n 1, 1) := by decide +kernel
theorem dX12_told_34 : decode cX12_told 34 = .ok (.iload_n 2, 1) := by decide +kernel
theorem dX12_told_35 : decode cX12_told 35 = .ok (.iconst 1, 1) := by decide +kernel
theorem dX12_told_36 : decode cX12_told 36 = .ok (.iadd, 1) := by decide +kernel
theorem dX12_told_37 : decode cX12_told 37 = .ok (.iastore, 1) := by decide +kernel
theorem dX12_told_38 : decode cX12_told 38 = .ok (.iconst 1, 1) := by decide +kernel
theorem dX12_told_39 : decode cX12_told 39 = .ok (.ireturn, 1) := by decide +kernel
theorem dX12_does_0 : decode cX12_does 0 = .ok (.aload_n 0, 1) := by decide +kernel
theorem dX12_does_1 : decode cX12_does 1 = .ok (.iconst 0, 1) := by decide +kernel
theorem dX12_does_2 : decode cX12_does 2 = .ok (.putfield 3, 3) := by decide +kernel
theorem dX12_does_5 : decode cX12_does 5 = .ok (.iload_n 1, 1) := by decide +kernel
theorem dX12_does_6 : decode cX12_does 6 = .ok (.invokestatic 82, 3) := by decide +kernel
theorem dX12_does_9 : decode cX12_does 9 = .ok (.ifCond .eq 23, 3) := by decide +kernel
theorem dX12_does_12 : decode cX12_does 12 = .ok (.aload_n 0, 1) := by decide +kernel
theorem dX12_does_13 : decode cX12_does 13 = .ok (.iload_n 2, 1) := by decide +kernel
theorem dX12_does_14 : decode cX12_does 14 = .ok (.invokevirtual 52, 3) := by decide +kernel
theorem dX12_does_17 : decode cX12_does 17 = .ok (.ifCond .eq 15, 3) := by decide +kernel
theorem dX12_does_20 : decode cX12_does 20 = .ok (.iload_n 3, 1) := by decide +kernel
theorem dX12_does_21 : decode cX12_does 21 = .ok (.i2l, 1) := by decide +kernel
theorem dX12_does_22 : decode cX12_does 22 = .ok (.lconst 1, 1) := by decide +kernel
theorem dX12_does_23 : decode cX12_does 23 = .ok (.ldc2_w 32, 3) := by decide +kernel
theorem dX12_does_26 : decode cX12_does 26 = .ok (.invokestatic 25, 3) := by decide +kernel
theorem dX12_does_29 : decode cX12_does 29 = .ok (.ifCond .ne 5, 3) := by decide +kernel
theorem dX12_does_32 : decode cX12_does 32 = .ok (.iconst (-1), 1) := by decide +kernel
theorem dX12_does_33 : decode cX12_does 33 = .ok (.ireturn, 1) := by decide +kernel
theorem dX12_does_34 : decode cX12_does 34 = .ok (.iconst 0, 1) := by decide +kernel
theorem dX12_does_35 : decode cX12_does 35 = .ok (.istore 4, 2) := by decide +kernel
theorem dX12_does_37 : decode cX12_does 37 = .ok (.iload 4, 2) := by decide +kernel
theorem dX12_does_39 : decode cX12_does 39 = .ok (.iconst 4, 1) := by decide +kernel
theorem dX12_does_40 : decode cX12_does 40 = .ok (.if_icmp .ge 25, 3) := by decide +kernel
theorem dX12_does_43 : decode cX12_does 43 = .ok (.aload_n 0, 1) := by decide +kernel
theorem dX12_does_44 : decode cX12_does 44 = .ok (.getfield 467, 3) := by decide +kernel
theorem dX12_does_47 : decode cX12_does 47 = .ok (.iload 4, 2) := by decide +kernel
theorem dX12_does_49 : decode cX12_does 49 = .ok (.lconst 0, 1) := by decide +kernel
theorem dX12_does_50 : decode cX12_does 50 = .ok (.lastore, 1) := by decide +kernel
theorem dX12_does_51 : decode cX12_does 51 = .ok (.aload_n 0, 1) := by decide +kernel
theorem dX12_does_52 : decode cX12_does 52 = .ok (.getfield 470, 3) := by decide +kernel
theorem dX12_does_55 : decode cX12_does 55 = .ok (.iload 4, 2) := by decide +kernel
theorem dX12_does_57 : decode cX12_does 57 = .ok (.lconst 0, 1) := by decide +kernel
theorem dX12_does_58 : decode cX12_does 58 = .ok (.lastore, 1) := by decide +kernel
theorem dX12_does_59 : decode cX12_does 59 = .ok (.iinc 4 1, 3) := by decide +kernel
theorem dX12_does_62 : decode cX12_does 62 = .ok (.goto (-25), 3) := by decide +kernel
theorem dX12_does_65 : decode cX12_does 65 = .ok (.iconst 0, 1) := by decide +kernel
theorem dX12_does_66 : decode cX12_does 66 = .ok (.istore 4, 2) := by decide +kernel
theorem dX12_does_68 : decode cX12_does 68 = .ok (.iload 4, 2) := by decide +kernel
theorem dX12_does_70 : decode cX12_does 70 = .ok (.bipush 12, 2) := by decide +kernel
theorem dX12_does_72 : decode cX12_does 72 = .ok (.aload_n 0, 1) := by decide +kernel
theorem dX12_does_73 : decode cX12_does 73 = .ok (.getfield 29, 3) := by decide +kernel
theorem dX12_does_76 : decode cX12_does 76 = .ok (.imul, 1) := by decide +kernel
theorem dX12_does_77 : decode cX12_does 77 = .ok (.if_icmp .ge 105, 3) := by decide +kernel
theorem dX12_does_80 : decode cX12_does 80 = .ok (.aload_n 0, 1) := by decide +kernel
theorem dX12_does_81 : decode cX12_does 81 = .ok (.getfield 464, 3) := by decide +kernel
theorem dX12_does_84 : decode cX12_does 84 = .ok (.iload 4, 2) := by decide +kernel
theorem dX12_does_86 : decode cX12_does 86 = .ok (.bipush 12, 2) := by decide +kernel
theorem dX12_does_88 : decode cX12_does 88 = .ok (.idiv, 1) := by decide +kernel
theorem dX12_does_89 : decode cX12_does 89 = .ok (.iaload, 1) := by decide +kernel
theorem dX12_does_90 : decode cX12_does 90 = .ok (.istore 5, 2) := by decide +kernel
theorem dX12_does_92 : decode cX12_does 92 = .ok (.aload_n 0, 1) := by decide +kernel
theorem dX12_does_93 : decode cX12_does 93 = .ok (.iload_n 1, 1) := by decide +kernel
theorem dX12_does_94 : decode cX12_does 94 = .ok (.iload 4, 2) := by decide +kernel
theorem dX12_does_96 : decode cX12_does 96 = .ok (.iload_n 2, 1) := by decide +kernel
theorem dX12_does_97 : decode cX12_does 97 = .ok (.invokevirtual 254, 3) := by decide +kernel
theorem dX12_does_100 : decode cX12_does 100 = .ok (.ifCond .eq 76, 3) := by decide +kernel
theorem dX12_does_103 : decode cX12_does 103 = .ok (.iload 5, 2) := by decide +kernel
theorem dX12_does_105 : decode cX12_does 105 = .ok (.iload_n 3, 1) := by decide +kernel
theorem dX12_does_106 : decode cX12_does 106 = .ok (.iconst 1, 1) := by decide +kernel
theorem dX12_does_107 : decode cX12_does 107 = .ok (.iadd, 1) := by decide +kernel
theorem dX12_does_108 : decode cX12_does 108 = .ok (.if_icmp .gt 68, 3) := by decide +kernel
theorem dX12_does_111 : decode cX12_does 111 = .ok (.iconst 2, 1) := by decide +kernel
theorem dX12_does_112 : decode cX12_does 112 = .ok (.iload 5, 2) := by decide +kernel
theorem dX12_does_114 : decode cX12_does 114 = .ok (.ifCond .ne 7, 3) := by decide +kernel
theorem dX12_does_117 : decode cX12_does 117 = .ok (.iconst 1, 1) := by decide +kernel
theorem dX12_does_118 : decode cX12_does 118 = .ok (.goto 4, 3) := by decide +kernel
theorem dX12_does_121 : decode cX12_does 121 = .ok (.iconst 0, 1) := by decide +kernel
theorem dX12_does_122 : decode cX12_does 122 = .ok (.invokestatic 207, 3) := by decide +kernel
theorem dX12_does_125 : decode cX12_does 125 = .ok (.imul, 1) := by decide +kernel
theorem dX12_does_126 : decode cX12_does 126 = .ok (.iload 4, 2) := by decide +kernel
theorem dX12_does_128 : decode cX12_does 128 = .ok (.bipush 12, 2) := by decide +kernel
theorem dX12_does_130 : decode cX12_does 130 = .ok (.irem, 1) := by decide +kernel
theorem dX12_does_131 : decode cX12_does 131 = .ok (.iload_n 3, 1) := by decide +kernel
theorem dX12_does_132 : decode cX12_does 132 = .ok (.if_icmp .ge 7, 3) := by decide +kernel
theorem dX12_does_135 : decode cX12_does 135 = .ok (.iconst 1, 1) := by decide +kernel
theorem dX12_does_136 : decode cX12_does 136 = .ok (.goto 4, 3) := by decide +kernel
theorem dX12_does_139 : decode cX12_does 139 = .ok (.iconst 0, 1) := by decide +kernel
theorem dX12_does_140 : decode cX12_does 140 = .ok (.invokestatic 207, 3) := by decide +kernel
theorem dX12_does_143 : decode cX12_does 143 = .ok (.iadd, 1) := by decide +kernel
theorem dX12_does_144 : decode cX12_does 144 = .ok (.istore 6, 2) := by decide +kernel
theorem dX12_does_146 : decode cX12_does 146 = .ok (.aload_n 0, 1) := by decide +kernel
theorem dX12_does_147 : decode cX12_does 147 = .ok (.getfield 467, 3) := by decide +kernel
theorem dX12_does_150 : decode cX12_does 150 = .ok (.iload 6, 2) := by decide +kernel
theorem dX12_does_152 : decode cX12_does 152 = .ok (.dup2, 1) := by decide +kernel
theorem dX12_does_153 : decode cX12_does 153 = .ok (.laload, 1) := by decide +kernel
theorem dX12_does_154 : decode cX12_does 154 = .ok (.aload_n 0, 1) := by decide +kernel
theorem dX12_does_155 : decode cX12_does 155 = .ok (.iload_n 1, 1) := by decide +kernel
theorem dX12_does_156 : decode cX12_does 156 = .ok (.iload 4, 2) := by decide +kernel
theorem dX12_does_158 : decode cX12_does 158 = .ok (.iload_n 2, 1) := by decide +kernel
theorem dX12_does_159 : decode cX12_does 159 = .ok (.invokevirtual 92, 3) := by decide +kernel
theorem dX12_does_162 : decode cX12_does 162 = .ok (.i2l, 1) := by decide +kernel
theorem dX12_does_163 : decode cX12_does 163 = .ok (.ladd, 1) := by decide +kernel
theorem dX12_does_164 : decode cX12_does 164 = .ok (.lastore, 1) := by decide +kernel
theorem dX12_does_165 : decode cX12_does 165 = .ok (.aload_n 0, 1) := by decide +kernel
theorem dX12_does_166 : decode cX12_does 166 = .ok (.getfield 470, 3) := by decide +kernel
theorem dX12_does_169 : decode cX12_does 169 = .ok (.iload 6, 2) := by decide +kernel
theorem dX12_does_171 : decode cX12_does 171 = .ok (.dup2, 1) := by decide +kernel
theorem dX12_does_172 : decode cX12_does 172 = .ok (.laload, 1) := by decide +kernel
theorem dX12_does_173 : decode cX12_does 173 = .ok (.lconst 1, 1) := by decide +kernel
theorem dX12_does_174 : decode cX12_does 174 = .ok (.ladd, 1) := by decide +kernel
theorem dX12_does_175 : decode cX12_does 175 = .ok (.lastore, 1) := by decide +kernel
theorem dX12_does_176 : decode cX12_does 176 = .ok (.iinc 4 1, 3) := by decide +kernel
theorem dX12_does_179 : decode cX12_does 179 = .ok (.goto (-111), 3) := by decide +kernel
theorem dX12_does_182 : decode cX12_does 182 = .ok (.iconst 0, 1) := by decide +kernel
theorem dX12_does_183 : decode cX12_does 183 = .ok (.istore 4, 2) := by decide +kernel
theorem dX12_does_185 : decode cX12_does 185 = .ok (.iload 4, 2) := by decide +kernel
theorem dX12_does_187 : decode cX12_does 187 = .ok (.iconst 4, 1) := by decide +kernel
theorem dX12_does_188 : decode cX12_does 188 = .ok (.if_icmp .ge 24, 3) := by decide +kernel
theorem dX12_does_191 : decode cX12_does 191 = .ok (.aload_n 0, 1) := by decide +kernel
theorem dX12_does_192 : decode cX12_does 192 = .ok (.getfield 470, 3) := by decide +kernel
theorem dX12_does_195 : decode cX12_does 195 = .ok (.iload 4, 2) := by decide +kernel
theorem dX12_does_197 : decode cX12_does 197 = .ok (.laload, 1) := by decide +kernel
theorem dX12_does_198 : decode cX12_does 198 = .ok (.lconst 0, 1) := by decide +kernel
theorem dX12_does_199 : decode cX12_does 199 = .ok (.lcmp, 1) := by decide +kernel
theorem dX12_does_200 : decode cX12_does 200 = .ok (.ifCond .ne 6, 3) := by decide +kernel
theorem dX12_does_203 : decode cX12_does 203 = .ok (.bipush (-2), 2) := by decide +kernel
theorem dX12_does_205 : decode cX12_does 205 = .ok (.ireturn, 1) := by decide +kernel
theorem dX12_does_206 : decode cX12_does 206 = .ok (.iinc 4 1, 3) := by decide +kernel
theorem dX12_does_209 : decode cX12_does 209 = .ok (.goto (-24), 3) := by decide +kernel
theorem dX12_does_212 : decode cX12_does 212 = .ok (.aload_n 0, 1) := by decide +kernel
theorem dX12_does_213 : decode cX12_does 213 = .ok (.getfield 467, 3) := by decide +kernel
theorem dX12_does_216 : decode cX12_does 216 = .ok (.iconst 0, 1) := by decide +kernel
theorem dX12_does_217 : decode cX12_does 217 = .ok (.laload, 1) := by decide +kernel
theorem dX12_does_218 : decode cX12_does 218 = .ok (.aload_n 0, 1) := by decide +kernel
theorem dX12_does_219 : decode cX12_does 219 = .ok (.getfield 470, 3) := by decide +kernel
theorem dX12_does_222 : decode cX12_does 222 = .ok (.iconst 1, 1) := by decide +kernel
theorem dX12_does_223 : decode cX12_does 223 = .ok (.laload, 1) := by decide +kernel
theorem dX12_does_224 : decode cX12_does 224 = .ok (.lmul, 1) := by decide +kernel
theorem dX12_does_225 : decode cX12_does 225 = .ok (.aload_n 0, 1) := by decide +kernel
theorem dX12_does_226 : decode cX12_does 226 = .ok (.getfield 467, 3) := by decide +kernel
theorem dX12_does_229 : decode cX12_does 229 = .ok (.iconst 1, 1) := by decide +kernel
theorem dX12_does_230 : decode cX12_does 230 = .ok (.laload, 1) := by decide +kernel
theorem dX12_does_231 : decode cX12_does 231 = .ok (.aload_n 0, 1) := by decide +kernel
theorem dX12_does_232 : decode cX12_does 232 = .ok (.getfield 470, 3) := by decide +kernel
theorem dX12_does_235 : decode cX12_does 235 = .ok (.iconst 0, 1) := by decide +kernel
theorem dX12_does_236 : decode cX12_does 236 = .ok (.laload, 1) := by decide +kernel
theorem dX12_does_237 : decode cX12_does 237 = .ok (.lmul, 1) := by decide +kernel
theorem dX12_does_238 : decode cX12_does 238 = .ok (.lsub, 1) := by decide +kernel
theorem dX12_does_239 : decode cX12_does 239 = .ok (.lstore 4, 2) := by decide +kernel
theorem dX12_does_241 : decode cX12_does 241 = .ok (.aload_n 0, 1) := by decide +kernel
theorem dX12_does_242 : decode cX12_does 242 = .ok (.getfield 470, 3) := by decide +kernel
theorem dX12_does_245 : decode cX12_does 245 = .ok (.iconst 0, 1) := by decide +kernel
theorem dX12_does_246 : decode cX12_does 246 = .ok (.laload, 1) := by decide +kernel
theorem dX12_does_247 : decode cX12_does 247 = .ok (.aload_n 0, 1) := by decide +kernel
theorem dX12_does_248 : decode cX12_does 248 = .ok (.getfield 470, 3) := by decide +kernel
theorem dX12_does_251 : decode cX12_does 251 = .ok (.iconst 1, 1) := by decide +kernel
theorem dX12_does_252 : decode cX12_does 252 = .ok (.laload, 1) := by decide +kernel
theorem dX12_does_253 : decode cX12_does 253 = .ok (.lmul, 1) := by decide +kernel
theorem dX12_does_254 : decode cX12_does 254 = .ok (.lstore 6, 2) := by decide +kernel
theorem dX12_does_256 : decode cX12_does 256 = .ok (.aload_n 0, 1) := by decide +kernel
theorem dX12_does_257 : decode cX12_does 257 = .ok (.getfield 467, 3) := by decide +kernel
theorem dX12_does_260 : decode cX12_does 260 = .ok (.iconst 2, 1) := by decide +kernel
theorem dX12_does_261 : decode cX12_does 261 = .ok (.laload, 1) := by decide +kernel
theorem dX12_does_262 : decode cX12_does 262 = .ok (.aload_n 0, 1) := by decide +kernel
theorem dX12_does_263 : decode cX12_does 263 = .ok (.getfield 470, 3) := by decide +kernel
theorem dX12_does_266 : decode cX12_does 266 = .ok (.iconst 3, 1) := by decide +kernel
theorem dX12_does_267 : decode cX12_does 267 = .ok (.laload, 1) := by decide +kernel
theorem dX12_does_268 : decode cX12_does 268 = .ok (.lmul, 1) := by decide +kernel
theorem dX12_does_269 : decode cX12_does 269 = .ok (.aload_n 0, 1) := by decide +kernel
theorem dX12_does_270 : decode cX12_does 270 = .ok (.getfield 467, 3) := by decide +kernel
theorem dX12_does_273 : decode cX12_does 273 = .ok (.iconst 3, 1) := by decide +kernel
theorem dX12_does_274 : decode cX12_does 274 = .ok (.laload, 1) := by decide +kernel
theorem dX12_does_275 : decode cX12_does 275 = .ok (.aload_n 0, 1) := by decide +kernel
theorem dX12_does_276 : decode cX12_does 276 = .ok (.getfield 470, 3) := by decide +kernel
theorem dX12_does_279 : decode cX12_does 279 = .ok (.iconst 2, 1) := by decide +kernel
theorem dX12_does_280 : decode cX12_does 280 = .ok (.laload, 1) := by decide +kernel
theorem dX12_does_281 : decode cX12_does 281 = .ok (.lmul, 1) := by decide +kernel
theorem dX12_does_282 : decode cX12_does 282 = .ok (.lsub, 1) := by decide +kernel
theorem dX12_does_283 : decode cX12_does 283 = .ok (.lstore 8, 2) := by decide +kernel
theorem dX12_does_285 : decode cX12_does 285 = .ok (.aload_n 0, 1) := by decide +kernel
theorem dX12_does_286 : decode cX12_does 286 = .ok (.getfield 470, 3) := by decide +kernel
theorem dX12_does_289 : decode cX12_does 289 = .ok (.iconst 2, 1) := by decide +kernel
theorem dX12_does_290 : decode cX12_does 290 = .ok (.laload, 1) := by decide +kernel
theorem dX12_does_291 : decode cX12_does 291 = .ok (.aload_n 0, 1) := by decide +kernel
theorem dX12_does_292 : decode cX12_does 292 = .ok (.getfield 470, 3) := by decide +kernel
theorem dX12_does_295 : decode cX12_does 295 = .ok (.iconst 3, 1) := by decide +kernel
theorem dX12_does_296 : decode cX12_does 296 = .ok (.laload, 1) := by decide +kernel
theorem dX12_does_297 : decode cX12_does 297 = .ok (.lmul, 1) := by decide +kernel
theorem dX12_does_298 : decode cX12_does 298 = .ok (.lstore 10, 2) := by decide +kernel
theorem dX12_does_300 : decode cX12_does 300 = .ok (.lload 4, 2) := by decide +kernel
theorem dX12_does_302 : decode cX12_does 302 = .ok (.lload 10, 2) := by decide +kernel
theorem dX12_does_304 : decode cX12_does 304 = .ok (.lmul, 1) := by decide +kernel
theorem dX12_does_305 : decode cX12_does 305 = .ok (.lload 8, 2) := by decide +kernel
theorem dX12_does_307 : decode cX12_does 307 = .ok (.lload 6, 2) := by decide +kernel
theorem dX12_does_309 : decode cX12_does 309 = .ok (.lmul, 1) := by decide +kernel
theorem dX12_does_310 : decode cX12_does 310 = .ok (.lsub, 1) := by decide +kernel
theorem dX12_does_311 : decode cX12_does 311 = .ok (.lstore 12, 2) := by decide +kernel
theorem dX12_does_313 : decode cX12_does 313 = .ok (.aload_n 0, 1) := by decide +kernel
theorem dX12_does_314 : decode cX12_does 314 = .ok (.iconst 0, 1) := by decide +kernel
theorem dX12_does_315 : decode cX12_does 315 = .ok (.putfield 11, 3) := by decide +kernel
theorem dX12_does_318 : decode cX12_does 318 = .ok (.aload_n 0, 1) := by decide +kernel
theorem dX12_does_319 : decode cX12_does 319 = .ok (.lload 12, 2) := by decide +kernel
theorem dX12_does_321 : decode cX12_does 321 = .ok (.lload 6, 2) := by decide +kernel
theorem dX12_does_323 : decode cX12_does 323 = .ok (.lload 10, 2) := by decide +kernel
theorem dX12_does_325 : decode cX12_does 325 = .ok (.lmul, 1) := by decide +kernel
theorem dX12_does_326 : decode cX12_does 326 = .ok (.invokevirtual 258, 3) := by decide +kernel
theorem dX12_does_329 : decode cX12_does 329 = .ok (.lload 12, 2) := by decide +kernel
theorem dX12_does_331 : decode cX12_does 331 = .ok (.lconst 0, 1) := by decide +kernel
theorem dX12_does_332 : decode cX12_does 332 = .ok (.lcmp, 1) := by decide +kernel
theorem dX12_does_333 : decode cX12_does 333 = .ok (.ifCond .le 7, 3) := by decide +kernel
theorem dX12_does_336 : decode cX12_does 336 = .ok (.iconst 1, 1) := by decide +kernel
theorem dX12_does_337 : decode cX12_does 337 = .ok (.goto 15, 3) := by decide +kernel
theorem dX12_does_340 : decode cX12_does 340 = .ok (.lload 12, 2) := by decide +kernel
theorem dX12_does_342 : decode cX12_does 342 = .ok (.lconst 0, 1) := by decide +kernel
theorem dX12_does_343 : decode cX12_does 343 = .ok (.lcmp, 1) := by decide +kernel
theorem dX12_does_344 : decode cX12_does 344 = .ok (.ifCond .ge 7, 3) := by decide +kernel
theorem dX12_does_347 : decode cX12_does 347 = .ok (.iconst 2, 1) := by decide +kernel
theorem dX12_does_348 : decode cX12_does 348 = .ok (.goto 4, 3) := by decide +kernel
theorem dX12_does_351 : decode cX12_does 351 = .ok (.iconst 0, 1) := by decide +kernel
theorem dX12_does_352 : decode cX12_does 352 = .ok (.ireturn, 1) := by decide +kernel
theorem dX12_keep_0 : decode cX12_keep 0 = .ok (.aload_n 0, 1) := by decide +kernel
theorem dX12_keep_1 : decode cX12_keep 1 = .ok (.iconst 0, 1) := by decide +kernel
theorem dX12_keep_2 : decode cX12_keep 2 = .ok (.putfield 3, 3) := by decide +kernel
theorem dX12_keep_5 : decode cX12_keep 5 = .ok (.iload_n 1, 1) := by decide +kernel
theorem dX12_keep_6 : decode cX12_keep 6 = .ok (.i2l, 1) := by decide +kernel
theorem dX12_keep_7 : decode cX12_keep 7 = .ok (.lconst 0, 1) := by decide +kernel
theorem dX12_keep_8 : decode cX12_keep 8 = .ok (.ldc2_w 323, 3) := by decide +kernel
theorem dX12_keep_11 : decode cX12_keep 11 = .ok (.invokestatic 25, 3) := by decide +kernel
theorem dX12_keep_14 : decode cX12_keep 14 = .ok (.ifCond .ne 5, 3) := by decide +kernel
theorem dX12_keep_17 : decode cX12_keep 17 = .ok (.iconst 0, 1) := by decide +kernel
theorem dX12_keep_18 : decode cX12_keep 18 = .ok (.ireturn, 1) := by decide +kernel
theorem dX12_keep_19 : decode cX12_keep 19 = .ok (.aload_n 0, 1) := by decide +kernel
theorem dX12_keep_20 : decode cX12_keep 20 = .ok (.getfield 473, 3) := by decide +kernel
theorem dX12_keep_23 : decode cX12_keep 23 = .ok (.iload_n 1, 1) := by decide +kernel
theorem dX12_keep_24 : decode cX12_keep 24 = .ok (.iconst 1, 1) := by decide +kernel
theorem dX12_keep_25 : decode cX12_keep 25 = .ok (.bastore, 1) := by decide +kernel
theorem dX12_keep_26 : decode cX12_keep 26 = .ok (.iconst 0, 1) := by decide +kernel
theorem dX12_keep_27 : decode cX12_keep 27 = .ok (.istore_n 2, 1) := by decide +kernel
theorem dX12_keep_28 : decode cX12_keep 28 = .ok (.iload_n 2, 1) := by decide +kernel
theorem dX12_keep_29 : decode cX12_keep 29 = .ok (.aload_n 0, 1) := by decide +kernel
theorem dX12_keep_30 : decode cX12_keep 30 = .ok (.getfield 75, 3) := by decide +kernel
theorem dX12_keep_33 : decode cX12_keep 33 = .ok (.arraylength, 1) := by decide +kernel
theorem dX12_keep_34 : decode cX12_keep 34 = .ok (.if_icmp .ge 29, 3) := by decide +kernel
theorem dX12_keep_37 : decode cX12_keep 37 = .ok (.aload_n 0, 1) := by decide +kernel
theorem dX12_keep_38 : decode cX12_keep 38 = .ok (.getfield 476, 3) := by decide +kernel
theorem dX12_keep_41 : decode cX12_keep 41 = .ok (.iload_n 1, 1) := by decide +kernel
theorem dX12_keep_42 : decode cX12_keep 42 = .ok (.aload_n 0, 1) := by decide +kernel
theorem dX12_keep_43 : decode cX12_keep 43 = .ok (.getfield 75, 3) := by decide +kernel
theorem dX12_keep_46 : decode cX12_keep 46 = .ok (.arraylength, 1) := by decide +kernel
theorem dX12_keep_47 : decode cX12_keep 47 = .ok (.imul, 1) := by decide +kernel
theorem dX12_keep_48 : decode cX12_keep 48 = .ok (.iload_n 2, 1) := by decide +kernel
theorem dX12_keep_49 : decode cX12_keep 49 = .ok (.iadd, 1) := by decide +kernel
theorem dX12_keep_50 : decode cX12_keep 50 = .ok (.aload_n 0, 1) := by decide +kernel
theorem dX12_keep_51 : decode cX12_keep 51 = .ok (.getfield 75, 3) := by decide +kernel
theorem dX12_keep_54 : decode cX12_keep 54 = .ok (.iload_n 2, 1) := by decide +kernel
theorem dX12_keep_55 : decode cX12_keep 55 = .ok (.iaload, 1) := by decide +kernel
theorem dX12_keep_56 : decode cX12_keep 56 = .ok (.iastore, 1) := by decide +kernel
theorem dX12_keep_57 : decode cX12_keep 57 = .ok (.iinc 2 1, 3) := by decide +kernel
theorem dX12_keep_60 : decode cX12_keep 60 = .ok (.goto (-32), 3) := by decide +kernel
theorem dX12_keep_63 : decode cX12_keep 63 = .ok (.aload_n 0, 1) := by decide +kernel
theorem dX12_keep_64 : decode cX12_keep 64 = .ok (.getfield 479, 3) := by decide +kernel
theorem dX12_keep_67 : decode cX12_keep 67 = .ok (.iload_n 1, 1) := by decide +kernel
theorem dX12_keep_68 : decode cX12_keep 68 = .ok (.aload_n 0, 1) := by decide +kernel
theorem dX12_keep_69 : decode cX12_keep 69 = .ok (.getfield 194, 3) := by decide +kernel
theorem dX12_keep_72 : decode cX12_keep 72 = .ok (.iastore, 1) := by decide +kernel
theorem dX12_keep_73 : decode cX12_keep 73 = .ok (.iconst 1, 1) := by decide +kernel
theorem dX12_keep_74 : decode cX12_keep 74 = .ok (.ireturn, 1) := by decide +kernel
theorem dX12_again_0 : decode cX12_again 0 = .ok (.aload_n 0, 1) := by decide +kernel
theorem dX12_again_1 : decode cX12_again 1 = .ok (.iconst 0, 1) := by decide +kernel
theorem dX12_again_2 : decode cX12_again 2 = .ok (.putfield 3, 3) := by decide +kernel
theorem dX12_again_5 : decode cX12_again 5 = .ok (.iload_n 1, 1) := by decide +kernel
theorem dX12_again_6 : decode cX12_again 6 = .ok (.i2l, 1) := by decide +kernel
theorem dX12_again_7 : decode cX12_again 7 = .ok (.lconst 0, 1) := by decide +kernel
theorem dX12_again_8 : decode cX12_again 8 = .ok (.ldc2_w 323, 3) := by decide +kernel
theorem dX12_again_11 : decode cX12_again 11 = .ok (.invokestatic 25, 3) := by decide +kernel
theorem dX12_again_14 : decode cX12_again 14 = .ok (.ifCond .eq 12, 3) := by decide +kernel
theorem dX12_again_17 : decode cX12_again 17 = .ok (.aload_n 0, 1) := by decide +kernel
theorem dX12_again_18 : decode cX12_again 18 = .ok (.getfield 473, 3) := by decide +kernel
theorem dX12_again_21 : decode cX12_again 21 = .ok (.iload_n 1, 1) := by decide +kernel
theorem dX12_again_22 : decode cX12_again 22 = .ok (.baload, 1) := by decide +kernel
theorem dX12_again_23 : decode cX12_again 23 = .ok (.ifCond .ne 5, 3) := by decide +kernel
theorem dX12_again_26 : decode cX12_again 26 = .ok (.iconst 0, 1) := by decide +kernel
theorem dX12_again_27 : decode cX12_again 27 = .ok (.ireturn, 1) := by decide +kernel
theorem dX12_again_28 : decode cX12_again 28 = .ok (.iconst 0, 1) := by decide +kernel
theorem dX12_again_29 : decode cX12_again 29 = .ok (.istore_n 2, 1) := by decide +kernel
theorem dX12_again_30 : decode cX12_again 30 = .ok (.iload_n 2, 1) := by decide +kernel
theorem dX12_again_31 : decode cX12_again 31 = .ok (.aload_n 0, 1) := by decide +kernel
theorem dX12_again_32 : decode cX12_again 32 = .ok (.getfield 75, 3) := by decide +kernel
theorem dX12_again_35 : decode cX12_again 35 = .ok (.arraylength, 1) := by decide +kernel
theorem dX12_again_36 : decode cX12_again 36 = .ok (.if_icmp .ge 29, 3) := by decide +kernel
theorem dX12_again_39 : decode cX12_again 39 = .ok (.aload_n 0, 1) := by decide +kernel
theorem dX12_again_40 : decode cX12_again 40 = .ok (.getfield 75, 3) := by decide +kernel
theorem dX12_again_43 : decode cX12_again 43 = .ok (.iload_n 2, 1) := by decide +kernel
theorem dX12_again_44 : decode cX12_again 44 = .ok (.aload_n 0, 1) := by decide +kernel
theorem dX12_again_45 : decode cX12_again 45 = .ok (.getfield 476, 3) := by decide +kernel
theorem dX12_again_48 : decode cX12_again 48 = .ok (.iload_n 1, 1) := by decide +kernel
theorem dX12_again_49 : decode cX12_again 49 = .ok (.aload_n 0, 1) := by decide +kernel
theorem dX12_again_50 : decode cX12_again 50 = .ok (.getfield 75, 3) := by decide +kernel
theorem dX12_again_53 : decode cX12_again 53 = .ok (.arraylength, 1) := by decide +kernel
theorem dX12_again_54 : decode cX12_again 54 = .ok (.imul, 1) := by decide +kernel
theorem dX12_again_55 : decode cX12_again 55 = .ok (.iload_n 2, 1) := by decide +kernel
theorem dX12_again_56 : decode cX12_again 56 = .ok (.iadd, 1) := by decide +kernel
theorem dX12_again_57 : decode cX12_again 57 = .ok (.iaload, 1) := by decide +kernel
theorem dX12_again_58 : decode cX12_again 58 = .ok (.iastore, 1) := by decide +kernel
theorem dX12_again_59 : decode cX12_again 59 = .ok (.iinc 2 1, 3) := by decide +kernel
theorem dX12_again_62 : decode cX12_again 62 = .ok (.goto (-32), 3) := by decide +kernel
theorem dX12_again_65 : decode cX12_again 65 = .ok (.aload_n 0, 1) := by decide +kernel
theorem dX12_again_66 : decode cX12_again 66 = .ok (.aload_n 0, 1) := by decide +kernel
theorem dX12_again_67 : decode cX12_again 67 = .ok (.getfield 479, 3) := by decide +kernel
theorem dX12_again_70 : decode cX12_again 70 = .ok (.iload_n 1, 1) := by decide +kernel
theorem dX12_again_71 : decode cX12_again 71 = .ok (.iaload, 1) := by decide +kernel
theorem dX12_again_72 : decode cX12_again 72 = .ok (.putfield 194, 3) := by decide +kernel
theorem dX12_again_75 : decode cX12_again 75 = .ok (.iconst 1, 1) := by decide +kernel
theorem dX12_again_76 : decode cX12_again 76 = .ok (.ireturn, 1) := by decide +kernel
theorem dX12_lawBits_0 : decode cX12_lawBits 0 = .ok (.iconst 0, 1) := by decide +kernel
theorem dX12_lawBits_1 : decode cX12_lawBits 1 = .ok (.istore_n 1, 1) := by decide +kernel
theorem dX12_lawBits_2 : decode cX12_lawBits 2 = .ok (.iconst 0, 1) := by decide +kernel
theorem dX12_lawBits_3 : decode cX12_lawBits 3 = .ok (.istore_n 2, 1) := by decide +kernel
theorem dX12_lawBits_4 : decode cX12_lawBits 4 = .ok (.iload_n 2, 1) := by decide +kernel
theorem dX12_lawBits_5 : decode cX12_lawBits 5 = .ok (.bipush 6, 2) := by decide +kernel
theorem dX12_lawBits_7 : decode cX12_lawBits 7 = .ok (.if_icmp .ge 28, 3) := by decide +kernel
theorem dX12_lawBits_10 : decode cX12_lawBits 10 = .ok (.iload_n 1, 1) := by decide +kernel
theorem dX12_lawBits_11 : decode cX12_lawBits 11 = .ok (.aload_n 0, 1) := by decide +kernel
theorem dX12_lawBits_12 : decode cX12_lawBits 12 = .ok (.getfield 137, 3) := by decide +kernel
theorem dX12_lawBits_15 : decode cX12_lawBits 15 = .ok (.iload_n 2, 1) := by decide +kernel
theorem dX12_lawBits_16 : decode cX12_lawBits 16 = .ok (.iaload, 1) := by decide +kernel
theorem dX12_lawBits_17 : decode cX12_lawBits 17 = .ok (.ifCond .le 9, 3) := by decide +kernel
theorem dX12_lawBits_20 : decode cX12_lawBits 20 = .ok (.iconst 1, 1) := by decide +kernel
theorem dX12_lawBits_21 : decode cX12_lawBits 21 = .ok (.iload_n 2, 1) := by decide +kernel
theorem dX12_lawBits_22 : decode cX12_lawBits 22 = .ok (.ishl, 1) := by decide +kernel
theorem dX12_lawBits_23 : decode cX12_lawBits 23 = .ok (.goto 4, 3) := by decide +kernel
theorem dX12_lawBits_26 : decode cX12_lawBits 26 = .ok (.iconst 0, 1) := by decide +kernel
theorem dX12_lawBits_27 : decode cX12_lawBits 27 = .ok (.ior, 1) := by decide +kernel
theorem dX12_lawBits_28 : decode cX12_lawBits 28 = .ok (.istore_n 1, 1) := by decide +kernel
theorem dX12_lawBits_29 : decode cX12_lawBits 29 = .ok (.iinc 2 1, 3) := by decide +kernel
theorem dX12_lawBits_32 : decode cX12_lawBits 32 = .ok (.goto (-28), 3) := by decide +kernel
theorem dX12_lawBits_35 : decode cX12_lawBits 35 = .ok (.iload_n 1, 1) := by decide +kernel
theorem dX12_lawBits_36 : decode cX12_lawBits 36 = .ok (.ireturn, 1) := by decide +kernel
theorem dX12_numbersTold_0 : decode cX12_numbersTold 0 = .ok (.iconst 0, 1) := by decide +kernel
theorem dX12_numbersTold_1 : decode cX12_numbersTold 1 = .ok (.istore_n 1, 1) := by decide +kernel
theorem dX12_numbersTold_2 : decode cX12_numbersTold 2 = .ok (.iconst 0, 1) := by decide +kernel
theorem dX12_numbersTold_3 : decode cX12_numbersTold 3 = .ok (.istore_n 2, 1) := by decide +kernel
theorem dX12_numbersTold_4 : decode cX12_numbersTold 4 = .ok (.iload_n 2, 1) := by decide +kernel
theorem dX12_numbersTold_5 : decode cX12_numbersTold 5 = .ok (.aload_n 0, 1) := by decide +kernel
theorem dX12_numbersTold_6 : decode cX12_numbersTold 6 = .ok (.getfield 75, 3) := by decide +kernel
theorem dX12_numbersTold_9 : decode cX12_numbersTold 9 = .ok (.arraylength, 1) := by decide +kernel
theorem dX12_numbersTold_10 : decode cX12_numbersTold 10 = .ok (.if_icmp .ge 29, 3) := by decide +kernel
theorem dX12_numbersTold_13 : decode cX12_numbersTold 13 = .ok (.iload_n 1, 1) := by decide +kernel
theorem dX12_numbersTold_14 : decode cX12_numbersTold 14 = .ok (.aload_n 0, 1) := by decide +kernel
theorem dX12_numbersTold_15 : decode cX12_numbersTold 15 = .ok (.getfield 75, 3) := by decide +kernel
theorem dX12_numbersTold_18 : decode cX12_numbersTold 18 = .ok (.iload_n 2, 1) := by decide +kernel
theorem dX12_numbersTold_19 : decode cX12_numbersTold 19 = .ok (.iaload, 1) := by decide +kernel
theorem dX12_numbersTold_20 : decode cX12_numbersTold 20 = .ok (.ifCond .le 7, 3) := by decide +kernel
theorem dX12_numbersTold_23 : decode cX12_numbersTold 23 = .ok (.iconst 1, 1) := by decide +kernel
theorem dX12_numbersTold_24 : decode cX12_numbersTold 24 = .ok (.goto 4, 3) := by decide +kernel
theorem dX12_numbersTold_27 : decode cX12_numbersTold 27 = .ok (.iconst 0, 1) := by decide +kernel
theorem dX12_numbersTold_28 : decode cX12_numbersTold 28 = .ok (.invokestatic 207, 3) := by decide +kernel
theorem dX12_numbersTold_31 : decode cX12_numbersTold 31 = .ok (.iadd, 1) := by decide +kernel
theorem dX12_numbersTold_32 : decode cX12_numbersTold 32 = .ok (.istore_n 1, 1) := by decide +kernel
theorem dX12_numbersTold_33 : decode cX12_numbersTold 33 = .ok (.iinc 2 1, 3) := by decide +kernel
theorem dX12_numbersTold_36 : decode cX12_numbersTold 36 = .ok (.goto (-32), 3) := by decide +kernel
theorem dX12_numbersTold_39 : decode cX12_numbersTold 39 = .ok (.iload_n 1, 1) := by decide +kernel
theorem dX12_numbersTold_40 : decode cX12_numbersTold 40 = .ok (.ireturn, 1) := by decide +kernel
theorem dX12_count_0 : decode cX12_count 0 = .ok (.aload_n 0, 1) := by decide +kernel
theorem dX12_count_1 : decode cX12_count 1 = .ok (.iconst 0, 1) := by decide +kernel
theorem dX12_count_2 : decode cX12_count 2 = .ok (.putfield 3, 3) := by decide +kernel
theorem dX12_count_5 : decode cX12_count 5 = .ok (.iload_n 1, 1) := by decide +kernel
theorem dX12_count_6 : decode cX12_count 6 = .ok (.tableswitch 95 0 8 #[50, 55, 60, 65, 70, 75, 80, 85, 90], 50) := by decide +kernel
theorem dX12_count_56 : decode cX12_count 56 = .ok (.aload_n 0, 1) := by decide +kernel
theorem dX12_count_57 : decode cX12_count 57 = .ok (.getfield 22, 3) := by decide +kernel
theorem dX12_count_60 : decode cX12_count 60 = .ok (.ireturn, 1) := by decide +kernel
theorem dX12_count_61 : decode cX12_count 61 = .ok (.aload_n 0, 1) := by decide +kernel
theorem dX12_count_62 : decode cX12_count 62 = .ok (.getfield 29, 3) := by decide +kernel
theorem dX12_count_65 : decode cX12_count 65 = .ok (.ireturn, 1) := by decide +kernel
theorem dX12_count_66 : decode cX12_count 66 = .ok (.aload_n 0, 1) := by decide +kernel
theorem dX12_count_67 : decode cX12_count 67 = .ok (.invokevirtual 482, 3) := by decide +kernel
theorem dX12_count_70 : decode cX12_count 70 = .ok (.ireturn, 1) := by decide +kernel
theorem dX12_count_71 : decode cX12_count 71 = .ok (.aload_n 0, 1) := by decide +kernel
theorem dX12_count_72 : decode cX12_count 72 = .ok (.getfield 348, 3) := by decide +kernel
theorem dX12_count_75 : decode cX12_count 75 = .ok (.ireturn, 1) := by decide +kernel
theorem dX12_count_76 : decode cX12_count 76 = .ok (.aload_n 0, 1) := by decide +kernel
theorem dX12_count_77 : decode cX12_count 77 = .ok (.getfield 388, 3) := by decide +kernel
theorem dX12_count_80 : decode cX12_count 80 = .ok (.ireturn, 1) := by decide +kernel
theorem dX12_count_81 : decode cX12_count 81 = .ok (.aload_n 0, 1) := by decide +kernel
theorem dX12_count_82 : decode cX12_count 82 = .ok (.getfield 434, 3) := by decide +kernel
theorem dX12_count_85 : decode cX12_count 85 = .ok (.ireturn, 1) := by decide +kernel
theorem dX12_count_86 : decode cX12_count 86 = .ok (.aload_n 0, 1) := by decide +kernel
theorem dX12_count_87 : decode cX12_count 87 = .ok (.invokevirtual 485, 3) := by decide +kernel
theorem dX12_count_90 : decode cX12_count 90 = .ok (.ireturn, 1) := by decide +kernel
theorem dX12_count_91 : decode cX12_count 91 = .ok (.aload_n 0, 1) := by decide +kernel
theorem dX12_count_92 : decode cX12_count 92 = .ok (.getfield 11, 3) := by decide +kernel
theorem dX12_count_95 : decode cX12_count 95 = .ok (.ireturn, 1) := by decide +kernel
theorem dX12_count_96 : decode cX12_count 96 = .ok (.aload_n 0, 1) := by decide +kernel
theorem dX12_count_97 : decode cX12_count 97 = .ok (.getfield 105, 3) := by decide +kernel
theorem dX12_count_100 : decode cX12_count 100 = .ok (.ireturn, 1) := by decide +kernel
theorem dX12_count_101 : decode cX12_count 101 = .ok (.iconst (-1), 1) := by decide +kernel
theorem dX12_count_102 : decode cX12_count 102 = .ok (.ireturn, 1) := by decide +kernel
theorem dX12_init_0 : decode cX12_init 0 = .ok (.aload_n 0, 1) := by decide +kernel
theorem dX12_init_1 : decode cX12_init 1 = .ok (.invokespecial 488, 3) := by decide +kernel
theorem dX12_init_4 : decode cX12_init 4 = .ok (.aload_n 0, 1) := by decide +kernel
theorem dX12_init_5 : decode cX12_init 5 = .ok (.bipush 24, 2) := by decide +kernel
theorem dX12_init_7 : decode cX12_init 7 = .ok (.newarray .long, 2) := by decide +kernel
theorem dX12_init_9 : decode cX12_init 9 = .ok (.putfield 7, 3) := by decide +kernel
theorem dX12_init_12 : decode cX12_init 12 = .ok (.aload_n 0, 1) := by decide +kernel
theorem dX12_init_13 : decode cX12_init 13 = .ok (.bipush 8, 2) := by decide +kernel
theorem dX12_init_15 : decode cX12_init 15 = .ok (.newarray .int, 2) := by decide +kernel
theorem dX12_init_17 : decode cX12_init 17 = .ok (.putfield 42, 3) := by decide +kernel
theorem dX12_init_20 : decode cX12_init 20 = .ok (.aload_n 0, 1) := by decide +kernel
theorem dX12_init_21 : decode cX12_init 21 = .ok (.bipush 8, 2) := by decide +kernel
theorem dX12_init_23 : decode cX12_init 23 = .ok (.newarray .int, 2) := by decide +kernel
theorem dX12_init_25 : decode cX12_init 25 = .ok (.putfield 46, 3) := by decide +kernel
theorem dX12_init_28 : decode cX12_init 28 = .ok (.aload_n 0, 1) := by decide +kernel
theorem dX12_init_29 : decode cX12_init 29 = .ok (.bipush 8, 2) := by decide +kernel
theorem dX12_init_31 : decode cX12_init 31 = .ok (.newarray .int, 2) := by decide +kernel
theorem dX12_init_33 : decode cX12_init 33 = .ok (.putfield 49, 3) := by decide +kernel
theorem dX12_init_36 : decode cX12_init 36 = .ok (.aload_n 0, 1) := by decide +kernel
theorem dX12_init_37 : decode cX12_init 37 = .ok (.bipush 8, 2) := by decide +kernel
theorem dX12_init_39 : decode cX12_init 39 = .ok (.newarray .int, 2) := by decide +kernel
theorem dX12_init_41 : decode cX12_init 41 = .ok (.putfield 56, 3) := by decide +kernel
theorem dX12_init_44 : decode cX12_init 44 = .ok (.aload_n 0, 1) := by decide +kernel
theorem dX12_init_45 : decode cX12_init 45 = .ok (.bipush 8, 2) := by decide +kernel
theorem dX12_init_47 : decode cX12_init 47 = .ok (.newarray .int, 2) := by decide +kernel
theorem dX12_init_49 : decode cX12_init 49 = .ok (.putfield 59, 3) := by decide +kernel
theorem dX12_init_52 : decode cX12_init 52 = .ok (.aload_n 0, 1) := by decide +kernel
theorem dX12_init_53 : decode cX12_init 53 = .ok (.bipush 8, 2) := by decide +kernel
theorem dX12_init_55 : decode cX12_init 55 = .ok (.newarray .int, 2) := by decide +kernel
theorem dX12_init_57 : decode cX12_init 57 = .ok (.putfield 62, 3) := by decide +kernel
theorem dX12_init_60 : decode cX12_init 60 = .ok (.aload_n 0, 1) := by decide +kernel
theorem dX12_init_61 : decode cX12_init 61 = .ok (.bipush 8, 2) := by decide +kernel
theorem dX12_init_63 : decode cX12_init 63 = .ok (.newarray .int, 2) := by decide +kernel
theorem dX12_init_65 : decode cX12_init 65 = .ok (.putfield 65, 3) := by decide +kernel
theorem dX12_init_68 : decode cX12_init 68 = .ok (.aload_n 0, 1) := by decide +kernel
theorem dX12_init_69 : decode cX12_init 69 = .ok (.bipush 96, 2) := by decide +kernel
theorem dX12_init_71 : decode cX12_init 71 = .ok (.newarray .boolean, 2) := by decide +kernel
theorem dX12_init_73 : decode cX12_init 73 = .ok (.putfield 71, 3) := by decide +kernel
theorem dX12_init_76 : decode cX12_init 76 = .ok (.aload_n 0, 1) := by decide +kernel
theorem dX12_init_77 : decode cX12_init 77 = .ok (.sipush 4608, 3) := by decide +kernel
theorem dX12_init_80 : decode cX12_init 80 = .ok (.newarray .int, 2) := by decide +kernel
theorem dX12_init_82 : decode cX12_init 82 = .ok (.putfield 75, 3) := by decide +kernel
theorem dX12_init_85 : decode cX12_init 85 = .ok (.aload_n 0, 1) := by decide +kernel
theorem dX12_init_86 : decode cX12_init 86 = .ok (.iconst 1, 1) := by decide +kernel
theorem dX12_init_87 : decode cX12_init 87 = .ok (.putfield 194, 3) := by decide +kernel
theorem dX12_init_90 : decode cX12_init 90 = .ok (.aload_n 0, 1) := by decide +kernel
theorem dX12_init_91 : decode cX12_init 91 = .ok (.sipush 336, 3) := by decide +kernel
theorem dX12_init_94 : decode cX12_init 94 = .ok (.newarray .int, 2) := by decide +kernel
theorem dX12_init_96 : decode cX12_init 96 = .ok (.putfield 134, 3) := by decide +kernel
theorem dX12_init_99 : decode cX12_init 99 = .ok (.aload_n 0, 1) := by decide +kernel
theorem dX12_init_100 : decode cX12_init 100 = .ok (.bipush 7, 2) := by decide +kernel
theorem dX12_init_102 : decode cX12_init 102 = .ok (.newarray .int, 2) := by decide +kernel
theorem dX12_init_104 : decode cX12_init 104 = .ok (.putfield 137, 3) := by decide +kernel
theorem dX12_init_107 : decode cX12_init 107 = .ok (.aload_n 0, 1) := by decide +kernel
theorem dX12_init_108 : decode cX12_init 108 = .ok (.bipush 48, 2) := by decide +kernel
theorem dX12_init_110 : decode cX12_init 110 = .ok (.newarray .int, 2) := by decide +kernel
theorem dX12_init_112 : decode cX12_init 112 = .ok (.putfield 221, 3) := by decide +kernel
theorem dX12_init_115 : decode cX12_init 115 = .ok (.aload_n 0, 1) := by decide +kernel
theorem dX12_init_116 : decode cX12_init 116 = .ok (.bipush 60, 2) := by decide +kernel
theorem dX12_init_118 : decode cX12_init 118 = .ok (.newarray .int, 2) := by decide +kernel
theorem dX12_init_120 : decode cX12_init 120 = .ok (.putfield 108, 3) := by decide +kernel
theorem dX12_init_123 : decode cX12_init 123 = .ok (.aload_n 0, 1) := by decide +kernel
theorem dX12_init_124 : decode cX12_init 124 = .ok (.iconst 3, 1) := by decide +kernel
theorem dX12_init_125 : decode cX12_init 125 = .ok (.newarray .int, 2) := by decide +kernel
theorem dX12_init_127 : decode cX12_init 127 = .ok (.dup, 1) := by decide +kernel
theorem dX12_init_128 : decode cX12_init 128 = .ok (.iconst 0, 1) := by decide +kernel
theorem dX12_init_129 : decode cX12_init 129 = .ok (.iconst 0, 1) := by decide +kernel
theorem dX12_init_130 : decode cX12_init 130 = .ok (.iastore, 1) := by decide +kernel
theorem dX12_init_131 : decode cX12_init 131 = .ok (.dup, 1) := by decide +kernel
theorem dX12_init_132 : decode cX12_init 132 = .ok (.iconst 1, 1) := by decide +kernel
theorem dX12_init_133 : decode cX12_init 133 = .ok (.iconst 1, 1) := by decide +kernel
theorem dX12_init_134 : decode cX12_init 134 = .ok (.iastore, 1) := by decide +kernel
theorem dX12_init_135 : decode cX12_init 135 = .ok (.dup, 1) := by decide +kernel
theorem dX12_init_136 : decode cX12_init 136 = .ok (.iconst 2, 1) := by decide +kernel
theorem dX12_init_137 : decode cX12_init 137 = .ok (.iconst 2, 1) := by decide +kernel
theorem dX12_init_138 : decode cX12_init 138 = .ok (.iastore, 1) := by decide +kernel
theorem dX12_init_139 : decode cX12_init 139 = .ok (.putfield 308, 3) := by decide +kernel
theorem dX12_init_142 : decode cX12_init 142 = .ok (.aload_n 0, 1) := by decide +kernel
theorem dX12_init_143 : decode cX12_init 143 = .ok (.iconst 2, 1) := by decide +kernel
theorem dX12_init_144 : decode cX12_init 144 = .ok (.newarray .long, 2) := by decide +kernel
theorem dX12_init_146 : decode cX12_init 146 = .ok (.putfield 328, 3) := by decide +kernel
theorem dX12_init_149 : decode cX12_init 149 = .ok (.aload_n 0, 1) := by decide +kernel
theorem dX12_init_150 : decode cX12_init 150 = .ok (.iconst 2, 1) := by decide +kernel
theorem dX12_init_151 : decode cX12_init 151 = .ok (.newarray .long, 2) := by decide +kernel
theorem dX12_init_153 : decode cX12_init 153 = .ok (.putfield 331, 3) := by decide +kernel
theorem dX12_init_156 : decode cX12_init 156 = .ok (.aload_n 0, 1) := by decide +kernel
theorem dX12_init_157 : decode cX12_init 157 = .ok (.bipush 6, 2) := by decide +kernel
theorem dX12_init_159 : decode cX12_init 159 = .ok (.newarray .int, 2) := by decide +kernel
theorem dX12_init_161 : decode cX12_init 161 = .ok (.putfield 356, 3) := by decide +kernel
theorem dX12_init_164 : decode cX12_init 164 = .ok (.aload_n 0, 1) := by decide +kernel
theorem dX12_init_165 : decode cX12_init 165 = .ok (.bipush 72, 2) := by decide +kernel
theorem dX12_init_167 : decode cX12_init 167 = .ok (.newarray .int, 2) := by decide +kernel
theorem dX12_init_169 : decode cX12_init 169 = .ok (.putfield 359, 3) := by decide +kernel
theorem dX12_init_172 : decode cX12_init 172 = .ok (.aload_n 0, 1) := by decide +kernel
theorem dX12_init_173 : decode cX12_init 173 = .ok (.bipush 72, 2) := by decide +kernel
theorem dX12_init_175 : decode cX12_init 175 = .ok (.newarray .int, 2) := by decide +kernel
theorem dX12_init_177 : decode cX12_init 177 = .ok (.putfield 362, 3) := by decide +kernel
theorem dX12_init_180 : decode cX12_init 180 = .ok (.aload_n 0, 1) := by decide +kernel
theorem dX12_init_181 : decode cX12_init 181 = .ok (.bipush 72, 2) := by decide +kernel
theorem dX12_init_183 : decode cX12_init 183 = .ok (.newarray .int, 2) := by decide +kernel
theorem dX12_init_185 : decode cX12_init 185 = .ok (.putfield 365, 3) := by decide +kernel
theorem dX12_init_188 : decode cX12_init 188 = .ok (.aload_n 0, 1) := by decide +kernel
theorem dX12_init_189 : decode cX12_init 189 = .ok (.bipush 12, 2) := by decide +kernel
theorem dX12_init_191 : decode cX12_init 191 = .ok (.newarray .int, 2) := by decide +kernel
theorem dX12_init_193 : decode cX12_init 193 = .ok (.putfield 337, 3) := by decide +kernel
theorem dX12_init_196 : decode cX12_init 196 = .ok (.aload_n 0, 1) := by decide +kernel
theorem dX12_init_197 : decode cX12_init 197 = .ok (.bipush 12, 2) := by decide +kernel
theorem dX12_init_199 : decode cX12_init 199 = .ok (.newarray .int, 2) := by decide +kernel
theorem dX12_init_201 : decode cX12_init 201 = .ok (.putfield 342, 3) := by decide +kernel
theorem dX12_init_204 : decode cX12_init 204 = .ok (.aload_n 0, 1) := by decide +kernel
theorem dX12_init_205 : decode cX12_init 205 = .ok (.bipush 12, 2) := by decide +kernel
theorem dX12_init_207 : decode cX12_init 207 = .ok (.newarray .int, 2) := by decide +kernel
theorem dX12_init_209 : decode cX12_init 209 = .ok (.putfield 345, 3) := by decide +kernel
theorem dX12_init_212 : decode cX12_init 212 = .ok (.aload_n 0, 1) := by decide +kernel
theorem dX12_init_213 : decode cX12_init 213 = .ok (.bipush 10, 2) := by decide +kernel
theorem dX12_init_215 : decode cX12_init 215 = .ok (.newarray .long, 2) := by decide +kernel
theorem dX12_init_217 : decode cX12_init 217 = .ok (.putfield 368, 3) := by decide +kernel
theorem dX12_init_220 : decode cX12_init 220 = .ok (.aload_n 0, 1) := by decide +kernel
theorem dX12_init_221 : decode cX12_init 221 = .ok (.bipush 10, 2) := by decide +kernel
theorem dX12_init_223 : decode cX12_init 223 = .ok (.newarray .long, 2) := by decide +kernel
theorem dX12_init_225 : decode cX12_init 225 = .ok (.putfield 371, 3) := by decide +kernel
theorem dX12_init_228 : decode cX12_init 228 = .ok (.aload_n 0, 1) := by decide +kernel
theorem dX12_init_229 : decode cX12_init 229 = .ok (.bipush 64, 2) := by decide +kernel
theorem dX12_init_231 : decode cX12_init 231 = .ok (.newarray .int, 2) := by decide +kernel
theorem dX12_init_233 : decode cX12_init 233 = .ok (.putfield 391, 3) := by decide +kernel
theorem dX12_init_236 : decode cX12_init 236 = .ok (.aload_n 0, 1) := by decide +kernel
theorem dX12_init_237 : decode cX12_init 237 = .ok (.bipush 12, 2) := by decide +kernel
theorem dX12_init_239 : decode cX12_init 239 = .ok (.newarray .int, 2) := by decide +kernel
theorem dX12_init_241 : decode cX12_init 241 = .ok (.putfield 397, 3) := by decide +kernel
theorem dX12_init_244 : decode cX12_init 244 = .ok (.aload_n 0, 1) := by decide +kernel
theorem dX12_init_245 : decode cX12_init 245 = .ok (.bipush 12, 2) := by decide +kernel
theorem dX12_init_247 : decode cX12_init 247 = .ok (.newarray .int, 2) := by decide +kernel
theorem dX12_init_249 : decode cX12_init 249 = .ok (.putfield 400, 3) := by decide +kernel
theorem dX12_init_252 : decode cX12_init 252 = .ok (.aload_n 0, 1) := by decide +kernel
theorem dX12_init_253 : decode cX12_init 253 = .ok (.bipush 12, 2) := by decide +kernel
theorem dX12_init_255 : decode cX12_init 255 = .ok (.newarray .long, 2) := by decide +kernel
theorem dX12_init_257 : decode cX12_init 257 = .ok (.putfield 403, 3) := by decide +kernel
theorem dX12_init_260 : decode cX12_init 260 = .ok (.aload_n 0, 1) := by decide +kernel
theorem dX12_init_261 : decode cX12_init 261 = .ok (.bipush 12, 2) := by decide +kernel
theorem dX12_init_263 : decode cX12_init 263 = .ok (.newarray .int, 2) := by decide +kernel
theorem dX12_init_265 : decode cX12_init 265 = .ok (.putfield 437, 3) := by decide +kernel
theorem dX12_init_268 : decode cX12_init 268 = .ok (.aload_n 0, 1) := by decide +kernel
theorem dX12_init_269 : decode cX12_init 269 = .ok (.bipush 12, 2) := by decide +kernel
theorem dX12_init_271 : decode cX12_init 271 = .ok (.newarray .int, 2) := by decide +kernel
theorem dX12_init_273 : decode cX12_init 273 = .ok (.putfield 440, 3) := by decide +kernel
theorem dX12_init_276 : decode cX12_init 276 = .ok (.aload_n 0, 1) := by decide +kernel
theorem dX12_init_277 : decode cX12_init 277 = .ok (.bipush 12, 2) := by decide +kernel
theorem dX12_init_279 : decode cX12_init 279 = .ok (.newarray .int, 2) := by decide +kernel
theorem dX12_init_281 : decode cX12_init 281 = .ok (.putfield 443, 3) := by decide +kernel
theorem dX12_init_284 : decode cX12_init 284 = .ok (.aload_n 0, 1) := by decide +kernel
theorem dX12_init_285 : decode cX12_init 285 = .ok (.bipush 10, 2) := by decide +kernel
theorem dX12_init_287 : decode cX12_init 287 = .ok (.newarray .int, 2) := by decide +kernel
theorem dX12_init_289 : decode cX12_init 289 = .ok (.putfield 446, 3) := by decide +kernel
theorem dX12_init_292 : decode cX12_init 292 = .ok (.aload_n 0, 1) := by decide +kernel
theorem dX12_init_293 : decode cX12_init 293 = .ok (.bipush 10, 2) := by decide +kernel
theorem dX12_init_295 : decode cX12_init 295 = .ok (.newarray .int, 2) := by decide +kernel
theorem dX12_init_297 : decode cX12_init 297 = .ok (.putfield 449, 3) := by decide +kernel
theorem dX12_init_300 : decode cX12_init 300 = .ok (.aload_n 0, 1) := by decide +kernel
theorem dX12_init_301 : decode cX12_init 301 = .ok (.bipush 8, 2) := by decide +kernel
theorem dX12_init_303 : decode cX12_init 303 = .ok (.newarray .int, 2) := by decide +kernel
theorem dX12_init_305 : decode cX12_init 305 = .ok (.putfield 464, 3) := by decide +kernel
theorem dX12_init_308 : decode cX12_init 308 = .ok (.aload_n 0, 1) := by decide +kernel
theorem dX12_init_309 : decode cX12_init 309 = .ok (.iconst 4, 1) := by decide +kernel
theorem dX12_init_310 : decode cX12_init 310 = .ok (.newarray .long, 2) := by decide +kernel
theorem dX12_init_312 : decode cX12_init 312 = .ok (.putfield 467, 3) := by decide +kernel
theorem dX12_init_315 : decode cX12_init 315 = .ok (.aload_n 0, 1) := by decide +kernel
theorem dX12_init_316 : decode cX12_init 316 = .ok (.iconst 4, 1) := by decide +kernel
theorem dX12_init_317 : decode cX12_init 317 = .ok (.newarray .long, 2) := by decide +kernel
theorem dX12_init_319 : decode cX12_init 319 = .ok (.putfield 470, 3) := by decide +kernel
theorem dX12_init_322 : decode cX12_init 322 = .ok (.aload_n 0, 1) := by decide +kernel
theorem dX12_init_323 : decode cX12_init 323 = .ok (.iconst 3, 1) := by decide +kernel
theorem dX12_init_324 : decode cX12_init 324 = .ok (.newarray .boolean, 2) := by decide +kernel
theorem dX12_init_326 : decode cX12_init 326 = .ok (.putfield 473, 3) := by decide +kernel
theorem dX12_init_329 : decode cX12_init 329 = .ok (.aload_n 0, 1) := by decide +kernel
theorem dX12_init_330 : decode cX12_init 330 = .ok (.sipush 13824, 3) := by decide +kernel
theorem dX12_init_333 : decode cX12_init 333 = .ok (.newarray .int, 2) := by decide +kernel
theorem dX12_init_335 : decode cX12_init 335 = .ok (.putfield 476, 3) := by decide +kernel
theorem dX12_init_338 : decode cX12_init 338 = .ok (.aload_n 0, 1) := by decide +kernel
theorem dX12_init_339 : decode cX12_init 339 = .ok (.iconst 3, 1) := by decide +kernel
theorem dX12_init_340 : decode cX12_init 340 = .ok (.newarray .int, 2) := by decide +kernel
theorem dX12_init_342 : decode cX12_init 342 = .ok (.putfield 479, 3) := by decide +kernel
theorem dX12_init_345 : decode cX12_init 345 = .ok (.return_, 1) := by decide +kernel
theorem dX12_row_0 : decode cX12_row 0 = .ok (.aload_n 0, 1) := by decide +kernel
theorem dX12_row_1 : decode cX12_row 1 = .ok (.iconst 0, 1) := by decide +kernel
theorem dX12_row_2 : decode cX12_row 2 = .ok (.putfield 3, 3) := by decide +kernel
theorem dX12_row_5 : decode cX12_row 5 = .ok (.iload_n 1, 1) := by decide +kernel
theorem dX12_row_6 : decode cX12_row 6 = .ok (.i2l, 1) := by decide +kernel
theorem dX12_row_7 : decode cX12_row 7 = .ok (.lconst 0, 1) := by decide +kernel
theorem dX12_row_8 : decode cX12_row 8 = .ok (.aload_n 0, 1) := by decide +kernel
theorem dX12_row_9 : decode cX12_row 9 = .ok (.getfield 11, 3) := by decide +kernel
theorem dX12_row_12 : decode cX12_row 12 = .ok (.iconst 1, 1) := by decide +kernel
theorem dX12_row_13 : decode cX12_row 13 = .ok (.isub, 1) := by decide +kernel
theorem dX12_row_14 : decode cX12_row 14 = .ok (.i2l, 1) := by decide +kernel
theorem dX12_row_15 : decode cX12_row 15 = .ok (.invokestatic 25, 3) := by decide +kernel
theorem dX12_row_18 : decode cX12_row 18 = .ok (.ifCond .ne 10, 3) := by decide +kernel
theorem dX12_row_21 : decode cX12_row 21 = .ok (.aload_n 0, 1) := by decide +kernel
theorem dX12_row_22 : decode cX12_row 22 = .ok (.iconst 1, 1) := by decide +kernel
theorem dX12_row_23 : decode cX12_row 23 = .ok (.putfield 3, 3) := by decide +kernel
theorem dX12_row_26 : decode cX12_row 26 = .ok (.lconst 0, 1) := by decide +kernel
theorem dX12_row_27 : decode cX12_row 27 = .ok (.lreturn, 1) := by decide +kernel
theorem dX12_row_28 : decode cX12_row 28 = .ok (.aload_n 0, 1) := by decide +kernel
theorem dX12_row_29 : decode cX12_row 29 = .ok (.getfield 7, 3) := by decide +kernel
theorem dX12_row_32 : decode cX12_row 32 = .ok (.iload_n 1, 1) := by decide +kernel
theorem dX12_row_33 : decode cX12_row 33 = .ok (.laload, 1) := by decide +kernel
theorem dX12_row_34 : decode cX12_row 34 = .ok (.lreturn, 1) := by decide +kernel
