/-! decode rows, out of claim/NAMES.whole.lean.txt -/
theorem dX0_init_0 : decode cX0_init 0 = .ok (.aload_n 0, 1) := by decide +kernel
theorem dX0_init_1 : decode cX0_init 1 = .ok (.invokespecial 3, 3) := by decide +kernel
theorem dX0_init_4 : decode cX0_init 4 = .ok (.aload_n 0, 1) := by decide +kernel
theorem dX0_init_5 : decode cX0_init 5 = .ok (.sipush 800, 3) := by decide +kernel
theorem dX0_init_8 : decode cX0_init 8 = .ok (.newarray .int, 2) := by decide +kernel
theorem dX0_init_10 : decode cX0_init 10 = .ok (.putfield 9, 3) := by decide +kernel
theorem dX0_init_13 : decode cX0_init 13 = .ok (.aload_n 0, 1) := by decide +kernel
theorem dX0_init_14 : decode cX0_init 14 = .ok (.sipush 800, 3) := by decide +kernel
theorem dX0_init_17 : decode cX0_init 17 = .ok (.newarray .boolean, 2) := by decide +kernel
theorem dX0_init_19 : decode cX0_init 19 = .ok (.putfield 15, 3) := by decide +kernel
theorem dX0_init_22 : decode cX0_init 22 = .ok (.aload_n 0, 1) := by decide +kernel
theorem dX0_init_23 : decode cX0_init 23 = .ok (.sipush 4000, 3) := by decide +kernel
theorem dX0_init_26 : decode cX0_init 26 = .ok (.newarray .int, 2) := by decide +kernel
theorem dX0_init_28 : decode cX0_init 28 = .ok (.putfield 19, 3) := by decide +kernel
theorem dX0_init_31 : decode cX0_init 31 = .ok (.aload_n 0, 1) := by decide +kernel
theorem dX0_init_32 : decode cX0_init 32 = .ok (.sipush 4000, 3) := by decide +kernel
theorem dX0_init_35 : decode cX0_init 35 = .ok (.newarray .int, 2) := by decide +kernel
theorem dX0_init_37 : decode cX0_init 37 = .ok (.putfield 22, 3) := by decide +kernel
theorem dX0_init_40 : decode cX0_init 40 = .ok (.aload_n 0, 1) := by decide +kernel
theorem dX0_init_41 : decode cX0_init 41 = .ok (.sipush 800, 3) := by decide +kernel
theorem dX0_init_44 : decode cX0_init 44 = .ok (.newarray .boolean, 2) := by decide +kernel
theorem dX0_init_46 : decode cX0_init 46 = .ok (.putfield 25, 3) := by decide +kernel
theorem dX0_init_49 : decode cX0_init 49 = .ok (.aload_n 0, 1) := by decide +kernel
theorem dX0_init_50 : decode cX0_init 50 = .ok (.sipush 800, 3) := by decide +kernel
theorem dX0_init_53 : decode cX0_init 53 = .ok (.newarray .boolean, 2) := by decide +kernel
theorem dX0_init_55 : decode cX0_init 55 = .ok (.putfield 28, 3) := by decide +kernel
theorem dX0_init_58 : decode cX0_init 58 = .ok (.aload_n 0, 1) := by decide +kernel
theorem dX0_init_59 : decode cX0_init 59 = .ok (.sipush 800, 3) := by decide +kernel
theorem dX0_init_62 : decode cX0_init 62 = .ok (.newarray .boolean, 2) := by decide +kernel
theorem dX0_init_64 : decode cX0_init 64 = .ok (.putfield 31, 3) := by decide +kernel
theorem dX0_init_67 : decode cX0_init 67 = .ok (.aload_n 0, 1) := by decide +kernel
theorem dX0_init_68 : decode cX0_init 68 = .ok (.sipush 800, 3) := by decide +kernel
theorem dX0_init_71 : decode cX0_init 71 = .ok (.newarray .int, 2) := by decide +kernel
theorem dX0_init_73 : decode cX0_init 73 = .ok (.putfield 34, 3) := by decide +kernel
theorem dX0_init_76 : decode cX0_init 76 = .ok (.return_, 1) := by decide +kernel
theorem dX0_isCell_0 : decode cX0_isCell 0 = .ok (.iload_n 0, 1) := by decide +kernel
theorem dX0_isCell_1 : decode cX0_isCell 1 = .ok (.ifCond .lt 23, 3) := by decide +kernel
theorem dX0_isCell_4 : decode cX0_isCell 4 = .ok (.iload_n 0, 1) := by decide +kernel
theorem dX0_isCell_5 : decode cX0_isCell 5 = .ok (.sipush 800, 3) := by decide +kernel
theorem dX0_isCell_8 : decode cX0_isCell 8 = .ok (.if_icmp .ge 16, 3) := by decide +kernel
theorem dX0_isCell_11 : decode cX0_isCell 11 = .ok (.iload_n 1, 1) := by decide +kernel
theorem dX0_isCell_12 : decode cX0_isCell 12 = .ok (.ifCond .lt 12, 3) := by decide +kernel
theorem dX0_isCell_15 : decode cX0_isCell 15 = .ok (.iload_n 1, 1) := by decide +kernel
theorem dX0_isCell_16 : decode cX0_isCell 16 = .ok (.iconst 5, 1) := by decide +kernel
theorem dX0_isCell_17 : decode cX0_isCell 17 = .ok (.if_icmp .ge 7, 3) := by decide +kernel
theorem dX0_isCell_20 : decode cX0_isCell 20 = .ok (.iconst 1, 1) := by decide +kernel
theorem dX0_isCell_21 : decode cX0_isCell 21 = .ok (.goto 4, 3) := by decide +kernel
theorem dX0_isCell_24 : decode cX0_isCell 24 = .ok (.iconst 0, 1) := by decide +kernel
theorem dX0_isCell_25 : decode cX0_isCell 25 = .ok (.ireturn, 1) := by decide +kernel
theorem dX0_isVacant_0 : decode cX0_isVacant 0 = .ok (.iload_n 1, 1) := by decide +kernel
theorem dX0_isVacant_1 : decode cX0_isVacant 1 = .ok (.ifCond .lt 28, 3) := by decide +kernel
theorem dX0_isVacant_4 : decode cX0_isVacant 4 = .ok (.iload_n 1, 1) := by decide +kernel
theorem dX0_isVacant_5 : decode cX0_isVacant 5 = .ok (.sipush 800, 3) := by decide +kernel
theorem dX0_isVacant_8 : decode cX0_isVacant 8 = .ok (.if_icmp .ge 21, 3) := by decide +kernel
theorem dX0_isVacant_11 : decode cX0_isVacant 11 = .ok (.aload_n 0, 1) := by decide +kernel
theorem dX0_isVacant_12 : decode cX0_isVacant 12 = .ok (.getfield 25, 3) := by decide +kernel
theorem dX0_isVacant_15 : decode cX0_isVacant 15 = .ok (.iload_n 1, 1) := by decide +kernel
theorem dX0_isVacant_16 : decode cX0_isVacant 16 = .ok (.baload, 1) := by decide +kernel
theorem dX0_isVacant_17 : decode cX0_isVacant 17 = .ok (.ifCond .ne 16, 3) := by decide +kernel
theorem dX0_isVacant_20 : decode cX0_isVacant 20 = .ok (.aload_n 0, 1) := by decide +kernel
theorem dX0_isVacant_21 : decode cX0_isVacant 21 = .ok (.getfield 28, 3) := by decide +kernel
theorem dX0_isVacant_24 : decode cX0_isVacant 24 = .ok (.iload_n 1, 1) := by decide +kernel
theorem dX0_isVacant_25 : decode cX0_isVacant 25 = .ok (.baload, 1) := by decide +kernel
theorem dX0_isVacant_26 : decode cX0_isVacant 26 = .ok (.ifCond .ne 7, 3) := by decide +kernel
theorem dX0_isVacant_29 : decode cX0_isVacant 29 = .ok (.iconst 1, 1) := by decide +kernel
theorem dX0_isVacant_30 : decode cX0_isVacant 30 = .ok (.goto 4, 3) := by decide +kernel
theorem dX0_isVacant_33 : decode cX0_isVacant 33 = .ok (.iconst 0, 1) := by decide +kernel
theorem dX0_isVacant_34 : decode cX0_isVacant 34 = .ok (.ireturn, 1) := by decide +kernel
theorem dX0_leastVacant_0 : decode cX0_leastVacant 0 = .ok (.iconst 0, 1) := by decide +kernel
theorem dX0_leastVacant_1 : decode cX0_leastVacant 1 = .ok (.istore_n 1, 1) := by decide +kernel
theorem dX0_leastVacant_2 : decode cX0_leastVacant 2 = .ok (.iload_n 1, 1) := by decide +kernel
theorem dX0_leastVacant_3 : decode cX0_leastVacant 3 = .ok (.sipush 800, 3) := by decide +kernel
theorem dX0_leastVacant_6 : decode cX0_leastVacant 6 = .ok (.if_icmp .ge 29, 3) := by decide +kernel
theorem dX0_leastVacant_9 : decode cX0_leastVacant 9 = .ok (.aload_n 0, 1) := by decide +kernel
theorem dX0_leastVacant_10 : decode cX0_leastVacant 10 = .ok (.getfield 25, 3) := by decide +kernel
theorem dX0_leastVacant_13 : decode cX0_leastVacant 13 = .ok (.iload_n 1, 1) := by decide +kernel
theorem dX0_leastVacant_14 : decode cX0_leastVacant 14 = .ok (.baload, 1) := by decide +kernel
theorem dX0_leastVacant_15 : decode cX0_leastVacant 15 = .ok (.ifCond .ne 14, 3) := by decide +kernel
theorem dX0_leastVacant_18 : decode cX0_leastVacant 18 = .ok (.aload_n 0, 1) := by decide +kernel
theorem dX0_leastVacant_19 : decode cX0_leastVacant 19 = .ok (.getfield 28, 3) := by decide +kernel
theorem dX0_leastVacant_22 : decode cX0_leastVacant 22 = .ok (.iload_n 1, 1) := by decide +kernel
theorem dX0_leastVacant_23 : decode cX0_leastVacant 23 = .ok (.baload, 1) := by decide +kernel
theorem dX0_leastVacant_24 : decode cX0_leastVacant 24 = .ok (.ifCond .ne 5, 3) := by decide +kernel
theorem dX0_leastVacant_27 : decode cX0_leastVacant 27 = .ok (.iload_n 1, 1) := by decide +kernel
theorem dX0_leastVacant_28 : decode cX0_leastVacant 28 = .ok (.ireturn, 1) := by decide +kernel
theorem dX0_leastVacant_29 : decode cX0_leastVacant 29 = .ok (.iinc 1 1, 3) := by decide +kernel
theorem dX0_leastVacant_32 : decode cX0_leastVacant 32 = .ok (.goto (-30), 3) := by decide +kernel
theorem dX0_leastVacant_35 : decode cX0_leastVacant 35 = .ok (.sipush 800, 3) := by decide +kernel
theorem dX0_leastVacant_38 : decode cX0_leastVacant 38 = .ok (.ireturn, 1) := by decide +kernel
theorem dX0_countOf_0 : decode cX0_countOf 0 = .ok (.iload_n 1, 1) := by decide +kernel
theorem dX0_countOf_1 : decode cX0_countOf 1 = .ok (.ifCond .lt 19, 3) := by decide +kernel
theorem dX0_countOf_4 : decode cX0_countOf 4 = .ok (.iload_n 1, 1) := by decide +kernel
theorem dX0_countOf_5 : decode cX0_countOf 5 = .ok (.sipush 800, 3) := by decide +kernel
theorem dX0_countOf_8 : decode cX0_countOf 8 = .ok (.if_icmp .ge 12, 3) := by decide +kernel
theorem dX0_countOf_11 : decode cX0_countOf 11 = .ok (.aload_n 0, 1) := by decide +kernel
theorem dX0_countOf_12 : decode cX0_countOf 12 = .ok (.getfield 9, 3) := by decide +kernel
theorem dX0_countOf_15 : decode cX0_countOf 15 = .ok (.iload_n 1, 1) := by decide +kernel
theorem dX0_countOf_16 : decode cX0_countOf 16 = .ok (.iaload, 1) := by decide +kernel
theorem dX0_countOf_17 : decode cX0_countOf 17 = .ok (.goto 4, 3) := by decide +kernel
theorem dX0_countOf_20 : decode cX0_countOf 20 = .ok (.iconst 0, 1) := by decide +kernel
theorem dX0_countOf_21 : decode cX0_countOf 21 = .ok (.ireturn, 1) := by decide +kernel
theorem dX0_isLeaf_0 : decode cX0_isLeaf 0 = .ok (.iload_n 1, 1) := by decide +kernel
theorem dX0_isLeaf_1 : decode cX0_isLeaf 1 = .ok (.ifCond .lt 19, 3) := by decide +kernel
theorem dX0_isLeaf_4 : decode cX0_isLeaf 4 = .ok (.iload_n 1, 1) := by decide +kernel
theorem dX0_isLeaf_5 : decode cX0_isLeaf 5 = .ok (.sipush 800, 3) := by decide +kernel
theorem dX0_isLeaf_8 : decode cX0_isLeaf 8 = .ok (.if_icmp .ge 12, 3) := by decide +kernel
theorem dX0_isLeaf_11 : decode cX0_isLeaf 11 = .ok (.aload_n 0, 1) := by decide +kernel
theorem dX0_isLeaf_12 : decode cX0_isLeaf 12 = .ok (.getfield 15, 3) := by decide +kernel
theorem dX0_isLeaf_15 : decode cX0_isLeaf 15 = .ok (.iload_n 1, 1) := by decide +kernel
theorem dX0_isLeaf_16 : decode cX0_isLeaf 16 = .ok (.baload, 1) := by decide +kernel
theorem dX0_isLeaf_17 : decode cX0_isLeaf 17 = .ok (.ifCond .ne 7, 3) := by decide +kernel
theorem dX0_isLeaf_20 : decode cX0_isLeaf 20 = .ok (.iconst 1, 1) := by decide +kernel
theorem dX0_isLeaf_21 : decode cX0_isLeaf 21 = .ok (.goto 4, 3) := by decide +kernel
theorem dX0_isLeaf_24 : decode cX0_isLeaf 24 = .ok (.iconst 0, 1) := by decide +kernel
theorem dX0_isLeaf_25 : decode cX0_isLeaf 25 = .ok (.ireturn, 1) := by decide +kernel
theorem dX0_wordOf_0 : decode cX0_wordOf 0 = .ok (.iload_n 1, 1) := by decide +kernel
theorem dX0_wordOf_1 : decode cX0_wordOf 1 = .ok (.ifCond .lt 23, 3) := by decide +kernel
theorem dX0_wordOf_4 : decode cX0_wordOf 4 = .ok (.iload_n 1, 1) := by decide +kernel
theorem dX0_wordOf_5 : decode cX0_wordOf 5 = .ok (.sipush 800, 3) := by decide +kernel
theorem dX0_wordOf_8 : decode cX0_wordOf 8 = .ok (.if_icmp .ge 16, 3) := by decide +kernel
theorem dX0_wordOf_11 : decode cX0_wordOf 11 = .ok (.iload_n 2, 1) := by decide +kernel
theorem dX0_wordOf_12 : decode cX0_wordOf 12 = .ok (.ifCond .lt 12, 3) := by decide +kernel
theorem dX0_wordOf_15 : decode cX0_wordOf 15 = .ok (.iload_n 2, 1) := by decide +kernel
theorem dX0_wordOf_16 : decode cX0_wordOf 16 = .ok (.iconst 5, 1) := by decide +kernel
theorem dX0_wordOf_17 : decode cX0_wordOf 17 = .ok (.if_icmp .ge 7, 3) := by decide +kernel
theorem dX0_wordOf_20 : decode cX0_wordOf 20 = .ok (.iconst 1, 1) := by decide +kernel
theorem dX0_wordOf_21 : decode cX0_wordOf 21 = .ok (.goto 4, 3) := by decide +kernel
theorem dX0_wordOf_24 : decode cX0_wordOf 24 = .ok (.iconst 0, 1) := by decide +kernel
theorem dX0_wordOf_25 : decode cX0_wordOf 25 = .ok (.istore_n 3, 1) := by decide +kernel
theorem dX0_wordOf_26 : decode cX0_wordOf 26 = .ok (.iload_n 3, 1) := by decide +kernel
theorem dX0_wordOf_27 : decode cX0_wordOf 27 = .ok (.ifCond .eq 16, 3) := by decide +kernel
theorem dX0_wordOf_30 : decode cX0_wordOf 30 = .ok (.aload_n 0, 1) := by decide +kernel
theorem dX0_wordOf_31 : decode cX0_wordOf 31 = .ok (.getfield 22, 3) := by decide +kernel
theorem dX0_wordOf_34 : decode cX0_wordOf 34 = .ok (.iload_n 1, 1) := by decide +kernel
theorem dX0_wordOf_35 : decode cX0_wordOf 35 = .ok (.iconst 5, 1) := by decide +kernel
theorem dX0_wordOf_36 : decode cX0_wordOf 36 = .ok (.imul, 1) := by decide +kernel
theorem dX0_wordOf_37 : decode cX0_wordOf 37 = .ok (.iload_n 2, 1) := by decide +kernel
theorem dX0_wordOf_38 : decode cX0_wordOf 38 = .ok (.iadd, 1) := by decide +kernel
theorem dX0_wordOf_39 : decode cX0_wordOf 39 = .ok (.iaload, 1) := by decide +kernel
theorem dX0_wordOf_40 : decode cX0_wordOf 40 = .ok (.goto 4, 3) := by decide +kernel
theorem dX0_wordOf_43 : decode cX0_wordOf 43 = .ok (.iconst (-1), 1) := by decide +kernel
theorem dX0_wordOf_44 : decode cX0_wordOf 44 = .ok (.ireturn, 1) := by decide +kernel
theorem dX0_setWord_0 : decode cX0_setWord 0 = .ok (.iload_n 1, 1) := by decide +kernel
theorem dX0_setWord_1 : decode cX0_setWord 1 = .ok (.iload_n 2, 1) := by decide +kernel
theorem dX0_setWord_2 : decode cX0_setWord 2 = .ok (.invokestatic 37, 3) := by decide +kernel
theorem dX0_setWord_5 : decode cX0_setWord 5 = .ok (.ifCond .eq 14, 3) := by decide +kernel
theorem dX0_setWord_8 : decode cX0_setWord 8 = .ok (.aload_n 0, 1) := by decide +kernel
theorem dX0_setWord_9 : decode cX0_setWord 9 = .ok (.getfield 22, 3) := by decide +kernel
theorem dX0_setWord_12 : decode cX0_setWord 12 = .ok (.iload_n 1, 1) := by decide +kernel
theorem dX0_setWord_13 : decode cX0_setWord 13 = .ok (.iconst 5, 1) := by decide +kernel
theorem dX0_setWord_14 : decode cX0_setWord 14 = .ok (.imul, 1) := by decide +kernel
theorem dX0_setWord_15 : decode cX0_setWord 15 = .ok (.iload_n 2, 1) := by decide +kernel
theorem dX0_setWord_16 : decode cX0_setWord 16 = .ok (.iadd, 1) := by decide +kernel
theorem dX0_setWord_17 : decode cX0_setWord 17 = .ok (.iload_n 3, 1) := by decide +kernel
theorem dX0_setWord_18 : decode cX0_setWord 18 = .ok (.iastore, 1) := by decide +kernel
theorem dX0_setWord_19 : decode cX0_setWord 19 = .ok (.return_, 1) := by decide +kernel
theorem dX0_keyOf_0 : decode cX0_keyOf 0 = .ok (.iload_n 1, 1) := by decide +kernel
theorem dX0_keyOf_1 : decode cX0_keyOf 1 = .ok (.istore_n 3, 1) := by decide +kernel
theorem dX0_keyOf_2 : decode cX0_keyOf 2 = .ok (.iload_n 2, 1) := by decide +kernel
theorem dX0_keyOf_3 : decode cX0_keyOf 3 = .ok (.istore 4, 2) := by decide +kernel
theorem dX0_keyOf_5 : decode cX0_keyOf 5 = .ok (.iconst 0, 1) := by decide +kernel
theorem dX0_keyOf_6 : decode cX0_keyOf 6 = .ok (.istore 5, 2) := by decide +kernel
theorem dX0_keyOf_8 : decode cX0_keyOf 8 = .ok (.iload 5, 2) := by decide +kernel
theorem dX0_keyOf_10 : decode cX0_keyOf 10 = .ok (.bipush 8, 2) := by decide +kernel
theorem dX0_keyOf_12 : decode cX0_keyOf 12 = .ok (.if_icmp .ge 28, 3) := by decide +kernel
theorem dX0_keyOf_15 : decode cX0_keyOf 15 = .ok (.aload_n 0, 1) := by decide +kernel
theorem dX0_keyOf_16 : decode cX0_keyOf 16 = .ok (.iload_n 3, 1) := by decide +kernel
theorem dX0_keyOf_17 : decode cX0_keyOf 17 = .ok (.invokevirtual 41, 3) := by decide +kernel
theorem dX0_keyOf_20 : decode cX0_keyOf 20 = .ok (.ifCond .ne 20, 3) := by decide +kernel
theorem dX0_keyOf_23 : decode cX0_keyOf 23 = .ok (.aload_n 0, 1) := by decide +kernel
theorem dX0_keyOf_24 : decode cX0_keyOf 24 = .ok (.iload_n 3, 1) := by decide +kernel
theorem dX0_keyOf_25 : decode cX0_keyOf 25 = .ok (.iload 4, 2) := by decide +kernel
theorem dX0_keyOf_27 : decode cX0_keyOf 27 = .ok (.invokevirtual 45, 3) := by decide +kernel
theorem dX0_keyOf_30 : decode cX0_keyOf 30 = .ok (.istore_n 3, 1) := by decide +kernel
theorem dX0_keyOf_31 : decode cX0_keyOf 31 = .ok (.iconst 0, 1) := by decide +kernel
theorem dX0_keyOf_32 : decode cX0_keyOf 32 = .ok (.istore 4, 2) := by decide +kernel
theorem dX0_keyOf_34 : decode cX0_keyOf 34 = .ok (.iinc 5 1, 3) := by decide +kernel
theorem dX0_keyOf_37 : decode cX0_keyOf 37 = .ok (.goto (-29), 3) := by decide +kernel
theorem dX0_keyOf_40 : decode cX0_keyOf 40 = .ok (.iload_n 3, 1) := by decide +kernel
theorem dX0_keyOf_41 : decode cX0_keyOf 41 = .ok (.iload 4, 2) := by decide +kernel
theorem dX0_keyOf_43 : decode cX0_keyOf 43 = .ok (.invokestatic 37, 3) := by decide +kernel
theorem dX0_keyOf_46 : decode cX0_keyOf 46 = .ok (.ifCond .eq 17, 3) := by decide +kernel
theorem dX0_keyOf_49 : decode cX0_keyOf 49 = .ok (.aload_n 0, 1) := by decide +kernel
theorem dX0_keyOf_50 : decode cX0_keyOf 50 = .ok (.getfield 19, 3) := by decide +kernel
theorem dX0_keyOf_53 : decode cX0_keyOf 53 = .ok (.iload_n 3, 1) := by decide +kernel
theorem dX0_keyOf_54 : decode cX0_keyOf 54 = .ok (.iconst 5, 1) := by decide +kernel
theorem dX0_keyOf_55 : decode cX0_keyOf 55 = .ok (.imul, 1) := by decide +kernel
theorem dX0_keyOf_56 : decode cX0_keyOf 56 = .ok (.iload 4, 2) := by decide +kernel
theorem dX0_keyOf_58 : decode cX0_keyOf 58 = .ok (.iadd, 1) := by decide +kernel
theorem dX0_keyOf_59 : decode cX0_keyOf 59 = .ok (.iaload, 1) := by decide +kernel
theorem dX0_keyOf_60 : decode cX0_keyOf 60 = .ok (.goto 4, 3) := by decide +kernel
theorem dX0_keyOf_63 : decode cX0_keyOf 63 = .ok (.iconst (-1), 1) := by decide +kernel
theorem dX0_keyOf_64 : decode cX0_keyOf 64 = .ok (.ireturn, 1) := by decide +kernel
theorem dX0_placeOf_0 : decode cX0_placeOf 0 = .ok (.iconst 0, 1) := by decide +kernel
theorem dX0_placeOf_1 : decode cX0_placeOf 1 = .ok (.istore_n 3, 1) := by decide +kernel
theorem dX0_placeOf_2 : decode cX0_placeOf 2 = .ok (.iload_n 3, 1) := by decide +kernel
theorem dX0_placeOf_3 : decode cX0_placeOf 3 = .ok (.iconst 5, 1) := by decide +kernel
theorem dX0_placeOf_4 : decode cX0_placeOf 4 = .ok (.if_icmp .ge 28, 3) := by decide +kernel
theorem dX0_placeOf_7 : decode cX0_placeOf 7 = .ok (.iload_n 3, 1) := by decide +kernel
theorem dX0_placeOf_8 : decode cX0_placeOf 8 = .ok (.aload_n 0, 1) := by decide +kernel
theorem dX0_placeOf_9 : decode cX0_placeOf 9 = .ok (.iload_n 1, 1) := by decide +kernel
theorem dX0_placeOf_10 : decode cX0_placeOf 10 = .ok (.invokevirtual 49, 3) := by decide +kernel
theorem dX0_placeOf_13 : decode cX0_placeOf 13 = .ok (.if_icmp .ge 19, 3) := by decide +kernel
theorem dX0_placeOf_16 : decode cX0_placeOf 16 = .ok (.aload_n 0, 1) := by decide +kernel
theorem dX0_placeOf_17 : decode cX0_placeOf 17 = .ok (.iload_n 1, 1) := by decide +kernel
theorem dX0_placeOf_18 : decode cX0_placeOf 18 = .ok (.iload_n 3, 1) := by decide +kernel
theorem dX0_placeOf_19 : decode cX0_placeOf 19 = .ok (.invokevirtual 53, 3) := by decide +kernel
theorem dX0_placeOf_22 : decode cX0_placeOf 22 = .ok (.iload_n 2, 1) := by decide +kernel
theorem dX0_placeOf_23 : decode cX0_placeOf 23 = .ok (.if_icmp .ge 9, 3) := by decide +kernel
theorem dX0_placeOf_26 : decode cX0_placeOf 26 = .ok (.iinc 3 1, 3) := by decide +kernel
theorem dX0_placeOf_29 : decode cX0_placeOf 29 = .ok (.goto (-27), 3) := by decide +kernel
theorem dX0_placeOf_32 : decode cX0_placeOf 32 = .ok (.iload_n 3, 1) := by decide +kernel
theorem dX0_placeOf_33 : decode cX0_placeOf 33 = .ok (.ireturn, 1) := by decide +kernel
theorem dX0_holds_0 : decode cX0_holds 0 = .ok (.iload_n 2, 1) := by decide +kernel
theorem dX0_holds_1 : decode cX0_holds 1 = .ok (.aload_n 0, 1) := by decide +kernel
theorem dX0_holds_2 : decode cX0_holds 2 = .ok (.iload_n 1, 1) := by decide +kernel
theorem dX0_holds_3 : decode cX0_holds 3 = .ok (.invokevirtual 49, 3) := by decide +kernel
theorem dX0_holds_6 : decode cX0_holds 6 = .ok (.if_icmp .ge 17, 3) := by decide +kernel
theorem dX0_holds_9 : decode cX0_holds 9 = .ok (.aload_n 0, 1) := by decide +kernel
theorem dX0_holds_10 : decode cX0_holds 10 = .ok (.iload_n 1, 1) := by decide +kernel
theorem dX0_holds_11 : decode cX0_holds 11 = .ok (.iload_n 2, 1) := by decide +kernel
theorem dX0_holds_12 : decode cX0_holds 12 = .ok (.invokevirtual 53, 3) := by decide +kernel
theorem dX0_holds_15 : decode cX0_holds 15 = .ok (.iload_n 3, 1) := by decide +kernel
theorem dX0_holds_16 : decode cX0_holds 16 = .ok (.if_icmp .ne 7, 3) := by decide +kernel
theorem dX0_holds_19 : decode cX0_holds 19 = .ok (.iconst 1, 1) := by decide +kernel
theorem dX0_holds_20 : decode cX0_holds 20 = .ok (.goto 4, 3) := by decide +kernel
theorem dX0_holds_23 : decode cX0_holds 23 = .ok (.iconst 0, 1) := by decide +kernel
theorem dX0_holds_24 : decode cX0_holds 24 = .ok (.ireturn, 1) := by decide +kernel
theorem dX0_entryFor_0 : decode cX0_entryFor 0 = .ok (.iconst 0, 1) := by decide +kernel
theorem dX0_entryFor_1 : decode cX0_entryFor 1 = .ok (.istore_n 3, 1) := by decide +kernel
theorem dX0_entryFor_2 : decode cX0_entryFor 2 = .ok (.iload_n 3, 1) := by decide +kernel
theorem dX0_entryFor_3 : decode cX0_entryFor 3 = .ok (.iconst 1, 1) := by decide +kernel
theorem dX0_entryFor_4 : decode cX0_entryFor 4 = .ok (.iadd, 1) := by decide +kernel
theorem dX0_entryFor_5 : decode cX0_entryFor 5 = .ok (.iconst 5, 1) := by decide +kernel
theorem dX0_entryFor_6 : decode cX0_entryFor 6 = .ok (.if_icmp .ge 32, 3) := by decide +kernel
theorem dX0_entryFor_9 : decode cX0_entryFor 9 = .ok (.iload_n 3, 1) := by decide +kernel
theorem dX0_entryFor_10 : decode cX0_entryFor 10 = .ok (.iconst 1, 1) := by decide +kernel
theorem dX0_entryFor_11 : decode cX0_entryFor 11 = .ok (.iadd, 1) := by decide +kernel
theorem dX0_entryFor_12 : decode cX0_entryFor 12 = .ok (.aload_n 0, 1) := by decide +kernel
theorem dX0_entryFor_13 : decode cX0_entryFor 13 = .ok (.iload_n 1, 1) := by decide +kernel
theorem dX0_entryFor_14 : decode cX0_entryFor 14 = .ok (.invokevirtual 49, 3) := by decide +kernel
theorem dX0_entryFor_17 : decode cX0_entryFor 17 = .ok (.if_icmp .ge 21, 3) := by decide +kernel
theorem dX0_entryFor_20 : decode cX0_entryFor 20 = .ok (.aload_n 0, 1) := by decide +kernel
theorem dX0_entryFor_21 : decode cX0_entryFor 21 = .ok (.iload_n 1, 1) := by decide +kernel
theorem dX0_entryFor_22 : decode cX0_entryFor 22 = .ok (.iload_n 3, 1) := by decide +kernel
theorem dX0_entryFor_23 : decode cX0_entryFor 23 = .ok (.iconst 1, 1) := by decide +kernel
theorem dX0_entryFor_24 : decode cX0_entryFor 24 = .ok (.iadd, 1) := by decide +kernel
theorem dX0_entryFor_25 : decode cX0_entryFor 25 = .ok (.invokevirtual 53, 3) := by decide +kernel
theorem dX0_entryFor_28 : decode cX0_entryFor 28 = .ok (.iload_n 2, 1) := by decide +kernel
theorem dX0_entryFor_29 : decode cX0_entryFor 29 = .ok (.if_icmp .gt 9, 3) := by decide +kernel
theorem dX0_entryFor_32 : decode cX0_entryFor 32 = .ok (.iinc 3 1, 3) := by decide +kernel
theorem dX0_entryFor_35 : decode cX0_entryFor 35 = .ok (.goto (-33), 3) := by decide +kernel
theorem dX0_entryFor_38 : decode cX0_entryFor 38 = .ok (.iload_n 3, 1) := by decide +kernel
theorem dX0_entryFor_39 : decode cX0_entryFor 39 = .ok (.ireturn, 1) := by decide +kernel
theorem dX0_leafFor_0 : decode cX0_leafFor 0 = .ok (.iload_n 1, 1) := by decide +kernel
theorem dX0_leafFor_1 : decode cX0_leafFor 1 = .ok (.istore_n 3, 1) := by decide +kernel
theorem dX0_leafFor_2 : decode cX0_leafFor 2 = .ok (.iconst 0, 1) := by decide +kernel
theorem dX0_leafFor_3 : decode cX0_leafFor 3 = .ok (.istore 4, 2) := by decide +kernel
theorem dX0_leafFor_5 : decode cX0_leafFor 5 = .ok (.iload 4, 2) := by decide +kernel
theorem dX0_leafFor_7 : decode cX0_leafFor 7 = .ok (.bipush 8, 2) := by decide +kernel
theorem dX0_leafFor_9 : decode cX0_leafFor 9 = .ok (.if_icmp .ge 29, 3) := by decide +kernel
theorem dX0_leafFor_12 : decode cX0_leafFor 12 = .ok (.aload_n 0, 1) := by decide +kernel
theorem dX0_leafFor_13 : decode cX0_leafFor 13 = .ok (.iload_n 3, 1) := by decide +kernel
theorem dX0_leafFor_14 : decode cX0_leafFor 14 = .ok (.invokevirtual 41, 3) := by decide +kernel
theorem dX0_leafFor_17 : decode cX0_leafFor 17 = .ok (.ifCond .ne 21, 3) := by decide +kernel
theorem dX0_leafFor_20 : decode cX0_leafFor 20 = .ok (.aload_n 0, 1) := by decide +kernel
theorem dX0_leafFor_21 : decode cX0_leafFor 21 = .ok (.iload_n 3, 1) := by decide +kernel
theorem dX0_leafFor_22 : decode cX0_leafFor 22 = .ok (.aload_n 0, 1) := by decide +kernel
theorem dX0_leafFor_23 : decode cX0_leafFor 23 = .ok (.iload_n 3, 1) := by decide +kernel
theorem dX0_leafFor_24 : decode cX0_leafFor 24 = .ok (.iload_n 2, 1) := by decide +kernel
theorem dX0_leafFor_25 : decode cX0_leafFor 25 = .ok (.invokevirtual 56, 3) := by decide +kernel
theorem dX0_leafFor_28 : decode cX0_leafFor 28 = .ok (.invokevirtual 45, 3) := by decide +kernel
theorem dX0_leafFor_31 : decode cX0_leafFor 31 = .ok (.istore_n 3, 1) := by decide +kernel
theorem dX0_leafFor_32 : decode cX0_leafFor 32 = .ok (.iinc 4 1, 3) := by decide +kernel
theorem dX0_leafFor_35 : decode cX0_leafFor 35 = .ok (.goto (-30), 3) := by decide +kernel
theorem dX0_leafFor_38 : decode cX0_leafFor 38 = .ok (.iload_n 3, 1) := by decide +kernel
theorem dX0_leafFor_39 : decode cX0_leafFor 39 = .ok (.ireturn, 1) := by decide +kernel
theorem dX0_levelsFrom_0 : decode cX0_levelsFrom 0 = .ok (.iconst 1, 1) := by decide +kernel
theorem dX0_levelsFrom_1 : decode cX0_levelsFrom 1 = .ok (.istore_n 2, 1) := by decide +kernel
theorem dX0_levelsFrom_2 : decode cX0_levelsFrom 2 = .ok (.iload_n 1, 1) := by decide +kernel
theorem dX0_levelsFrom_3 : decode cX0_levelsFrom 3 = .ok (.istore_n 3, 1) := by decide +kernel
theorem dX0_levelsFrom_4 : decode cX0_levelsFrom 4 = .ok (.iload_n 2, 1) := by decide +kernel
theorem dX0_levelsFrom_5 : decode cX0_levelsFrom 5 = .ok (.bipush 8, 2) := by decide +kernel
theorem dX0_levelsFrom_7 : decode cX0_levelsFrom 7 = .ok (.if_icmp .ge 24, 3) := by decide +kernel
theorem dX0_levelsFrom_10 : decode cX0_levelsFrom 10 = .ok (.aload_n 0, 1) := by decide +kernel
theorem dX0_levelsFrom_11 : decode cX0_levelsFrom 11 = .ok (.iload_n 3, 1) := by decide +kernel
theorem dX0_levelsFrom_12 : decode cX0_levelsFrom 12 = .ok (.invokevirtual 41, 3) := by decide +kernel
theorem dX0_levelsFrom_15 : decode cX0_levelsFrom 15 = .ok (.ifCond .ne 16, 3) := by decide +kernel
theorem dX0_levelsFrom_18 : decode cX0_levelsFrom 18 = .ok (.aload_n 0, 1) := by decide +kernel
theorem dX0_levelsFrom_19 : decode cX0_levelsFrom 19 = .ok (.iload_n 3, 1) := by decide +kernel
theorem dX0_levelsFrom_20 : decode cX0_levelsFrom 20 = .ok (.iconst 0, 1) := by decide +kernel
theorem dX0_levelsFrom_21 : decode cX0_levelsFrom 21 = .ok (.invokevirtual 45, 3) := by decide +kernel
theorem dX0_levelsFrom_24 : decode cX0_levelsFrom 24 = .ok (.istore_n 3, 1) := by decide +kernel
theorem dX0_levelsFrom_25 : decode cX0_levelsFrom 25 = .ok (.iinc 2 1, 3) := by decide +kernel
theorem dX0_levelsFrom_28 : decode cX0_levelsFrom 28 = .ok (.goto (-24), 3) := by decide +kernel
theorem dX0_levelsFrom_31 : decode cX0_levelsFrom 31 = .ok (.iload_n 2, 1) := by decide +kernel
theorem dX0_levelsFrom_32 : decode cX0_levelsFrom 32 = .ok (.ireturn, 1) := by decide +kernel
theorem dX0_listTree_0 : decode cX0_listTree 0 = .ok (.aload_n 0, 1) := by decide +kernel
theorem dX0_listTree_1 : decode cX0_listTree 1 = .ok (.getfield 34, 3) := by decide +kernel
theorem dX0_listTree_4 : decode cX0_listTree 4 = .ok (.iconst 0, 1) := by decide +kernel
theorem dX0_listTree_5 : decode cX0_listTree 5 = .ok (.iload_n 1, 1) := by decide +kernel
theorem dX0_listTree_6 : decode cX0_listTree 6 = .ok (.iastore, 1) := by decide +kernel
theorem dX0_listTree_7 : decode cX0_listTree 7 = .ok (.iconst 1, 1) := by decide +kernel
theorem dX0_listTree_8 : decode cX0_listTree 8 = .ok (.istore_n 2, 1) := by decide +kernel
theorem dX0_listTree_9 : decode cX0_listTree 9 = .ok (.iconst 0, 1) := by decide +kernel
theorem dX0_listTree_10 : decode cX0_listTree 10 = .ok (.istore_n 3, 1) := by decide +kernel
theorem dX0_listTree_11 : decode cX0_listTree 11 = .ok (.iload_n 3, 1) := by decide +kernel
theorem dX0_listTree_12 : decode cX0_listTree 12 = .ok (.sipush 800, 3) := by decide +kernel
theorem dX0_listTree_15 : decode cX0_listTree 15 = .ok (.if_icmp .ge 83, 3) := by decide +kernel
theorem dX0_listTree_18 : decode cX0_listTree 18 = .ok (.iload_n 3, 1) := by decide +kernel
theorem dX0_listTree_19 : decode cX0_listTree 19 = .ok (.iload_n 2, 1) := by decide +kernel
theorem dX0_listTree_20 : decode cX0_listTree 20 = .ok (.if_icmp .ge 78, 3) := by decide +kernel
theorem dX0_listTree_23 : decode cX0_listTree 23 = .ok (.aload_n 0, 1) := by decide +kernel
theorem dX0_listTree_24 : decode cX0_listTree 24 = .ok (.getfield 34, 3) := by decide +kernel
theorem dX0_listTree_27 : decode cX0_listTree 27 = .ok (.iload_n 3, 1) := by decide +kernel
theorem dX0_listTree_28 : decode cX0_listTree 28 = .ok (.iaload, 1) := by decide +kernel
theorem dX0_listTree_29 : decode cX0_listTree 29 = .ok (.istore 4, 2) := by decide +kernel
theorem dX0_listTree_31 : decode cX0_listTree 31 = .ok (.aload_n 0, 1) := by decide +kernel
theorem dX0_listTree_32 : decode cX0_listTree 32 = .ok (.iload 4, 2) := by decide +kernel
theorem dX0_listTree_34 : decode cX0_listTree 34 = .ok (.invokevirtual 41, 3) := by decide +kernel
theorem dX0_listTree_37 : decode cX0_listTree 37 = .ok (.ifCond .eq 7, 3) := by decide +kernel
theorem dX0_listTree_40 : decode cX0_listTree 40 = .ok (.iconst 0, 1) := by decide +kernel
theorem dX0_listTree_41 : decode cX0_listTree 41 = .ok (.goto 9, 3) := by decide +kernel
theorem dX0_listTree_44 : decode cX0_listTree 44 = .ok (.aload_n 0, 1) := by decide +kernel
theorem dX0_listTree_45 : decode cX0_listTree 45 = .ok (.iload 4, 2) := by decide +kernel
theorem dX0_listTree_47 : decode cX0_listTree 47 = .ok (.invokevirtual 49, 3) := by decide +kernel
theorem dX0_listTree_50 : decode cX0_listTree 50 = .ok (.istore 5, 2) := by decide +kernel
theorem dX0_listTree_52 : decode cX0_listTree 52 = .ok (.iconst 0, 1) := by decide +kernel
theorem dX0_listTree_53 : decode cX0_listTree 53 = .ok (.istore 6, 2) := by decide +kernel
theorem dX0_listTree_55 : decode cX0_listTree 55 = .ok (.iload 6, 2) := by decide +kernel
theorem dX0_listTree_57 : decode cX0_listTree 57 = .ok (.iload 5, 2) := by decide +kernel
theorem dX0_listTree_59 : decode cX0_listTree 59 = .ok (.if_icmp .ge 33, 3) := by decide +kernel
theorem dX0_listTree_62 : decode cX0_listTree 62 = .ok (.iload_n 2, 1) := by decide +kernel
theorem dX0_listTree_63 : decode cX0_listTree 63 = .ok (.sipush 800, 3) := by decide +kernel
theorem dX0_listTree_66 : decode cX0_listTree 66 = .ok (.if_icmp .ge 26, 3) := by decide +kernel
theorem dX0_listTree_69 : decode cX0_listTree 69 = .ok (.aload_n 0, 1) := by decide +kernel
theorem dX0_listTree_70 : decode cX0_listTree 70 = .ok (.getfield 34, 3) := by decide +kernel
theorem dX0_listTree_73 : decode cX0_listTree 73 = .ok (.iload_n 2, 1) := by decide +kernel
theorem dX0_listTree_74 : decode cX0_listTree 74 = .ok (.aload_n 0, 1) := by decide +kernel
theorem dX0_listTree_75 : decode cX0_listTree 75 = .ok (.iload 4, 2) := by decide +kernel
theorem dX0_listTree_77 : decode cX0_listTree 77 = .ok (.iload 6, 2) := by decide +kernel
theorem dX0_listTree_79 : decode cX0_listTree 79 = .ok (.invokevirtual 45, 3) := by decide +kernel
theorem dX0_listTree_82 : decode cX0_listTree 82 = .ok (.iastore, 1) := by decide +kernel
theorem dX0_listTree_83 : decode cX0_listTree 83 = .ok (.iinc 2 1, 3) := by decide +kernel
theorem dX0_listTree_86 : decode cX0_listTree 86 = .ok (.iinc 6 1, 3) := by decide +kernel
theorem dX0_listTree_89 : decode cX0_listTree 89 = .ok (.goto (-34), 3) := by decide +kernel
theorem dX0_listTree_92 : decode cX0_listTree 92 = .ok (.iinc 3 1, 3) := by decide +kernel
theorem dX0_listTree_95 : decode cX0_listTree 95 = .ok (.goto (-84), 3) := by decide +kernel
theorem dX0_listTree_98 : decode cX0_listTree 98 = .ok (.iload_n 2, 1) := by decide +kernel
theorem dX0_listTree_99 : decode cX0_listTree 99 = .ok (.ireturn, 1) := by decide +kernel
theorem dX0_unmark_0 : decode cX0_unmark 0 = .ok (.iconst 0, 1) := by decide +kernel
theorem dX0_unmark_1 : decode cX0_unmark 1 = .ok (.istore_n 1, 1) := by decide +kernel
theorem dX0_unmark_2 : decode cX0_unmark 2 = .ok (.iload_n 1, 1) := by decide +kernel
theorem dX0_unmark_3 : decode cX0_unmark 3 = .ok (.aload_n 0, 1) := by decide +kernel
theorem dX0_unmark_4 : decode cX0_unmark 4 = .ok (.arraylength, 1) := by decide +kernel
theorem dX0_unmark_5 : decode cX0_unmark 5 = .ok (.if_icmp .ge 13, 3) := by decide +kernel
theorem dX0_unmark_8 : decode cX0_unmark 8 = .ok (.aload_n 0, 1) := by decide +kernel
theorem dX0_unmark_9 : decode cX0_unmark 9 = .ok (.iload_n 1, 1) := by decide +kernel
theorem dX0_unmark_10 : decode cX0_unmark 10 = .ok (.iconst 0, 1) := by decide +kernel
theorem dX0_unmark_11 : decode cX0_unmark 11 = .ok (.bastore, 1) := by decide +kernel
theorem dX0_unmark_12 : decode cX0_unmark 12 = .ok (.iinc 1 1, 3) := by decide +kernel
theorem dX0_unmark_15 : decode cX0_unmark 15 = .ok (.goto (-13), 3) := by decide +kernel
theorem dX0_unmark_18 : decode cX0_unmark 18 = .ok (.return_, 1) := by decide +kernel
theorem dX0_markTree_0 : decode cX0_markTree 0 = .ok (.aload_n 0, 1) := by decide +kernel
theorem dX0_markTree_1 : decode cX0_markTree 1 = .ok (.iload_n 2, 1) := by decide +kernel
theorem dX0_markTree_2 : decode cX0_markTree 2 = .ok (.invokevirtual 59, 3) := by decide +kernel
theorem dX0_markTree_5 : decode cX0_markTree 5 = .ok (.istore_n 3, 1) := by decide +kernel
theorem dX0_markTree_6 : decode cX0_markTree 6 = .ok (.iconst 0, 1) := by decide +kernel
theorem dX0_markTree_7 : decode cX0_markTree 7 = .ok (.istore 4, 2) := by decide +kernel
theorem dX0_markTree_9 : decode cX0_markTree 9 = .ok (.iload 4, 2) := by decide +kernel
theorem dX0_markTree_11 : decode cX0_markTree 11 = .ok (.sipush 800, 3) := by decide +kernel
theorem dX0_markTree_14 : decode cX0_markTree 14 = .ok (.if_icmp .ge 41, 3) := by decide +kernel
theorem dX0_markTree_17 : decode cX0_markTree 17 = .ok (.iload 4, 2) := by decide +kernel
theorem dX0_markTree_19 : decode cX0_markTree 19 = .ok (.iload_n 3, 1) := by decide +kernel
theorem dX0_markTree_20 : decode cX0_markTree 20 = .ok (.if_icmp .ge 35, 3) := by decide +kernel
theorem dX0_markTree_23 : decode cX0_markTree 23 = .ok (.aload_n 0, 1) := by decide +kernel
theorem dX0_markTree_24 : decode cX0_markTree 24 = .ok (.getfield 34, 3) := by decide +kernel
theorem dX0_markTree_27 : decode cX0_markTree 27 = .ok (.iload 4, 2) := by decide +kernel
theorem dX0_markTree_29 : decode cX0_markTree 29 = .ok (.iaload, 1) := by decide +kernel
theorem dX0_markTree_30 : decode cX0_markTree 30 = .ok (.istore 5, 2) := by decide +kernel
theorem dX0_markTree_32 : decode cX0_markTree 32 = .ok (.iload 5, 2) := by decide +kernel
theorem dX0_markTree_34 : decode cX0_markTree 34 = .ok (.ifCond .lt 15, 3) := by decide +kernel
theorem dX0_markTree_37 : decode cX0_markTree 37 = .ok (.iload 5, 2) := by decide +kernel
theorem dX0_markTree_39 : decode cX0_markTree 39 = .ok (.aload_n 1, 1) := by decide +kernel
theorem dX0_markTree_40 : decode cX0_markTree 40 = .ok (.arraylength, 1) := by decide +kernel
theorem dX0_markTree_41 : decode cX0_markTree 41 = .ok (.if_icmp .ge 8, 3) := by decide +kernel
theorem dX0_markTree_44 : decode cX0_markTree 44 = .ok (.aload_n 1, 1) := by decide +kernel
theorem dX0_markTree_45 : decode cX0_markTree 45 = .ok (.iload 5, 2) := by decide +kernel
theorem dX0_markTree_47 : decode cX0_markTree 47 = .ok (.iconst 1, 1) := by decide +kernel
theorem dX0_markTree_48 : decode cX0_markTree 48 = .ok (.bastore, 1) := by decide +kernel
theorem dX0_markTree_49 : decode cX0_markTree 49 = .ok (.iinc 4 1, 3) := by decide +kernel
theorem dX0_markTree_52 : decode cX0_markTree 52 = .ok (.goto (-43), 3) := by decide +kernel
theorem dX0_markTree_55 : decode cX0_markTree 55 = .ok (.return_, 1) := by decide +kernel
theorem dX0_countMarked_0 : decode cX0_countMarked 0 = .ok (.aload_n 0, 1) := by decide +kernel
theorem dX0_countMarked_1 : decode cX0_countMarked 1 = .ok (.iload_n 1, 1) := by decide +kernel
theorem dX0_countMarked_2 : decode cX0_countMarked 2 = .ok (.invokevirtual 59, 3) := by decide +kernel
theorem dX0_countMarked_5 : decode cX0_countMarked 5 = .ok (.istore_n 2, 1) := by decide +kernel
theorem dX0_countMarked_6 : decode cX0_countMarked 6 = .ok (.iconst 0, 1) := by decide +kernel
theorem dX0_countMarked_7 : decode cX0_countMarked 7 = .ok (.istore_n 3, 1) := by decide +kernel
theorem dX0_countMarked_8 : decode cX0_countMarked 8 = .ok (.iconst 0, 1) := by decide +kernel
theorem dX0_countMarked_9 : decode cX0_countMarked 9 = .ok (.istore 4, 2) := by decide +kernel
theorem dX0_countMarked_11 : decode cX0_countMarked 11 = .ok (.iload 4, 2) := by decide +kernel
theorem dX0_countMarked_13 : decode cX0_countMarked 13 = .ok (.sipush 800, 3) := by decide +kernel
theorem dX0_countMarked_16 : decode cX0_countMarked 16 = .ok (.if_icmp .ge 50, 3) := by decide +kernel
theorem dX0_countMarked_19 : decode cX0_countMarked 19 = .ok (.iload 4, 2) := by decide +kernel
theorem dX0_countMarked_21 : decode cX0_countMarked 21 = .ok (.iload_n 2, 1) := by decide +kernel
theorem dX0_countMarked_22 : decode cX0_countMarked 22 = .ok (.if_icmp .ge 44, 3) := by decide +kernel
theorem dX0_countMarked_25 : decode cX0_countMarked 25 = .ok (.aload_n 0, 1) := by decide +kernel
theorem dX0_countMarked_26 : decode cX0_countMarked 26 = .ok (.getfield 34, 3) := by decide +kernel
theorem dX0_countMarked_29 : decode cX0_countMarked 29 = .ok (.iload 4, 2) := by decide +kernel
theorem dX0_countMarked_31 : decode cX0_countMarked 31 = .ok (.iaload, 1) := by decide +kernel
theorem dX0_countMarked_32 : decode cX0_countMarked 32 = .ok (.istore 5, 2) := by decide +kernel
theorem dX0_countMarked_34 : decode cX0_countMarked 34 = .ok (.iload 5, 2) := by decide +kernel
theorem dX0_countMarked_36 : decode cX0_countMarked 36 = .ok (.ifCond .lt 24, 3) := by decide +kernel
theorem dX0_countMarked_39 : decode cX0_countMarked 39 = .ok (.iload 5, 2) := by decide +kernel
theorem dX0_countMarked_41 : decode cX0_countMarked 41 = .ok (.sipush 800, 3) := by decide +kernel
theorem dX0_countMarked_44 : decode cX0_countMarked 44 = .ok (.if_icmp .ge 16, 3) := by decide +kernel
theorem dX0_countMarked_47 : decode cX0_countMarked 47 = .ok (.aload_n 0, 1) := by decide +kernel
theorem dX0_countMarked_48 : decode cX0_countMarked 48 = .ok (.getfield 31, 3) := by decide +kernel
theorem dX0_countMarked_51 : decode cX0_countMarked 51 = .ok (.iload 5, 2) := by decide +kernel
theorem dX0_countMarked_53 : decode cX0_countMarked 53 = .ok (.baload, 1) := by decide +kernel
theorem dX0_countMarked_54 : decode cX0_countMarked 54 = .ok (.ifCond .eq 6, 3) := by decide +kernel
theorem dX0_countMarked_57 : decode cX0_countMarked 57 = .ok (.iinc 3 1, 3) := by decide +kernel
theorem dX0_countMarked_60 : decode cX0_countMarked 60 = .ok (.iinc 4 1, 3) := by decide +kernel
theorem dX0_countMarked_63 : decode cX0_countMarked 63 = .ok (.goto (-52), 3) := by decide +kernel
theorem dX0_countMarked_66 : decode cX0_countMarked 66 = .ok (.iload_n 3, 1) := by decide +kernel
theorem dX0_countMarked_67 : decode cX0_countMarked 67 = .ok (.ireturn, 1) := by decide +kernel
theorem dX0_leastKeyFrom_0 : decode cX0_leastKeyFrom 0 = .ok (.aload_n 0, 1) := by decide +kernel
theorem dX0_leastKeyFrom_1 : decode cX0_leastKeyFrom 1 = .ok (.iload_n 1, 1) := by decide +kernel
theorem dX0_leastKeyFrom_2 : decode cX0_leastKeyFrom 2 = .ok (.invokevirtual 59, 3) := by decide +kernel
theorem dX0_leastKeyFrom_5 : decode cX0_leastKeyFrom 5 = .ok (.istore_n 3, 1) := by decide +kernel
theorem dX0_leastKeyFrom_6 : decode cX0_leastKeyFrom 6 = .ok (.iconst 0, 1) := by decide +kernel
theorem dX0_leastKeyFrom_7 : decode cX0_leastKeyFrom 7 = .ok (.istore 4, 2) := by decide +kernel
theorem dX0_leastKeyFrom_9 : decode cX0_leastKeyFrom 9 = .ok (.iload 4, 2) := by decide +kernel
theorem dX0_leastKeyFrom_11 : decode cX0_leastKeyFrom 11 = .ok (.sipush 800, 3) := by decide +kernel
theorem dX0_leastKeyFrom_14 : decode cX0_leastKeyFrom 14 = .ok (.if_icmp .ge 66, 3) := by decide +kernel
theorem dX0_leastKeyFrom_17 : decode cX0_leastKeyFrom 17 = .ok (.iload 4, 2) := by decide +kernel
theorem dX0_leastKeyFrom_19 : decode cX0_leastKeyFrom 19 = .ok (.iload_n 3, 1) := by decide +kernel
theorem dX0_leastKeyFrom_20 : decode cX0_leastKeyFrom 20 = .ok (.if_icmp .ge 60, 3) := by decide +kernel
theorem dX0_leastKeyFrom_23 : decode cX0_leastKeyFrom 23 = .ok (.aload_n 0, 1) := by decide +kernel
theorem dX0_leastKeyFrom_24 : decode cX0_leastKeyFrom 24 = .ok (.getfield 34, 3) := by decide +kernel
theorem dX0_leastKeyFrom_27 : decode cX0_leastKeyFrom 27 = .ok (.iload 4, 2) := by decide +kernel
theorem dX0_leastKeyFrom_29 : decode cX0_leastKeyFrom 29 = .ok (.iaload, 1) := by decide +kernel
theorem dX0_leastKeyFrom_30 : decode cX0_leastKeyFrom 30 = .ok (.istore 5, 2) := by decide +kernel
theorem dX0_leastKeyFrom_32 : decode cX0_leastKeyFrom 32 = .ok (.aload_n 0, 1) := by decide +kernel
theorem dX0_leastKeyFrom_33 : decode cX0_leastKeyFrom 33 = .ok (.iload 5, 2) := by decide +kernel
theorem dX0_leastKeyFrom_35 : decode cX0_leastKeyFrom 35 = .ok (.invokevirtual 41, 3) := by decide +kernel
theorem dX0_leastKeyFrom_38 : decode cX0_leastKeyFrom 38 = .ok (.ifCond .eq 13, 3) := by decide +kernel
theorem dX0_leastKeyFrom_41 : decode cX0_leastKeyFrom 41 = .ok (.aload_n 0, 1) := by decide +kernel
theorem dX0_leastKeyFrom_42 : decode cX0_leastKeyFrom 42 = .ok (.iload 5, 2) := by decide +kernel
theorem dX0_leastKeyFrom_44 : decode cX0_leastKeyFrom 44 = .ok (.iload_n 2, 1) := by decide +kernel
theorem dX0_leastKeyFrom_45 : decode cX0_leastKeyFrom 45 = .ok (.invokevirtual 62, 3) := by decide +kernel
theorem dX0_leastKeyFrom_48 : decode cX0_leastKeyFrom 48 = .ok (.goto 4, 3) := by decide +kernel
theorem dX0_leastKeyFrom_51 : decode cX0_leastKeyFrom 51 = .ok (.iconst 5, 1) := by decide +kernel
theorem dX0_leastKeyFrom_52 : decode cX0_leastKeyFrom 52 = .ok (.istore 6, 2) := by decide +kernel
theorem dX0_leastKeyFrom_54 : decode cX0_leastKeyFrom 54 = .ok (.iload 6, 2) := by decide +kernel
theorem dX0_leastKeyFrom_56 : decode cX0_leastKeyFrom 56 = .ok (.aload_n 0, 1) := by decide +kernel
theorem dX0_leastKeyFrom_57 : decode cX0_leastKeyFrom 57 = .ok (.iload 5, 2) := by decide +kernel
theorem dX0_leastKeyFrom_59 : decode cX0_leastKeyFrom 59 = .ok (.invokevirtual 49, 3) := by decide +kernel
theorem dX0_leastKeyFrom_62 : decode cX0_leastKeyFrom 62 = .ok (.if_icmp .ge 12, 3) := by decide +kernel
theorem dX0_leastKeyFrom_65 : decode cX0_leastKeyFrom 65 = .ok (.aload_n 0, 1) := by decide +kernel
theorem dX0_leastKeyFrom_66 : decode cX0_leastKeyFrom 66 = .ok (.iload 5, 2) := by decide +kernel
theorem dX0_leastKeyFrom_68 : decode cX0_leastKeyFrom 68 = .ok (.iload 6, 2) := by decide +kernel
theorem dX0_leastKeyFrom_70 : decode cX0_leastKeyFrom 70 = .ok (.invokevirtual 53, 3) := by decide +kernel
theorem dX0_leastKeyFrom_73 : decode cX0_leastKeyFrom 73 = .ok (.ireturn, 1) := by decide +kernel
theorem dX0_leastKeyFrom_74 : decode cX0_leastKeyFrom 74 = .ok (.iinc 4 1, 3) := by decide +kernel
theorem dX0_leastKeyFrom_77 : decode cX0_leastKeyFrom 77 = .ok (.goto (-68), 3) := by decide +kernel
theorem dX0_leastKeyFrom_80 : decode cX0_leastKeyFrom 80 = .ok (.iconst (-1), 1) := by decide +kernel
theorem dX0_leastKeyFrom_81 : decode cX0_leastKeyFrom 81 = .ok (.ireturn, 1) := by decide +kernel
theorem dX0_keysBelow_0 : decode cX0_keysBelow 0 = .ok (.aload_n 0, 1) := by decide +kernel
theorem dX0_keysBelow_1 : decode cX0_keysBelow 1 = .ok (.iload_n 1, 1) := by decide +kernel
theorem dX0_keysBelow_2 : decode cX0_keysBelow 2 = .ok (.invokevirtual 59, 3) := by decide +kernel
theorem dX0_keysBelow_5 : decode cX0_keysBelow 5 = .ok (.istore_n 3, 1) := by decide +kernel
theorem dX0_keysBelow_6 : decode cX0_keysBelow 6 = .ok (.iconst 0, 1) := by decide +kernel
theorem dX0_keysBelow_7 : decode cX0_keysBelow 7 = .ok (.istore 4, 2) := by decide +kernel
theorem dX0_keysBelow_9 : decode cX0_keysBelow 9 = .ok (.iconst 0, 1) := by decide +kernel
theorem dX0_keysBelow_10 : decode cX0_keysBelow 10 = .ok (.istore 5, 2) := by decide +kernel
theorem dX0_keysBelow_12 : decode cX0_keysBelow 12 = .ok (.iload 5, 2) := by decide +kernel
theorem dX0_keysBelow_14 : decode cX0_keysBelow 14 = .ok (.sipush 800, 3) := by decide +kernel
theorem dX0_keysBelow_17 : decode cX0_keysBelow 17 = .ok (.if_icmp .ge 46, 3) := by decide +kernel
theorem dX0_keysBelow_20 : decode cX0_keysBelow 20 = .ok (.iload 5, 2) := by decide +kernel
theorem dX0_keysBelow_22 : decode cX0_keysBelow 22 = .ok (.iload_n 3, 1) := by decide +kernel
theorem dX0_keysBelow_23 : decode cX0_keysBelow 23 = .ok (.if_icmp .ge 40, 3) := by decide +kernel
theorem dX0_keysBelow_26 : decode cX0_keysBelow 26 = .ok (.aload_n 0, 1) := by decide +kernel
theorem dX0_keysBelow_27 : decode cX0_keysBelow 27 = .ok (.aload_n 0, 1) := by decide +kernel
theorem dX0_keysBelow_28 : decode cX0_keysBelow 28 = .ok (.getfield 34, 3) := by decide +kernel
theorem dX0_keysBelow_31 : decode cX0_keysBelow 31 = .ok (.iload 5, 2) := by decide +kernel
theorem dX0_keysBelow_33 : decode cX0_keysBelow 33 = .ok (.iaload, 1) := by decide +kernel
theorem dX0_keysBelow_34 : decode cX0_keysBelow 34 = .ok (.invokevirtual 41, 3) := by decide +kernel
theorem dX0_keysBelow_37 : decode cX0_keysBelow 37 = .ok (.ifCond .eq 20, 3) := by decide +kernel
theorem dX0_keysBelow_40 : decode cX0_keysBelow 40 = .ok (.iload 4, 2) := by decide +kernel
theorem dX0_keysBelow_42 : decode cX0_keysBelow 42 = .ok (.aload_n 0, 1) := by decide +kernel
theorem dX0_keysBelow_43 : decode cX0_keysBelow 43 = .ok (.aload_n 0, 1) := by decide +kernel
theorem dX0_keysBelow_44 : decode cX0_keysBelow 44 = .ok (.getfield 34, 3) := by decide +kernel
theorem dX0_keysBelow_47 : decode cX0_keysBelow 47 = .ok (.iload 5, 2) := by decide +kernel
theorem dX0_keysBelow_49 : decode cX0_keysBelow 49 = .ok (.iaload, 1) := by decide +kernel
theorem dX0_keysBelow_50 : decode cX0_keysBelow 50 = .ok (.iload_n 2, 1) := by decide +kernel
theorem dX0_keysBelow_51 : decode cX0_keysBelow 51 = .ok (.invokevirtual 62, 3) := by decide +kernel
theorem dX0_keysBelow_54 : decode cX0_keysBelow 54 = .ok (.iadd, 1) := by decide +kernel
theorem dX0_keysBelow_55 : decode cX0_keysBelow 55 = .ok (.istore 4, 2) := by decide +kernel
theorem dX0_keysBelow_57 : decode cX0_keysBelow 57 = .ok (.iinc 5 1, 3) := by decide +kernel
theorem dX0_keysBelow_60 : decode cX0_keysBelow 60 = .ok (.goto (-48), 3) := by decide +kernel
theorem dX0_keysBelow_63 : decode cX0_keysBelow 63 = .ok (.iload 4, 2) := by decide +kernel
theorem dX0_keysBelow_65 : decode cX0_keysBelow 65 = .ok (.ireturn, 1) := by decide +kernel
theorem dX0_take_0 : decode cX0_take 0 = .ok (.aload_n 0, 1) := by decide +kernel
theorem dX0_take_1 : decode cX0_take 1 = .ok (.invokevirtual 65, 3) := by decide +kernel
theorem dX0_take_4 : decode cX0_take 4 = .ok (.istore_n 2, 1) := by decide +kernel
theorem dX0_take_5 : decode cX0_take 5 = .ok (.iload_n 2, 1) := by decide +kernel
theorem dX0_take_6 : decode cX0_take 6 = .ok (.sipush 800, 3) := by decide +kernel
theorem dX0_take_9 : decode cX0_take 9 = .ok (.if_icmp .ge 32, 3) := by decide +kernel
theorem dX0_take_12 : decode cX0_take 12 = .ok (.aload_n 0, 1) := by decide +kernel
theorem dX0_take_13 : decode cX0_take 13 = .ok (.getfield 28, 3) := by decide +kernel
theorem dX0_take_16 : decode cX0_take 16 = .ok (.iload_n 2, 1) := by decide +kernel
theorem dX0_take_17 : decode cX0_take 17 = .ok (.iconst 1, 1) := by decide +kernel
theorem dX0_take_18 : decode cX0_take 18 = .ok (.bastore, 1) := by decide +kernel
theorem dX0_take_19 : decode cX0_take 19 = .ok (.aload_n 0, 1) := by decide +kernel
theorem dX0_take_20 : decode cX0_take 20 = .ok (.getfield 15, 3) := by decide +kernel
theorem dX0_take_23 : decode cX0_take 23 = .ok (.iload_n 2, 1) := by decide +kernel
theorem dX0_take_24 : decode cX0_take 24 = .ok (.iload_n 1, 1) := by decide +kernel
theorem dX0_take_25 : decode cX0_take 25 = .ok (.ifCond .ne 7, 3) := by decide +kernel
theorem dX0_take_28 : decode cX0_take 28 = .ok (.iconst 1, 1) := by decide +kernel
theorem dX0_take_29 : decode cX0_take 29 = .ok (.goto 4, 3) := by decide +kernel
theorem dX0_take_32 : decode cX0_take 32 = .ok (.iconst 0, 1) := by decide +kernel
theorem dX0_take_33 : decode cX0_take 33 = .ok (.bastore, 1) := by decide +kernel
theorem dX0_take_34 : decode cX0_take 34 = .ok (.aload_n 0, 1) := by decide +kernel
theorem dX0_take_35 : decode cX0_take 35 = .ok (.getfield 9, 3) := by decide +kernel
theorem dX0_take_38 : decode cX0_take 38 = .ok (.iload_n 2, 1) := by decide +kernel
theorem dX0_take_39 : decode cX0_take 39 = .ok (.iconst 0, 1) := by decide +kernel
theorem dX0_take_40 : decode cX0_take 40 = .ok (.iastore, 1) := by decide +kernel
theorem dX0_take_41 : decode cX0_take 41 = .ok (.iload_n 2, 1) := by decide +kernel
theorem dX0_take_42 : decode cX0_take 42 = .ok (.ireturn, 1) := by decide +kernel
theorem dX0_leave_0 : decode cX0_leave 0 = .ok (.iload_n 1, 1) := by decide +kernel
theorem dX0_leave_1 : decode cX0_leave 1 = .ok (.ifCond .lt 17, 3) := by decide +kernel
theorem dX0_leave_4 : decode cX0_leave 4 = .ok (.iload_n 1, 1) := by decide +kernel
theorem dX0_leave_5 : decode cX0_leave 5 = .ok (.sipush 800, 3) := by decide +kernel
theorem dX0_leave_8 : decode cX0_leave 8 = .ok (.if_icmp .ge 10, 3) := by decide +kernel
theorem dX0_leave_11 : decode cX0_leave 11 = .ok (.aload_n 0, 1) := by decide +kernel
theorem dX0_leave_12 : decode cX0_leave 12 = .ok (.getfield 28, 3) := by decide +kernel
theorem dX0_leave_15 : decode cX0_leave 15 = .ok (.iload_n 1, 1) := by decide +kernel
theorem dX0_leave_16 : decode cX0_leave 16 = .ok (.iconst 0, 1) := by decide +kernel
theorem dX0_leave_17 : decode cX0_leave 17 = .ok (.bastore, 1) := by decide +kernel
theorem dX0_leave_18 : decode cX0_leave 18 = .ok (.return_, 1) := by decide +kernel
theorem dX0_writeAnew_0 : decode cX0_writeAnew 0 = .ok (.iload_n 1, 1) := by decide +kernel
theorem dX0_writeAnew_1 : decode cX0_writeAnew 1 = .ok (.ifCond .lt 19, 3) := by decide +kernel
theorem dX0_writeAnew_4 : decode cX0_writeAnew 4 = .ok (.iload_n 1, 1) := by decide +kernel
theorem dX0_writeAnew_5 : decode cX0_writeAnew 5 = .ok (.sipush 800, 3) := by decide +kernel
theorem dX0_writeAnew_8 : decode cX0_writeAnew 8 = .ok (.if_icmp .ge 12, 3) := by decide +kernel
theorem dX0_writeAnew_11 : decode cX0_writeAnew 11 = .ok (.aload_n 0, 1) := by decide +kernel
theorem dX0_writeAnew_12 : decode cX0_writeAnew 12 = .ok (.getfield 28, 3) := by decide +kernel
theorem dX0_writeAnew_15 : decode cX0_writeAnew 15 = .ok (.iload_n 1, 1) := by decide +kernel
theorem dX0_writeAnew_16 : decode cX0_writeAnew 16 = .ok (.baload, 1) := by decide +kernel
theorem dX0_writeAnew_17 : decode cX0_writeAnew 17 = .ok (.ifCond .eq 5, 3) := by decide +kernel
theorem dX0_writeAnew_20 : decode cX0_writeAnew 20 = .ok (.iload_n 1, 1) := by decide +kernel
theorem dX0_writeAnew_21 : decode cX0_writeAnew 21 = .ok (.ireturn, 1) := by decide +kernel
theorem dX0_writeAnew_22 : decode cX0_writeAnew 22 = .ok (.aload_n 0, 1) := by decide +kernel
theorem dX0_writeAnew_23 : decode cX0_writeAnew 23 = .ok (.aload_n 0, 1) := by decide +kernel
theorem dX0_writeAnew_24 : decode cX0_writeAnew 24 = .ok (.iload_n 1, 1) := by decide +kernel
theorem dX0_writeAnew_25 : decode cX0_writeAnew 25 = .ok (.invokevirtual 41, 3) := by decide +kernel
theorem dX0_writeAnew_28 : decode cX0_writeAnew 28 = .ok (.invokevirtual 69, 3) := by decide +kernel
theorem dX0_writeAnew_31 : decode cX0_writeAnew 31 = .ok (.istore_n 2, 1) := by decide +kernel
theorem dX0_writeAnew_32 : decode cX0_writeAnew 32 = .ok (.aload_n 0, 1) := by decide +kernel
theorem dX0_writeAnew_33 : decode cX0_writeAnew 33 = .ok (.iload_n 1, 1) := by decide +kernel
theorem dX0_writeAnew_34 : decode cX0_writeAnew 34 = .ok (.iload_n 2, 1) := by decide +kernel
theorem dX0_writeAnew_35 : decode cX0_writeAnew 35 = .ok (.invokevirtual 73, 3) := by decide +kernel
theorem dX0_writeAnew_38 : decode cX0_writeAnew 38 = .ok (.iload_n 2, 1) := by decide +kernel
theorem dX0_writeAnew_39 : decode cX0_writeAnew 39 = .ok (.ireturn, 1) := by decide +kernel
theorem dX0_insert_0 : decode cX0_insert 0 = .ok (.aload_n 0, 1) := by decide +kernel
theorem dX0_insert_1 : decode cX0_insert 1 = .ok (.iload_n 1, 1) := by decide +kernel
theorem dX0_insert_2 : decode cX0_insert 2 = .ok (.invokevirtual 49, 3) := by decide +kernel
theorem dX0_insert_5 : decode cX0_insert 5 = .ok (.istore 5, 2) := by decide +kernel
theorem dX0_insert_7 : decode cX0_insert 7 = .ok (.iload_n 1, 1) := by decide +kernel
theorem dX0_insert_8 : decode cX0_insert 8 = .ok (.iload_n 2, 1) := by decide +kernel
theorem dX0_insert_9 : decode cX0_insert 9 = .ok (.invokestatic 37, 3) := by decide +kernel
theorem dX0_insert_12 : decode cX0_insert 12 = .ok (.ifCond .eq 15, 3) := by decide +kernel
theorem dX0_insert_15 : decode cX0_insert 15 = .ok (.iload_n 2, 1) := by decide +kernel
theorem dX0_insert_16 : decode cX0_insert 16 = .ok (.iload 5, 2) := by decide +kernel
theorem dX0_insert_18 : decode cX0_insert 18 = .ok (.if_icmp .gt 9, 3) := by decide +kernel
theorem dX0_insert_21 : decode cX0_insert 21 = .ok (.iload 5, 2) := by decide +kernel
theorem dX0_insert_23 : decode cX0_insert 23 = .ok (.iconst 5, 1) := by decide +kernel
theorem dX0_insert_24 : decode cX0_insert 24 = .ok (.if_icmp .lt 4, 3) := by decide +kernel
theorem dX0_insert_27 : decode cX0_insert 27 = .ok (.return_, 1) := by decide +kernel
theorem dX0_insert_28 : decode cX0_insert 28 = .ok (.iload_n 1, 1) := by decide +kernel
theorem dX0_insert_29 : decode cX0_insert 29 = .ok (.iconst 5, 1) := by decide +kernel
theorem dX0_insert_30 : decode cX0_insert 30 = .ok (.imul, 1) := by decide +kernel
theorem dX0_insert_31 : decode cX0_insert 31 = .ok (.istore 6, 2) := by decide +kernel
theorem dX0_insert_33 : decode cX0_insert 33 = .ok (.iload 5, 2) := by decide +kernel
theorem dX0_insert_35 : decode cX0_insert 35 = .ok (.istore 7, 2) := by decide +kernel
theorem dX0_insert_37 : decode cX0_insert 37 = .ok (.iload 7, 2) := by decide +kernel
theorem dX0_insert_39 : decode cX0_insert 39 = .ok (.iload_n 2, 1) := by decide +kernel
theorem dX0_insert_40 : decode cX0_insert 40 = .ok (.if_icmp .le 53, 3) := by decide +kernel
theorem dX0_insert_43 : decode cX0_insert 43 = .ok (.aload_n 0, 1) := by decide +kernel
theorem dX0_insert_44 : decode cX0_insert 44 = .ok (.getfield 19, 3) := by decide +kernel
theorem dX0_insert_47 : decode cX0_insert 47 = .ok (.iload 6, 2) := by decide +kernel
theorem dX0_insert_49 : decode cX0_insert 49 = .ok (.iload 7, 2) := by decide +kernel
theorem dX0_insert_51 : decode cX0_insert 51 = .ok (.iadd, 1) := by decide +kernel
theorem dX0_insert_52 : decode cX0_insert 52 = .ok (.aload_n 0, 1) := by decide +kernel
theorem dX0_insert_53 : decode cX0_insert 53 = .ok (.getfield 19, 3) := by decide +kernel
theorem dX0_insert_56 : decode cX0_insert 56 = .ok (.iload 6, 2) := by decide +kernel
theorem dX0_insert_58 : decode cX0_insert 58 = .ok (.iload 7, 2) := by decide +kernel
theorem dX0_insert_60 : decode cX0_insert 60 = .ok (.iadd, 1) := by decide +kernel
theorem dX0_insert_61 : decode cX0_insert 61 = .ok (.iconst 1, 1) := by decide +kernel
theorem dX0_insert_62 : decode cX0_insert 62 = .ok (.isub, 1) := by decide +kernel
theorem dX0_insert_63 : decode cX0_insert 63 = .ok (.iaload, 1) := by decide +kernel
theorem dX0_insert_64 : decode cX0_insert 64 = .ok (.iastore, 1) := by decide +kernel
theorem dX0_insert_65 : decode cX0_insert 65 = .ok (.aload_n 0, 1) := by decide +kernel
theorem dX0_insert_66 : decode cX0_insert 66 = .ok (.getfield 22, 3) := by decide +kernel
theorem dX0_insert_69 : decode cX0_insert 69 = .ok (.iload 6, 2) := by decide +kernel
theorem dX0_insert_71 : decode cX0_insert 71 = .ok (.iload 7, 2) := by decide +kernel
theorem dX0_insert_73 : decode cX0_insert 73 = .ok (.iadd, 1) := by decide +kernel
theorem dX0_insert_74 : decode cX0_insert 74 = .ok (.aload_n 0, 1) := by decide +kernel
theorem dX0_insert_75 : decode cX0_insert 75 = .ok (.getfield 22, 3) := by decide +kernel
theorem dX0_insert_78 : decode cX0_insert 78 = .ok (.iload 6, 2) := by decide +kernel
theorem dX0_insert_80 : decode cX0_insert 80 = .ok (.iload 7, 2) := by decide +kernel
theorem dX0_insert_82 : decode cX0_insert 82 = .ok (.iadd, 1) := by decide +kernel
theorem dX0_insert_83 : decode cX0_insert 83 = .ok (.iconst 1, 1) := by decide +kernel
theorem dX0_insert_84 : decode cX0_insert 84 = .ok (.isub, 1) := by decide +kernel
theorem dX0_insert_85 : decode cX0_insert 85 = .ok (.iaload, 1) := by decide +kernel
theorem dX0_insert_86 : decode cX0_insert 86 = .ok (.iastore, 1) := by decide +kernel
theorem dX0_insert_87 : decode cX0_insert 87 = .ok (.iinc 7 (-1), 3) := by decide +kernel
theorem dX0_insert_90 : decode cX0_insert 90 = .ok (.goto (-53), 3) := by decide +kernel
theorem dX0_insert_93 : decode cX0_insert 93 = .ok (.aload_n 0, 1) := by decide +kernel
theorem dX0_insert_94 : decode cX0_insert 94 = .ok (.getfield 19, 3) := by decide +kernel
theorem dX0_insert_97 : decode cX0_insert 97 = .ok (.iload 6, 2) := by decide +kernel
theorem dX0_insert_99 : decode cX0_insert 99 = .ok (.iload_n 2, 1) := by decide +kernel
theorem dX0_insert_100 : decode cX0_insert 100 = .ok (.iadd, 1) := by decide +kernel
theorem dX0_insert_101 : decode cX0_insert 101 = .ok (.iload_n 3, 1) := by decide +kernel
theorem dX0_insert_102 : decode cX0_insert 102 = .ok (.iastore, 1) := by decide +kernel
theorem dX0_insert_103 : decode cX0_insert 103 = .ok (.aload_n 0, 1) := by decide +kernel
theorem dX0_insert_104 : decode cX0_insert 104 = .ok (.getfield 22, 3) := by decide +kernel
theorem dX0_insert_107 : decode cX0_insert 107 = .ok (.iload 6, 2) := by decide +kernel
theorem dX0_insert_109 : decode cX0_insert 109 = .ok (.iload_n 2, 1) := by decide +kernel
theorem dX0_insert_110 : decode cX0_insert 110 = .ok (.iadd, 1) := by decide +kernel
theorem dX0_insert_111 : decode cX0_insert 111 = .ok (.iload 4, 2) := by decide +kernel
theorem dX0_insert_113 : decode cX0_insert 113 = .ok (.iastore, 1) := by decide +kernel
theorem dX0_insert_114 : decode cX0_insert 114 = .ok (.aload_n 0, 1) := by decide +kernel
theorem dX0_insert_115 : decode cX0_insert 115 = .ok (.getfield 9, 3) := by decide +kernel
theorem dX0_insert_118 : decode cX0_insert 118 = .ok (.iload_n 1, 1) := by decide +kernel
theorem dX0_insert_119 : decode cX0_insert 119 = .ok (.iload 5, 2) := by decide +kernel
theorem dX0_insert_121 : decode cX0_insert 121 = .ok (.iconst 1, 1) := by decide +kernel
theorem dX0_insert_122 : decode cX0_insert 122 = .ok (.iadd, 1) := by decide +kernel
theorem dX0_insert_123 : decode cX0_insert 123 = .ok (.iastore, 1) := by decide +kernel
theorem dX0_insert_124 : decode cX0_insert 124 = .ok (.return_, 1) := by decide +kernel
theorem dX0_remove_0 : decode cX0_remove 0 = .ok (.aload_n 0, 1) := by decide +kernel
theorem dX0_remove_1 : decode cX0_remove 1 = .ok (.iload_n 1, 1) := by decide +kernel
theorem dX0_remove_2 : decode cX0_remove 2 = .ok (.invokevirtual 49, 3) := by decide +kernel
theorem dX0_remove_5 : decode cX0_remove 5 = .ok (.istore_n 3, 1) := by decide +kernel
theorem dX0_remove_6 : decode cX0_remove 6 = .ok (.iload_n 1, 1) := by decide +kernel
theorem dX0_remove_7 : decode cX0_remove 7 = .ok (.iload_n 2, 1) := by decide +kernel
theorem dX0_remove_8 : decode cX0_remove 8 = .ok (.invokestatic 37, 3) := by decide +kernel
theorem dX0_remove_11 : decode cX0_remove 11 = .ok (.ifCond .eq 13, 3) := by decide +kernel
theorem dX0_remove_14 : decode cX0_remove 14 = .ok (.iload_n 2, 1) := by decide +kernel
theorem dX0_remove_15 : decode cX0_remove 15 = .ok (.iload_n 3, 1) := by decide +kernel
theorem dX0_remove_16 : decode cX0_remove 16 = .ok (.if_icmp .ge 8, 3) := by decide +kernel
theorem dX0_remove_19 : decode cX0_remove 19 = .ok (.iload_n 3, 1) := by decide +kernel
theorem dX0_remove_20 : decode cX0_remove 20 = .ok (.iconst 5, 1) := by decide +kernel
theorem dX0_remove_21 : decode cX0_remove 21 = .ok (.if_icmp .le 4, 3) := by decide +kernel
theorem dX0_remove_24 : decode cX0_remove 24 = .ok (.return_, 1) := by decide +kernel
theorem dX0_remove_25 : decode cX0_remove 25 = .ok (.iload_n 1, 1) := by decide +kernel
theorem dX0_remove_26 : decode cX0_remove 26 = .ok (.iconst 5, 1) := by decide +kernel
theorem dX0_remove_27 : decode cX0_remove 27 = .ok (.imul, 1) := by decide +kernel
theorem dX0_remove_28 : decode cX0_remove 28 = .ok (.istore 4, 2) := by decide +kernel
theorem dX0_remove_30 : decode cX0_remove 30 = .ok (.iload_n 2, 1) := by decide +kernel
theorem dX0_remove_31 : decode cX0_remove 31 = .ok (.istore 5, 2) := by decide +kernel
theorem dX0_remove_33 : decode cX0_remove 33 = .ok (.iload 5, 2) := by decide +kernel
theorem dX0_remove_35 : decode cX0_remove 35 = .ok (.iconst 1, 1) := by decide +kernel
theorem dX0_remove_36 : decode cX0_remove 36 = .ok (.iadd, 1) := by decide +kernel
theorem dX0_remove_37 : decode cX0_remove 37 = .ok (.iload_n 3, 1) := by decide +kernel
theorem dX0_remove_38 : decode cX0_remove 38 = .ok (.if_icmp .ge 53, 3) := by decide +kernel
theorem dX0_remove_41 : decode cX0_remove 41 = .ok (.aload_n 0, 1) := by decide +kernel
theorem dX0_remove_42 : decode cX0_remove 42 = .ok (.getfield 19, 3) := by decide +kernel
theorem dX0_remove_45 : decode cX0_remove 45 = .ok (.iload 4, 2) := by decide +kernel
theorem dX0_remove_47 : decode cX0_remove 47 = .ok (.iload 5, 2) := by decide +kernel
theorem dX0_remove_49 : decode cX0_remove 49 = .ok (.iadd, 1) := by decide +kernel
theorem dX0_remove_50 : decode cX0_remove 50 = .ok (.aload_n 0, 1) := by decide +kernel
theorem dX0_remove_51 : decode cX0_remove 51 = .ok (.getfield 19, 3) := by decide +kernel
theorem dX0_remove_54 : decode cX0_remove 54 = .ok (.iload 4, 2) := by decide +kernel
theorem dX0_remove_56 : decode cX0_remove 56 = .ok (.iload 5, 2) := by decide +kernel
theorem dX0_remove_58 : decode cX0_remove 58 = .ok (.iadd, 1) := by decide +kernel
theorem dX0_remove_59 : decode cX0_remove 59 = .ok (.iconst 1, 1) := by decide +kernel
theorem dX0_remove_60 : decode cX0_remove 60 = .ok (.iadd, 1) := by decide +kernel
theorem dX0_remove_61 : decode cX0_remove 61 = .ok (.iaload, 1) := by decide +kernel
theorem dX0_remove_62 : decode cX0_remove 62 = .ok (.iastore, 1) := by decide +kernel
theorem dX0_remove_63 : decode cX0_remove 63 = .ok (.aload_n 0, 1) := by decide +kernel
theorem dX0_remove_64 : decode cX0_remove 64 = .ok (.getfield 22, 3) := by decide +kernel
theorem dX0_remove_67 : decode cX0_remove 67 = .ok (.iload 4, 2) := by decide +kernel
theorem dX0_remove_69 : decode cX0_remove 69 = .ok (.iload 5, 2) := by decide +kernel
theorem dX0_remove_71 : decode cX0_remove 71 = .ok (.iadd, 1) := by decide +kernel
theorem dX0_remove_72 : decode cX0_remove 72 = .ok (.aload_n 0, 1) := by decide +kernel
theorem dX0_remove_73 : decode cX0_remove 73 = .ok (.getfield 22, 3) := by decide +kernel
theorem dX0_remove_76 : decode cX0_remove 76 = .ok (.iload 4, 2) := by decide +kernel
theorem dX0_remove_78 : decode cX0_remove 78 = .ok (.iload 5, 2) := by decide +kernel
theorem dX0_remove_80 : decode cX0_remove 80 = .ok (.iadd, 1) := by decide +kernel
theorem dX0_remove_81 : decode cX0_remove 81 = .ok (.iconst 1, 1) := by decide +kernel
theorem dX0_remove_82 : decode cX0_remove 82 = .ok (.iadd, 1) := by decide +kernel
theorem dX0_remove_83 : decode cX0_remove 83 = .ok (.iaload, 1) := by decide +kernel
theorem dX0_remove_84 : decode cX0_remove 84 = .ok (.iastore, 1) := by decide +kernel
theorem dX0_remove_85 : decode cX0_remove 85 = .ok (.iinc 5 1, 3) := by decide +kernel
theorem dX0_remove_88 : decode cX0_remove 88 = .ok (.goto (-55), 3) := by decide +kernel
theorem dX0_remove_91 : decode cX0_remove 91 = .ok (.aload_n 0, 1) := by decide +kernel
theorem dX0_remove_92 : decode cX0_remove 92 = .ok (.getfield 9, 3) := by decide +kernel
theorem dX0_remove_95 : decode cX0_remove 95 = .ok (.iload_n 1, 1) := by decide +kernel
theorem dX0_remove_96 : decode cX0_remove 96 = .ok (.iload_n 3, 1) := by decide +kernel
theorem dX0_remove_97 : decode cX0_remove 97 = .ok (.iconst 1, 1) := by decide +kernel
theorem dX0_remove_98 : decode cX0_remove 98 = .ok (.isub, 1) := by decide +kernel
theorem dX0_remove_99 : decode cX0_remove 99 = .ok (.iastore, 1) := by decide +kernel
theorem dX0_remove_100 : decode cX0_remove 100 = .ok (.return_, 1) := by decide +kernel
theorem dX0_append_0 : decode cX0_append 0 = .ok (.aload_n 0, 1) := by decide +kernel
theorem dX0_append_1 : decode cX0_append 1 = .ok (.iload_n 2, 1) := by decide +kernel
theorem dX0_append_2 : decode cX0_append 2 = .ok (.invokevirtual 49, 3) := by decide +kernel
theorem dX0_append_5 : decode cX0_append 5 = .ok (.istore_n 3, 1) := by decide +kernel
theorem dX0_append_6 : decode cX0_append 6 = .ok (.aload_n 0, 1) := by decide +kernel
theorem dX0_append_7 : decode cX0_append 7 = .ok (.iload_n 1, 1) := by decide +kernel
theorem dX0_append_8 : decode cX0_append 8 = .ok (.invokevirtual 49, 3) := by decide +kernel
theorem dX0_append_11 : decode cX0_append 11 = .ok (.istore 4, 2) := by decide +kernel
theorem dX0_append_13 : decode cX0_append 13 = .ok (.iload_n 1, 1) := by decide +kernel
theorem dX0_append_14 : decode cX0_append 14 = .ok (.iload 4, 2) := by decide +kernel
theorem dX0_append_16 : decode cX0_append 16 = .ok (.iconst 1, 1) := by decide +kernel
theorem dX0_append_17 : decode cX0_append 17 = .ok (.isub, 1) := by decide +kernel
theorem dX0_append_18 : decode cX0_append 18 = .ok (.invokestatic 37, 3) := by decide +kernel
theorem dX0_append_21 : decode cX0_append 21 = .ok (.ifCond .eq 16, 3) := by decide +kernel
theorem dX0_append_24 : decode cX0_append 24 = .ok (.iload_n 2, 1) := by decide +kernel
theorem dX0_append_25 : decode cX0_append 25 = .ok (.iload_n 3, 1) := by decide +kernel
theorem dX0_append_26 : decode cX0_append 26 = .ok (.iload 4, 2) := by decide +kernel
theorem dX0_append_28 : decode cX0_append 28 = .ok (.iadd, 1) := by decide +kernel
theorem dX0_append_29 : decode cX0_append 29 = .ok (.iconst 1, 1) := by decide +kernel
theorem dX0_append_30 : decode cX0_append 30 = .ok (.isub, 1) := by decide +kernel
theorem dX0_append_31 : decode cX0_append 31 = .ok (.invokestatic 37, 3) := by decide +kernel
theorem dX0_append_34 : decode cX0_append 34 = .ok (.ifCond .ne 4, 3) := by decide +kernel
theorem dX0_append_37 : decode cX0_append 37 = .ok (.return_, 1) := by decide +kernel
theorem dX0_append_38 : decode cX0_append 38 = .ok (.iconst 0, 1) := by decide +kernel
theorem dX0_append_39 : decode cX0_append 39 = .ok (.istore 5, 2) := by decide +kernel
theorem dX0_append_41 : decode cX0_append 41 = .ok (.iload 5, 2) := by decide +kernel
theorem dX0_append_43 : decode cX0_append 43 = .ok (.iload 4, 2) := by decide +kernel
theorem dX0_append_45 : decode cX0_append 45 = .ok (.if_icmp .ge 57, 3) := by decide +kernel
theorem dX0_append_48 : decode cX0_append 48 = .ok (.aload_n 0, 1) := by decide +kernel
theorem dX0_append_49 : decode cX0_append 49 = .ok (.getfield 19, 3) := by decide +kernel
theorem dX0_append_52 : decode cX0_append 52 = .ok (.iload_n 2, 1) := by decide +kernel
theorem dX0_append_53 : decode cX0_append 53 = .ok (.iconst 5, 1) := by decide +kernel
theorem dX0_append_54 : decode cX0_append 54 = .ok (.imul, 1) := by decide +kernel
theorem dX0_append_55 : decode cX0_append 55 = .ok (.iload_n 3, 1) := by decide +kernel
theorem dX0_append_56 : decode cX0_append 56 = .ok (.iadd, 1) := by decide +kernel
theorem dX0_append_57 : decode cX0_append 57 = .ok (.iload 5, 2) := by decide +kernel
theorem dX0_append_59 : decode cX0_append 59 = .ok (.iadd, 1) := by decide +kernel
theorem dX0_append_60 : decode cX0_append 60 = .ok (.aload_n 0, 1) := by decide +kernel
theorem dX0_append_61 : decode cX0_append 61 = .ok (.getfield 19, 3) := by decide +kernel
theorem dX0_append_64 : decode cX0_append 64 = .ok (.iload_n 1, 1) := by decide +kernel
theorem dX0_append_65 : decode cX0_append 65 = .ok (.iconst 5, 1) := by decide +kernel
theorem dX0_append_66 : decode cX0_append 66 = .ok (.imul, 1) := by decide +kernel
theorem dX0_append_67 : decode cX0_append 67 = .ok (.iload 5, 2) := by decide +kernel
theorem dX0_append_69 : decode cX0_append 69 = .ok (.iadd, 1) := by decide +kernel
theorem dX0_append_70 : decode cX0_append 70 = .ok (.iaload, 1) := by decide +kernel
theorem dX0_append_71 : decode cX0_append 71 = .ok (.iastore, 1) := by decide +kernel
theorem dX0_append_72 : decode cX0_append 72 = .ok (.aload_n 0, 1) := by decide +kernel
theorem dX0_append_73 : decode cX0_append 73 = .ok (.getfield 22, 3) := by decide +kernel
theorem dX0_append_76 : decode cX0_append 76 = .ok (.iload_n 2, 1) := by decide +kernel
theorem dX0_append_77 : decode cX0_append 77 = .ok (.iconst 5, 1) := by decide +kernel
theorem dX0_append_78 : decode cX0_append 78 = .ok (.imul, 1) := by decide +kernel
theorem dX0_append_79 : decode cX0_append 79 = .ok (.iload_n 3, 1) := by decide +kernel
theorem dX0_append_80 : decode cX0_append 80 = .ok (.iadd, 1) := by decide +kernel
theorem dX0_append_81 : decode cX0_append 81 = .ok (.iload 5, 2) := by decide +kernel
theorem dX0_append_83 : decode cX0_append 83 = .ok (.iadd, 1) := by decide +kernel
theorem dX0_append_84 : decode cX0_append 84 = .ok (.aload_n 0, 1) := by decide +kernel
theorem dX0_append_85 : decode cX0_append 85 = .ok (.getfield 22, 3) := by decide +kernel
theorem dX0_append_88 : decode cX0_append 88 = .ok (.iload_n 1, 1) := by decide +kernel
theorem dX0_append_89 : decode cX0_append 89 = .ok (.iconst 5, 1) := by decide +kernel
theorem dX0_append_90 : decode cX0_append 90 = .ok (.imul, 1) := by decide +kernel
theorem dX0_append_91 : decode cX0_append 91 = .ok (.iload 5, 2) := by decide +kernel
theorem dX0_append_93 : decode cX0_append 93 = .ok (.iadd, 1) := by decide +kernel
theorem dX0_append_94 : decode cX0_append 94 = .ok (.iaload, 1) := by decide +kernel
theorem dX0_append_95 : decode cX0_append 95 = .ok (.iastore, 1) := by decide +kernel
theorem dX0_append_96 : decode cX0_append 96 = .ok (.iinc 5 1, 3) := by decide +kernel
theorem dX0_append_99 : decode cX0_append 99 = .ok (.goto (-58), 3) := by decide +kernel
theorem dX0_append_102 : decode cX0_append 102 = .ok (.aload_n 0, 1) := by decide +kernel
theorem dX0_append_103 : decode cX0_append 103 = .ok (.getfield 9, 3) := by decide +kernel
theorem dX0_append_106 : decode cX0_append 106 = .ok (.iload_n 2, 1) := by decide +kernel
theorem dX0_append_107 : decode cX0_append 107 = .ok (.iload_n 3, 1) := by decide +kernel
theorem dX0_append_108 : decode cX0_append 108 = .ok (.iload 4, 2) := by decide +kernel
theorem dX0_append_110 : decode cX0_append 110 = .ok (.iadd, 1) := by decide +kernel
theorem dX0_append_111 : decode cX0_append 111 = .ok (.iastore, 1) := by decide +kernel
theorem dX0_append_112 : decode cX0_append 112 = .ok (.return_, 1) := by decide +kernel
theorem dX0_move_0 : decode cX0_move 0 = .ok (.aload_n 0, 1) := by decide +kernel
theorem dX0_move_1 : decode cX0_move 1 = .ok (.iload_n 3, 1) := by decide +kernel
theorem dX0_move_2 : decode cX0_move 2 = .ok (.iload 4, 2) := by decide +kernel
theorem dX0_move_4 : decode cX0_move 4 = .ok (.aload_n 0, 1) := by decide +kernel
theorem dX0_move_5 : decode cX0_move 5 = .ok (.iload_n 1, 1) := by decide +kernel
theorem dX0_move_6 : decode cX0_move 6 = .ok (.iload_n 2, 1) := by decide +kernel
theorem dX0_move_7 : decode cX0_move 7 = .ok (.invokevirtual 53, 3) := by decide +kernel
theorem dX0_move_10 : decode cX0_move 10 = .ok (.aload_n 0, 1) := by decide +kernel
theorem dX0_move_11 : decode cX0_move 11 = .ok (.iload_n 1, 1) := by decide +kernel
theorem dX0_move_12 : decode cX0_move 12 = .ok (.iload_n 2, 1) := by decide +kernel
theorem dX0_move_13 : decode cX0_move 13 = .ok (.invokevirtual 45, 3) := by decide +kernel
theorem dX0_move_16 : decode cX0_move 16 = .ok (.invokevirtual 77, 3) := by decide +kernel
theorem dX0_move_19 : decode cX0_move 19 = .ok (.aload_n 0, 1) := by decide +kernel
theorem dX0_move_20 : decode cX0_move 20 = .ok (.iload_n 1, 1) := by decide +kernel
theorem dX0_move_21 : decode cX0_move 21 = .ok (.iload_n 2, 1) := by decide +kernel
theorem dX0_move_22 : decode cX0_move 22 = .ok (.invokevirtual 81, 3) := by decide +kernel
theorem dX0_move_25 : decode cX0_move 25 = .ok (.return_, 1) := by decide +kernel
theorem dX1_init_0 : decode cX1_init 0 = .ok (.aload_n 0, 1) := by decide +kernel
theorem dX1_init_1 : decode cX1_init 1 = .ok (.invokespecial 1, 3) := by decide +kernel
theorem dX1_init_4 : decode cX1_init 4 = .ok (.return_, 1) := by decide +kernel
theorem dX1_become_0 : decode cX1_become 0 = .ok (.aload_n 0, 1) := by decide +kernel
theorem dX1_become_1 : decode cX1_become 1 = .ok (.aload_n 1, 1) := by decide +kernel
theorem dX1_become_2 : decode cX1_become 2 = .ok (.getfield 7, 3) := by decide +kernel
theorem dX1_become_5 : decode cX1_become 5 = .ok (.putfield 7, 3) := by decide +kernel
theorem dX1_become_8 : decode cX1_become 8 = .ok (.aload_n 0, 1) := by decide +kernel
theorem dX1_become_9 : decode cX1_become 9 = .ok (.aload_n 1, 1) := by decide +kernel
theorem dX1_become_10 : decode cX1_become 10 = .ok (.getfield 13, 3) := by decide +kernel
theorem dX1_become_13 : decode cX1_become 13 = .ok (.putfield 13, 3) := by decide +kernel
theorem dX1_become_16 : decode cX1_become 16 = .ok (.aload_n 0, 1) := by decide +kernel
theorem dX1_become_17 : decode cX1_become 17 = .ok (.aload_n 1, 1) := by decide +kernel
theorem dX1_become_18 : decode cX1_become 18 = .ok (.getfield 16, 3) := by decide +kernel
theorem dX1_become_21 : decode cX1_become 21 = .ok (.putfield 16, 3) := by decide +kernel
theorem dX1_become_24 : decode cX1_become 24 = .ok (.aload_n 0, 1) := by decide +kernel
theorem dX1_become_25 : decode cX1_become 25 = .ok (.iconst 1, 1) := by decide +kernel
theorem dX1_become_26 : decode cX1_become 26 = .ok (.putfield 19, 3) := by decide +kernel
theorem dX1_become_29 : decode cX1_become 29 = .ok (.return_, 1) := by decide +kernel
theorem dX2_init_0 : decode cX2_init 0 = .ok (.aload_n 0, 1) := by decide +kernel
theorem dX2_init_1 : decode cX2_init 1 = .ok (.invokespecial 3, 3) := by decide +kernel
theorem dX2_init_4 : decode cX2_init 4 = .ok (.aload_n 0, 1) := by decide +kernel
theorem dX2_init_5 : decode cX2_init 5 = .ok (.bipush 8, 2) := by decide +kernel
theorem dX2_init_7 : decode cX2_init 7 = .ok (.newarray .int, 2) := by decide +kernel
theorem dX2_init_9 : decode cX2_init 9 = .ok (.putfield 9, 3) := by decide +kernel
theorem dX2_init_12 : decode cX2_init 12 = .ok (.aload_n 0, 1) := by decide +kernel
theorem dX2_init_13 : decode cX2_init 13 = .ok (.bipush 8, 2) := by decide +kernel
theorem dX2_init_15 : decode cX2_init 15 = .ok (.newarray .int, 2) := by decide +kernel
theorem dX2_init_17 : decode cX2_init 17 = .ok (.putfield 15, 3) := by decide +kernel
theorem dX2_init_20 : decode cX2_init 20 = .ok (.aload_n 0, 1) := by decide +kernel
theorem dX2_init_21 : decode cX2_init 21 = .ok (.aload_n 1, 1) := by decide +kernel
theorem dX2_init_22 : decode cX2_init 22 = .ok (.putfield 18, 3) := by decide +kernel
theorem dX2_init_25 : decode cX2_init 25 = .ok (.aload_n 0, 1) := by decide +kernel
theorem dX2_init_26 : decode cX2_init 26 = .ok (.aload_n 2, 1) := by decide +kernel
theorem dX2_init_27 : decode cX2_init 27 = .ok (.putfield 22, 3) := by decide +kernel
theorem dX2_init_30 : decode cX2_init 30 = .ok (.return_, 1) := by decide +kernel
theorem dX2_store_0 : decode cX2_store 0 = .ok (.aload_n 0, 1) := by decide +kernel
theorem dX2_store_1 : decode cX2_store 1 = .ok (.iload_n 1, 1) := by decide +kernel
theorem dX2_store_2 : decode cX2_store 2 = .ok (.invokevirtual 26, 3) := by decide +kernel
theorem dX2_store_5 : decode cX2_store 5 = .ok (.istore_n 3, 1) := by decide +kernel
theorem dX2_store_6 : decode cX2_store 6 = .ok (.aload_n 0, 1) := by decide +kernel
theorem dX2_store_7 : decode cX2_store 7 = .ok (.getfield 18, 3) := by decide +kernel
theorem dX2_store_10 : decode cX2_store 10 = .ok (.iload_n 3, 1) := by decide +kernel
theorem dX2_store_11 : decode cX2_store 11 = .ok (.iload_n 1, 1) := by decide +kernel
theorem dX2_store_12 : decode cX2_store 12 = .ok (.invokevirtual 30, 3) := by decide +kernel
theorem dX2_store_15 : decode cX2_store 15 = .ok (.istore 4, 2) := by decide +kernel
theorem dX2_store_17 : decode cX2_store 17 = .ok (.aload_n 0, 1) := by decide +kernel
theorem dX2_store_18 : decode cX2_store 18 = .ok (.getfield 18, 3) := by decide +kernel
theorem dX2_store_21 : decode cX2_store 21 = .ok (.iload_n 3, 1) := by decide +kernel
theorem dX2_store_22 : decode cX2_store 22 = .ok (.iload 4, 2) := by decide +kernel
theorem dX2_store_24 : decode cX2_store 24 = .ok (.iload_n 1, 1) := by decide +kernel
theorem dX2_store_25 : decode cX2_store 25 = .ok (.invokevirtual 36, 3) := by decide +kernel
theorem dX2_store_28 : decode cX2_store 28 = .ok (.ifCond .eq 16, 3) := by decide +kernel
theorem dX2_store_31 : decode cX2_store 31 = .ok (.aload_n 0, 1) := by decide +kernel
theorem dX2_store_32 : decode cX2_store 32 = .ok (.getfield 18, 3) := by decide +kernel
theorem dX2_store_35 : decode cX2_store 35 = .ok (.iload_n 3, 1) := by decide +kernel
theorem dX2_store_36 : decode cX2_store 36 = .ok (.iload 4, 2) := by decide +kernel
theorem dX2_store_38 : decode cX2_store 38 = .ok (.iload_n 2, 1) := by decide +kernel
theorem dX2_store_39 : decode cX2_store 39 = .ok (.invokevirtual 40, 3) := by decide +kernel
theorem dX2_store_42 : decode cX2_store 42 = .ok (.iconst 0, 1) := by decide +kernel
theorem dX2_store_43 : decode cX2_store 43 = .ok (.ireturn, 1) := by decide +kernel
theorem dX2_store_44 : decode cX2_store 44 = .ok (.aload_n 0, 1) := by decide +kernel
theorem dX2_store_45 : decode cX2_store 45 = .ok (.getfield 18, 3) := by decide +kernel
theorem dX2_store_48 : decode cX2_store 48 = .ok (.iload_n 3, 1) := by decide +kernel
theorem dX2_store_49 : decode cX2_store 49 = .ok (.iload 4, 2) := by decide +kernel
theorem dX2_store_51 : decode cX2_store 51 = .ok (.iload_n 1, 1) := by decide +kernel
theorem dX2_store_52 : decode cX2_store 52 = .ok (.iload_n 2, 1) := by decide +kernel
theorem dX2_store_53 : decode cX2_store 53 = .ok (.invokevirtual 44, 3) := by decide +kernel
theorem dX2_store_56 : decode cX2_store 56 = .ok (.aload_n 0, 1) := by decide +kernel
theorem dX2_store_57 : decode cX2_store 57 = .ok (.getfield 22, 3) := by decide +kernel
theorem dX2_store_60 : decode cX2_store 60 = .ok (.dup, 1) := by decide +kernel
theorem dX2_store_61 : decode cX2_store 61 = .ok (.getfield 48, 3) := by decide +kernel
theorem dX2_store_64 : decode cX2_store 64 = .ok (.iconst 1, 1) := by decide +kernel
theorem dX2_store_65 : decode cX2_store 65 = .ok (.iadd, 1) := by decide +kernel
theorem dX2_store_66 : decode cX2_store 66 = .ok (.putfield 48, 3) := by decide +kernel
theorem dX2_store_69 : decode cX2_store 69 = .ok (.aload_n 0, 1) := by decide +kernel
theorem dX2_store_70 : decode cX2_store 70 = .ok (.invokevirtual 54, 3) := by decide +kernel
theorem dX2_store_73 : decode cX2_store 73 = .ok (.iconst 1, 1) := by decide +kernel
theorem dX2_store_74 : decode cX2_store 74 = .ok (.ireturn, 1) := by decide +kernel
theorem dX2_drop_0 : decode cX2_drop 0 = .ok (.aload_n 0, 1) := by decide +kernel
theorem dX2_drop_1 : decode cX2_drop 1 = .ok (.iload_n 1, 1) := by decide +kernel
theorem dX2_drop_2 : decode cX2_drop 2 = .ok (.invokevirtual 26, 3) := by decide +kernel
theorem dX2_drop_5 : decode cX2_drop 5 = .ok (.istore_n 2, 1) := by decide +kernel
theorem dX2_drop_6 : decode cX2_drop 6 = .ok (.aload_n 0, 1) := by decide +kernel
theorem dX2_drop_7 : decode cX2_drop 7 = .ok (.getfield 18, 3) := by decide +kernel
theorem dX2_drop_10 : decode cX2_drop 10 = .ok (.iload_n 2, 1) := by decide +kernel
theorem dX2_drop_11 : decode cX2_drop 11 = .ok (.aload_n 0, 1) := by decide +kernel
theorem dX2_drop_12 : decode cX2_drop 12 = .ok (.getfield 18, 3) := by decide +kernel
theorem dX2_drop_15 : decode cX2_drop 15 = .ok (.iload_n 2, 1) := by decide +kernel
theorem dX2_drop_16 : decode cX2_drop 16 = .ok (.iload_n 1, 1) := by decide +kernel
theorem dX2_drop_17 : decode cX2_drop 17 = .ok (.invokevirtual 30, 3) := by decide +kernel
theorem dX2_drop_20 : decode cX2_drop 20 = .ok (.invokevirtual 57, 3) := by decide +kernel
theorem dX2_drop_23 : decode cX2_drop 23 = .ok (.aload_n 0, 1) := by decide +kernel
theorem dX2_drop_24 : decode cX2_drop 24 = .ok (.getfield 22, 3) := by decide +kernel
theorem dX2_drop_27 : decode cX2_drop 27 = .ok (.dup, 1) := by decide +kernel
theorem dX2_drop_28 : decode cX2_drop 28 = .ok (.getfield 48, 3) := by decide +kernel
theorem dX2_drop_31 : decode cX2_drop 31 = .ok (.iconst 1, 1) := by decide +kernel
theorem dX2_drop_32 : decode cX2_drop 32 = .ok (.isub, 1) := by decide +kernel
theorem dX2_drop_33 : decode cX2_drop 33 = .ok (.putfield 48, 3) := by decide +kernel
theorem dX2_drop_36 : decode cX2_drop 36 = .ok (.aload_n 0, 1) := by decide +kernel
theorem dX2_drop_37 : decode cX2_drop 37 = .ok (.getfield 61, 3) := by decide +kernel
theorem dX2_drop_40 : decode cX2_drop 40 = .ok (.istore_n 3, 1) := by decide +kernel
theorem dX2_drop_41 : decode cX2_drop 41 = .ok (.iload_n 3, 1) := by decide +kernel
theorem dX2_drop_42 : decode cX2_drop 42 = .ok (.ifCond .le 52, 3) := by decide +kernel
theorem dX2_drop_45 : decode cX2_drop 45 = .ok (.iload_n 3, 1) := by decide +kernel
theorem dX2_drop_46 : decode cX2_drop 46 = .ok (.bipush 8, 2) := by decide +kernel
theorem dX2_drop_48 : decode cX2_drop 48 = .ok (.if_icmp .ge 46, 3) := by decide +kernel
theorem dX2_drop_51 : decode cX2_drop 51 = .ok (.aload_n 0, 1) := by decide +kernel
theorem dX2_drop_52 : decode cX2_drop 52 = .ok (.getfield 18, 3) := by decide +kernel
theorem dX2_drop_55 : decode cX2_drop 55 = .ok (.aload_n 0, 1) := by decide +kernel
theorem dX2_drop_56 : decode cX2_drop 56 = .ok (.getfield 9, 3) := by decide +kernel
theorem dX2_drop_59 : decode cX2_drop 59 = .ok (.iload_n 3, 1) := by decide +kernel
theorem dX2_drop_60 : decode cX2_drop 60 = .ok (.iaload, 1) := by decide +kernel
theorem dX2_drop_61 : decode cX2_drop 61 = .ok (.invokevirtual 64, 3) := by decide +kernel
theorem dX2_drop_64 : decode cX2_drop 64 = .ok (.iconst 2, 1) := by decide +kernel
theorem dX2_drop_65 : decode cX2_drop 65 = .ok (.if_icmp .ge 23, 3) := by decide +kernel
theorem dX2_drop_68 : decode cX2_drop 68 = .ok (.aload_n 0, 1) := by decide +kernel
theorem dX2_drop_69 : decode cX2_drop 69 = .ok (.aload_n 0, 1) := by decide +kernel
theorem dX2_drop_70 : decode cX2_drop 70 = .ok (.getfield 9, 3) := by decide +kernel
theorem dX2_drop_73 : decode cX2_drop 73 = .ok (.iload_n 3, 1) := by decide +kernel
theorem dX2_drop_74 : decode cX2_drop 74 = .ok (.iconst 1, 1) := by decide +kernel
theorem dX2_drop_75 : decode cX2_drop 75 = .ok (.isub, 1) := by decide +kernel
theorem dX2_drop_76 : decode cX2_drop 76 = .ok (.iaload, 1) := by decide +kernel
theorem dX2_drop_77 : decode cX2_drop 77 = .ok (.aload_n 0, 1) := by decide +kernel
theorem dX2_drop_78 : decode cX2_drop 78 = .ok (.getfield 15, 3) := by decide +kernel
theorem dX2_drop_81 : decode cX2_drop 81 = .ok (.iload_n 3, 1) := by decide +kernel
theorem dX2_drop_82 : decode cX2_drop 82 = .ok (.iconst 1, 1) := by decide +kernel
theorem dX2_drop_83 : decode cX2_drop 83 = .ok (.isub, 1) := by decide +kernel
theorem dX2_drop_84 : decode cX2_drop 84 = .ok (.iaload, 1) := by decide +kernel
theorem dX2_drop_85 : decode cX2_drop 85 = .ok (.invokevirtual 67, 3) := by decide +kernel
theorem dX2_drop_88 : decode cX2_drop 88 = .ok (.iinc 3 (-1), 3) := by decide +kernel
theorem dX2_drop_91 : decode cX2_drop 91 = .ok (.goto (-50), 3) := by decide +kernel
theorem dX2_drop_94 : decode cX2_drop 94 = .ok (.aload_n 0, 1) := by decide +kernel
theorem dX2_drop_95 : decode cX2_drop 95 = .ok (.invokevirtual 70, 3) := by decide +kernel
theorem dX2_drop_98 : decode cX2_drop 98 = .ok (.return_, 1) := by decide +kernel
theorem dX2_writePath_0 : decode cX2_writePath 0 = .ok (.aload_n 0, 1) := by decide +kernel
theorem dX2_writePath_1 : decode cX2_writePath 1 = .ok (.getfield 22, 3) := by decide +kernel
theorem dX2_writePath_4 : decode cX2_writePath 4 = .ok (.aload_n 0, 1) := by decide +kernel
theorem dX2_writePath_5 : decode cX2_writePath 5 = .ok (.getfield 18, 3) := by decide +kernel
theorem dX2_writePath_8 : decode cX2_writePath 8 = .ok (.aload_n 0, 1) := by decide +kernel
theorem dX2_writePath_9 : decode cX2_writePath 9 = .ok (.getfield 22, 3) := by decide +kernel
theorem dX2_writePath_12 : decode cX2_writePath 12 = .ok (.getfield 73, 3) := by decide +kernel
theorem dX2_writePath_15 : decode cX2_writePath 15 = .ok (.invokevirtual 76, 3) := by decide +kernel
theorem dX2_writePath_18 : decode cX2_writePath 18 = .ok (.putfield 73, 3) := by decide +kernel
theorem dX2_writePath_21 : decode cX2_writePath 21 = .ok (.aload_n 0, 1) := by decide +kernel
theorem dX2_writePath_22 : decode cX2_writePath 22 = .ok (.getfield 22, 3) := by decide +kernel
theorem dX2_writePath_25 : decode cX2_writePath 25 = .ok (.getfield 73, 3) := by decide +kernel
theorem dX2_writePath_28 : decode cX2_writePath 28 = .ok (.istore_n 2, 1) := by decide +kernel
theorem dX2_writePath_29 : decode cX2_writePath 29 = .ok (.iconst 0, 1) := by decide +kernel
theorem dX2_writePath_30 : decode cX2_writePath 30 = .ok (.istore_n 3, 1) := by decide +kernel
theorem dX2_writePath_31 : decode cX2_writePath 31 = .ok (.aload_n 0, 1) := by decide +kernel
theorem dX2_writePath_32 : decode cX2_writePath 32 = .ok (.getfield 9, 3) := by decide +kernel
theorem dX2_writePath_35 : decode cX2_writePath 35 = .ok (.iconst 0, 1) := by decide +kernel
theorem dX2_writePath_36 : decode cX2_writePath 36 = .ok (.iload_n 2, 1) := by decide +kernel
theorem dX2_writePath_37 : decode cX2_writePath 37 = .ok (.iastore, 1) := by decide +kernel
theorem dX2_writePath_38 : decode cX2_writePath 38 = .ok (.iload_n 3, 1) := by decide +kernel
theorem dX2_writePath_39 : decode cX2_writePath 39 = .ok (.iconst 1, 1) := by decide +kernel
theorem dX2_writePath_40 : decode cX2_writePath 40 = .ok (.iadd, 1) := by decide +kernel
theorem dX2_writePath_41 : decode cX2_writePath 41 = .ok (.bipush 8, 2) := by decide +kernel
theorem dX2_writePath_43 : decode cX2_writePath 43 = .ok (.if_icmp .ge 64, 3) := by decide +kernel
theorem dX2_writePath_46 : decode cX2_writePath 46 = .ok (.aload_n 0, 1) := by decide +kernel
theorem dX2_writePath_47 : decode cX2_writePath 47 = .ok (.getfield 18, 3) := by decide +kernel
theorem dX2_writePath_50 : decode cX2_writePath 50 = .ok (.iload_n 2, 1) := by decide +kernel
theorem dX2_writePath_51 : decode cX2_writePath 51 = .ok (.invokevirtual 79, 3) := by decide +kernel
theorem dX2_writePath_54 : decode cX2_writePath 54 = .ok (.ifCond .ne 53, 3) := by decide +kernel
theorem dX2_writePath_57 : decode cX2_writePath 57 = .ok (.aload_n 0, 1) := by decide +kernel
theorem dX2_writePath_58 : decode cX2_writePath 58 = .ok (.getfield 18, 3) := by decide +kernel
theorem dX2_writePath_61 : decode cX2_writePath 61 = .ok (.iload_n 2, 1) := by decide +kernel
theorem dX2_writePath_62 : decode cX2_writePath 62 = .ok (.iload_n 1, 1) := by decide +kernel
theorem dX2_writePath_63 : decode cX2_writePath 63 = .ok (.invokevirtual 83, 3) := by decide +kernel
theorem dX2_writePath_66 : decode cX2_writePath 66 = .ok (.istore 4, 2) := by decide +kernel
theorem dX2_writePath_68 : decode cX2_writePath 68 = .ok (.aload_n 0, 1) := by decide +kernel
theorem dX2_writePath_69 : decode cX2_writePath 69 = .ok (.iload_n 2, 1) := by decide +kernel
theorem dX2_writePath_70 : decode cX2_writePath 70 = .ok (.iload 4, 2) := by decide +kernel
theorem dX2_writePath_72 : decode cX2_writePath 72 = .ok (.invokevirtual 86, 3) := by decide +kernel
theorem dX2_writePath_75 : decode cX2_writePath 75 = .ok (.aload_n 0, 1) := by decide +kernel
theorem dX2_writePath_76 : decode cX2_writePath 76 = .ok (.getfield 18, 3) := by decide +kernel
theorem dX2_writePath_79 : decode cX2_writePath 79 = .ok (.iload_n 2, 1) := by decide +kernel
theorem dX2_writePath_80 : decode cX2_writePath 80 = .ok (.iload 4, 2) := by decide +kernel
theorem dX2_writePath_82 : decode cX2_writePath 82 = .ok (.invokevirtual 89, 3) := by decide +kernel
theorem dX2_writePath_85 : decode cX2_writePath 85 = .ok (.istore_n 2, 1) := by decide +kernel
theorem dX2_writePath_86 : decode cX2_writePath 86 = .ok (.aload_n 0, 1) := by decide +kernel
theorem dX2_writePath_87 : decode cX2_writePath 87 = .ok (.getfield 15, 3) := by decide +kernel
theorem dX2_writePath_90 : decode cX2_writePath 90 = .ok (.iload_n 3, 1) := by decide +kernel
theorem dX2_writePath_91 : decode cX2_writePath 91 = .ok (.iload 4, 2) := by decide +kernel
theorem dX2_writePath_93 : decode cX2_writePath 93 = .ok (.iastore, 1) := by decide +kernel
theorem dX2_writePath_94 : decode cX2_writePath 94 = .ok (.iinc 3 1, 3) := by decide +kernel
theorem dX2_writePath_97 : decode cX2_writePath 97 = .ok (.aload_n 0, 1) := by decide +kernel
theorem dX2_writePath_98 : decode cX2_writePath 98 = .ok (.getfield 9, 3) := by decide +kernel
theorem dX2_writePath_101 : decode cX2_writePath 101 = .ok (.iload_n 3, 1) := by decide +kernel
theorem dX2_writePath_102 : decode cX2_writePath 102 = .ok (.iload_n 2, 1) := by decide +kernel
theorem dX2_writePath_103 : decode cX2_writePath 103 = .ok (.iastore, 1) := by decide +kernel
theorem dX2_writePath_104 : decode cX2_writePath 104 = .ok (.goto (-66), 3) := by decide +kernel
theorem dX2_writePath_107 : decode cX2_writePath 107 = .ok (.aload_n 0, 1) := by decide +kernel
theorem dX2_writePath_108 : decode cX2_writePath 108 = .ok (.iload_n 3, 1) := by decide +kernel
theorem dX2_writePath_109 : decode cX2_writePath 109 = .ok (.putfield 61, 3) := by decide +kernel
theorem dX2_writePath_112 : decode cX2_writePath 112 = .ok (.iload_n 2, 1) := by decide +kernel
theorem dX2_writePath_113 : decode cX2_writePath 113 = .ok (.ireturn, 1) := by decide +kernel
theorem dX2_splitUpwards_0 : decode cX2_splitUpwards 0 = .ok (.aload_n 0, 1) := by decide +kernel
theorem dX2_splitUpwards_1 : decode cX2_splitUpwards 1 = .ok (.getfield 61, 3) := by decide +kernel
theorem dX2_splitUpwards_4 : decode cX2_splitUpwards 4 = .ok (.istore_n 1, 1) := by decide +kernel
theorem dX2_splitUpwards_5 : decode cX2_splitUpwards 5 = .ok (.iload_n 1, 1) := by decide +kernel
theorem dX2_splitUpwards_6 : decode cX2_splitUpwards 6 = .ok (.ifCond .lt 81, 3) := by decide +kernel
theorem dX2_splitUpwards_9 : decode cX2_splitUpwards 9 = .ok (.iload_n 1, 1) := by decide +kernel
theorem dX2_splitUpwards_10 : decode cX2_splitUpwards 10 = .ok (.bipush 8, 2) := by decide +kernel
theorem dX2_splitUpwards_12 : decode cX2_splitUpwards 12 = .ok (.if_icmp .ge 75, 3) := by decide +kernel
theorem dX2_splitUpwards_15 : decode cX2_splitUpwards 15 = .ok (.aload_n 0, 1) := by decide +kernel
theorem dX2_splitUpwards_16 : decode cX2_splitUpwards 16 = .ok (.getfield 9, 3) := by decide +kernel
theorem dX2_splitUpwards_19 : decode cX2_splitUpwards 19 = .ok (.iload_n 1, 1) := by decide +kernel
theorem dX2_splitUpwards_20 : decode cX2_splitUpwards 20 = .ok (.iaload, 1) := by decide +kernel
theorem dX2_splitUpwards_21 : decode cX2_splitUpwards 21 = .ok (.istore_n 2, 1) := by decide +kernel
theorem dX2_splitUpwards_22 : decode cX2_splitUpwards 22 = .ok (.aload_n 0, 1) := by decide +kernel
theorem dX2_splitUpwards_23 : decode cX2_splitUpwards 23 = .ok (.getfield 18, 3) := by decide +kernel
theorem dX2_splitUpwards_26 : decode cX2_splitUpwards 26 = .ok (.iload_n 2, 1) := by decide +kernel
theorem dX2_splitUpwards_27 : decode cX2_splitUpwards 27 = .ok (.invokevirtual 64, 3) := by decide +kernel
theorem dX2_splitUpwards_30 : decode cX2_splitUpwards 30 = .ok (.iconst 4, 1) := by decide +kernel
theorem dX2_splitUpwards_31 : decode cX2_splitUpwards 31 = .ok (.if_icmp .gt 4, 3) := by decide +kernel
theorem dX2_splitUpwards_34 : decode cX2_splitUpwards 34 = .ok (.return_, 1) := by decide +kernel
theorem dX2_splitUpwards_35 : decode cX2_splitUpwards 35 = .ok (.aload_n 0, 1) := by decide +kernel
theorem dX2_splitUpwards_36 : decode cX2_splitUpwards 36 = .ok (.iload_n 2, 1) := by decide +kernel
theorem dX2_splitUpwards_37 : decode cX2_splitUpwards 37 = .ok (.invokevirtual 92, 3) := by decide +kernel
theorem dX2_splitUpwards_40 : decode cX2_splitUpwards 40 = .ok (.istore_n 3, 1) := by decide +kernel
theorem dX2_splitUpwards_41 : decode cX2_splitUpwards 41 = .ok (.iload_n 1, 1) := by decide +kernel
theorem dX2_splitUpwards_42 : decode cX2_splitUpwards 42 = .ok (.ifCond .le 33, 3) := by decide +kernel
theorem dX2_splitUpwards_45 : decode cX2_splitUpwards 45 = .ok (.aload_n 0, 1) := by decide +kernel
theorem dX2_splitUpwards_46 : decode cX2_splitUpwards 46 = .ok (.getfield 18, 3) := by decide +kernel
theorem dX2_splitUpwards_49 : decode cX2_splitUpwards 49 = .ok (.aload_n 0, 1) := by decide +kernel
theorem dX2_splitUpwards_50 : decode cX2_splitUpwards 50 = .ok (.getfield 9, 3) := by decide +kernel
theorem dX2_splitUpwards_53 : decode cX2_splitUpwards 53 = .ok (.iload_n 1, 1) := by decide +kernel
theorem dX2_splitUpwards_54 : decode cX2_splitUpwards 54 = .ok (.iconst 1, 1) := by decide +kernel
theorem dX2_splitUpwards_55 : decode cX2_splitUpwards 55 = .ok (.isub, 1) := by decide +kernel
theorem dX2_splitUpwards_56 : decode cX2_splitUpwards 56 = .ok (.iaload, 1) := by decide +kernel
theorem dX2_splitUpwards_57 : decode cX2_splitUpwards 57 = .ok (.aload_n 0, 1) := by decide +kernel
theorem dX2_splitUpwards_58 : decode cX2_splitUpwards 58 = .ok (.getfield 15, 3) := by decide +kernel
theorem dX2_splitUpwards_61 : decode cX2_splitUpwards 61 = .ok (.iload_n 1, 1) := by decide +kernel
theorem dX2_splitUpwards_62 : decode cX2_splitUpwards 62 = .ok (.iconst 1, 1) := by decide +kernel
theorem dX2_splitUpwards_63 : decode cX2_splitUpwards 63 = .ok (.isub, 1) := by decide +kernel
theorem dX2_splitUpwards_64 : decode cX2_splitUpwards 64 = .ok (.iaload, 1) := by decide +kernel
theorem dX2_splitUpwards_65 : decode cX2_splitUpwards 65 = .ok (.iconst 1, 1) := by decide +kernel
theorem dX2_splitUpwards_66 : decode cX2_splitUpwards 66 = .ok (.iadd, 1) := by decide +kernel
theorem dX2_splitUpwards_67 : decode cX2_splitUpwards 67 = .ok (.iconst (-1), 1) := by decide +kernel
theorem dX2_splitUpwards_68 : decode cX2_splitUpwards 68 = .ok (.iload_n 3, 1) := by decide +kernel
theorem dX2_splitUpwards_69 : decode cX2_splitUpwards 69 = .ok (.invokevirtual 44, 3) := by decide +kernel
theorem dX2_splitUpwards_72 : decode cX2_splitUpwards 72 = .ok (.goto 9, 3) := by decide +kernel
theorem dX2_splitUpwards_75 : decode cX2_splitUpwards 75 = .ok (.aload_n 0, 1) := by decide +kernel
theorem dX2_splitUpwards_76 : decode cX2_splitUpwards 76 = .ok (.iload_n 2, 1) := by decide +kernel
theorem dX2_splitUpwards_77 : decode cX2_splitUpwards 77 = .ok (.iload_n 3, 1) := by decide +kernel
theorem dX2_splitUpwards_78 : decode cX2_splitUpwards 78 = .ok (.invokevirtual 95, 3) := by decide +kernel
theorem dX2_splitUpwards_81 : decode cX2_splitUpwards 81 = .ok (.iinc 1 (-1), 3) := by decide +kernel
theorem dX2_splitUpwards_84 : decode cX2_splitUpwards 84 = .ok (.goto (-79), 3) := by decide +kernel
theorem dX2_splitUpwards_87 : decode cX2_splitUpwards 87 = .ok (.return_, 1) := by decide +kernel
theorem dX2_splitOff_0 : decode cX2_splitOff 0 = .ok (.aload_n 0, 1) := by decide +kernel
theorem dX2_splitOff_1 : decode cX2_splitOff 1 = .ok (.getfield 18, 3) := by decide +kernel
theorem dX2_splitOff_4 : decode cX2_splitOff 4 = .ok (.aload_n 0, 1) := by decide +kernel
theorem dX2_splitOff_5 : decode cX2_splitOff 5 = .ok (.getfield 18, 3) := by decide +kernel
theorem dX2_splitOff_8 : decode cX2_splitOff 8 = .ok (.iload_n 1, 1) := by decide +kernel
theorem dX2_splitOff_9 : decode cX2_splitOff 9 = .ok (.invokevirtual 79, 3) := by decide +kernel
theorem dX2_splitOff_12 : decode cX2_splitOff 12 = .ok (.invokevirtual 98, 3) := by decide +kernel
theorem dX2_splitOff_15 : decode cX2_splitOff 15 = .ok (.istore_n 2, 1) := by decide +kernel
theorem dX2_splitOff_16 : decode cX2_splitOff 16 = .ok (.iconst 0, 1) := by decide +kernel
theorem dX2_splitOff_17 : decode cX2_splitOff 17 = .ok (.istore_n 3, 1) := by decide +kernel
theorem dX2_splitOff_18 : decode cX2_splitOff 18 = .ok (.iload_n 3, 1) := by decide +kernel
theorem dX2_splitOff_19 : decode cX2_splitOff 19 = .ok (.iconst 2, 1) := by decide +kernel
theorem dX2_splitOff_20 : decode cX2_splitOff 20 = .ok (.if_icmp .ge 20, 3) := by decide +kernel
theorem dX2_splitOff_23 : decode cX2_splitOff 23 = .ok (.aload_n 0, 1) := by decide +kernel
theorem dX2_splitOff_24 : decode cX2_splitOff 24 = .ok (.getfield 18, 3) := by decide +kernel
theorem dX2_splitOff_27 : decode cX2_splitOff 27 = .ok (.iload_n 1, 1) := by decide +kernel
theorem dX2_splitOff_28 : decode cX2_splitOff 28 = .ok (.iconst 3, 1) := by decide +kernel
theorem dX2_splitOff_29 : decode cX2_splitOff 29 = .ok (.iload_n 2, 1) := by decide +kernel
theorem dX2_splitOff_30 : decode cX2_splitOff 30 = .ok (.iload_n 3, 1) := by decide +kernel
theorem dX2_splitOff_31 : decode cX2_splitOff 31 = .ok (.invokevirtual 102, 3) := by decide +kernel
theorem dX2_splitOff_34 : decode cX2_splitOff 34 = .ok (.iinc 3 1, 3) := by decide +kernel
theorem dX2_splitOff_37 : decode cX2_splitOff 37 = .ok (.goto (-19), 3) := by decide +kernel
theorem dX2_splitOff_40 : decode cX2_splitOff 40 = .ok (.iload_n 2, 1) := by decide +kernel
theorem dX2_splitOff_41 : decode cX2_splitOff 41 = .ok (.ireturn, 1) := by decide +kernel
theorem dX2_growRoot_0 : decode cX2_growRoot 0 = .ok (.aload_n 0, 1) := by decide +kernel
theorem dX2_growRoot_1 : decode cX2_growRoot 1 = .ok (.getfield 18, 3) := by decide +kernel
theorem dX2_growRoot_4 : decode cX2_growRoot 4 = .ok (.iconst 0, 1) := by decide +kernel
theorem dX2_growRoot_5 : decode cX2_growRoot 5 = .ok (.invokevirtual 98, 3) := by decide +kernel
theorem dX2_growRoot_8 : decode cX2_growRoot 8 = .ok (.istore_n 3, 1) := by decide +kernel
theorem dX2_growRoot_9 : decode cX2_growRoot 9 = .ok (.aload_n 0, 1) := by decide +kernel
theorem dX2_growRoot_10 : decode cX2_growRoot 10 = .ok (.getfield 18, 3) := by decide +kernel
theorem dX2_growRoot_13 : decode cX2_growRoot 13 = .ok (.iload_n 3, 1) := by decide +kernel
theorem dX2_growRoot_14 : decode cX2_growRoot 14 = .ok (.iconst 0, 1) := by decide +kernel
theorem dX2_growRoot_15 : decode cX2_growRoot 15 = .ok (.iconst (-1), 1) := by decide +kernel
theorem dX2_growRoot_16 : decode cX2_growRoot 16 = .ok (.iload_n 1, 1) := by decide +kernel
theorem dX2_growRoot_17 : decode cX2_growRoot 17 = .ok (.invokevirtual 44, 3) := by decide +kernel
theorem dX2_growRoot_20 : decode cX2_growRoot 20 = .ok (.aload_n 0, 1) := by decide +kernel
theorem dX2_growRoot_21 : decode cX2_growRoot 21 = .ok (.getfield 18, 3) := by decide +kernel
theorem dX2_growRoot_24 : decode cX2_growRoot 24 = .ok (.iload_n 3, 1) := by decide +kernel
theorem dX2_growRoot_25 : decode cX2_growRoot 25 = .ok (.iconst 1, 1) := by decide +kernel
theorem dX2_growRoot_26 : decode cX2_growRoot 26 = .ok (.iconst (-1), 1) := by decide +kernel
theorem dX2_growRoot_27 : decode cX2_growRoot 27 = .ok (.iload_n 2, 1) := by decide +kernel
theorem dX2_growRoot_28 : decode cX2_growRoot 28 = .ok (.invokevirtual 44, 3) := by decide +kernel
theorem dX2_growRoot_31 : decode cX2_growRoot 31 = .ok (.aload_n 0, 1) := by decide +kernel
theorem dX2_growRoot_32 : decode cX2_growRoot 32 = .ok (.getfield 22, 3) := by decide +kernel
theorem dX2_growRoot_35 : decode cX2_growRoot 35 = .ok (.iload_n 3, 1) := by decide +kernel
theorem dX2_growRoot_36 : decode cX2_growRoot 36 = .ok (.putfield 73, 3) := by decide +kernel
theorem dX2_growRoot_39 : decode cX2_growRoot 39 = .ok (.return_, 1) := by decide +kernel
theorem dX2_mend_0 : decode cX2_mend 0 = .ok (.iload_n 2, 1) := by decide +kernel
theorem dX2_mend_1 : decode cX2_mend 1 = .ok (.ifCond .le 9, 3) := by decide +kernel
theorem dX2_mend_4 : decode cX2_mend 4 = .ok (.iload_n 2, 1) := by decide +kernel
theorem dX2_mend_5 : decode cX2_mend 5 = .ok (.iconst 1, 1) := by decide +kernel
theorem dX2_mend_6 : decode cX2_mend 6 = .ok (.isub, 1) := by decide +kernel
theorem dX2_mend_7 : decode cX2_mend 7 = .ok (.goto 6, 3) := by decide +kernel
theorem dX2_mend_10 : decode cX2_mend 10 = .ok (.iload_n 2, 1) := by decide +kernel
theorem dX2_mend_11 : decode cX2_mend 11 = .ok (.iconst 1, 1) := by decide +kernel
theorem dX2_mend_12 : decode cX2_mend 12 = .ok (.iadd, 1) := by decide +kernel
theorem dX2_mend_13 : decode cX2_mend 13 = .ok (.istore_n 3, 1) := by decide +kernel
theorem dX2_mend_14 : decode cX2_mend 14 = .ok (.iload_n 2, 1) := by decide +kernel
theorem dX2_mend_15 : decode cX2_mend 15 = .ok (.ifCond .le 7, 3) := by decide +kernel
theorem dX2_mend_18 : decode cX2_mend 18 = .ok (.iload_n 3, 1) := by decide +kernel
theorem dX2_mend_19 : decode cX2_mend 19 = .ok (.goto 4, 3) := by decide +kernel
theorem dX2_mend_22 : decode cX2_mend 22 = .ok (.iload_n 2, 1) := by decide +kernel
theorem dX2_mend_23 : decode cX2_mend 23 = .ok (.istore 4, 2) := by decide +kernel
theorem dX2_mend_25 : decode cX2_mend 25 = .ok (.aload_n 0, 1) := by decide +kernel
theorem dX2_mend_26 : decode cX2_mend 26 = .ok (.getfield 18, 3) := by decide +kernel
theorem dX2_mend_29 : decode cX2_mend 29 = .ok (.aload_n 0, 1) := by decide +kernel
theorem dX2_mend_30 : decode cX2_mend 30 = .ok (.getfield 18, 3) := by decide +kernel
theorem dX2_mend_33 : decode cX2_mend 33 = .ok (.iload_n 1, 1) := by decide +kernel
theorem dX2_mend_34 : decode cX2_mend 34 = .ok (.iload_n 3, 1) := by decide +kernel
theorem dX2_mend_35 : decode cX2_mend 35 = .ok (.invokevirtual 89, 3) := by decide +kernel
theorem dX2_mend_38 : decode cX2_mend 38 = .ok (.invokevirtual 64, 3) := by decide +kernel
theorem dX2_mend_41 : decode cX2_mend 41 = .ok (.iconst 2, 1) := by decide +kernel
theorem dX2_mend_42 : decode cX2_mend 42 = .ok (.if_icmp .le 19, 3) := by decide +kernel
theorem dX2_mend_45 : decode cX2_mend 45 = .ok (.aload_n 0, 1) := by decide +kernel
theorem dX2_mend_46 : decode cX2_mend 46 = .ok (.iload_n 1, 1) := by decide +kernel
theorem dX2_mend_47 : decode cX2_mend 47 = .ok (.iload_n 3, 1) := by decide +kernel
theorem dX2_mend_48 : decode cX2_mend 48 = .ok (.invokevirtual 86, 3) := by decide +kernel
theorem dX2_mend_51 : decode cX2_mend 51 = .ok (.aload_n 0, 1) := by decide +kernel
theorem dX2_mend_52 : decode cX2_mend 52 = .ok (.iload_n 1, 1) := by decide +kernel
theorem dX2_mend_53 : decode cX2_mend 53 = .ok (.iload_n 3, 1) := by decide +kernel
theorem dX2_mend_54 : decode cX2_mend 54 = .ok (.iload_n 2, 1) := by decide +kernel
theorem dX2_mend_55 : decode cX2_mend 55 = .ok (.invokevirtual 105, 3) := by decide +kernel
theorem dX2_mend_58 : decode cX2_mend 58 = .ok (.goto 17, 3) := by decide +kernel
theorem dX2_mend_61 : decode cX2_mend 61 = .ok (.aload_n 0, 1) := by decide +kernel
theorem dX2_mend_62 : decode cX2_mend 62 = .ok (.iload_n 1, 1) := by decide +kernel
theorem dX2_mend_63 : decode cX2_mend 63 = .ok (.iload 4, 2) := by decide +kernel
theorem dX2_mend_65 : decode cX2_mend 65 = .ok (.invokevirtual 86, 3) := by decide +kernel
theorem dX2_mend_68 : decode cX2_mend 68 = .ok (.aload_n 0, 1) := by decide +kernel
theorem dX2_mend_69 : decode cX2_mend 69 = .ok (.iload_n 1, 1) := by decide +kernel
theorem dX2_mend_70 : decode cX2_mend 70 = .ok (.iload 4, 2) := by decide +kernel
theorem dX2_mend_72 : decode cX2_mend 72 = .ok (.invokevirtual 108, 3) := by decide +kernel
theorem dX2_mend_75 : decode cX2_mend 75 = .ok (.return_, 1) := by decide +kernel
theorem dX2_writeBelow_0 : decode cX2_writeBelow 0 = .ok (.aload_n 0, 1) := by decide +kernel
theorem dX2_writeBelow_1 : decode cX2_writeBelow 1 = .ok (.getfield 18, 3) := by decide +kernel
theorem dX2_writeBelow_4 : decode cX2_writeBelow 4 = .ok (.iload_n 1, 1) := by decide +kernel
theorem dX2_writeBelow_5 : decode cX2_writeBelow 5 = .ok (.iload_n 2, 1) := by decide +kernel
theorem dX2_writeBelow_6 : decode cX2_writeBelow 6 = .ok (.aload_n 0, 1) := by decide +kernel
theorem dX2_writeBelow_7 : decode cX2_writeBelow 7 = .ok (.getfield 18, 3) := by decide +kernel
theorem dX2_writeBelow_10 : decode cX2_writeBelow 10 = .ok (.aload_n 0, 1) := by decide +kernel
theorem dX2_writeBelow_11 : decode cX2_writeBelow 11 = .ok (.getfield 18, 3) := by decide +kernel
theorem dX2_writeBelow_14 : decode cX2_writeBelow 14 = .ok (.iload_n 1, 1) := by decide +kernel
theorem dX2_writeBelow_15 : decode cX2_writeBelow 15 = .ok (.iload_n 2, 1) := by decide +kernel
theorem dX2_writeBelow_16 : decode cX2_writeBelow 16 = .ok (.invokevirtual 89, 3) := by decide +kernel
theorem dX2_writeBelow_19 : decode cX2_writeBelow 19 = .ok (.invokevirtual 76, 3) := by decide +kernel
theorem dX2_writeBelow_22 : decode cX2_writeBelow 22 = .ok (.invokevirtual 40, 3) := by decide +kernel
theorem dX2_writeBelow_25 : decode cX2_writeBelow 25 = .ok (.return_, 1) := by decide +kernel
theorem dX2_lend_0 : decode cX2_lend 0 = .ok (.aload_n 0, 1) := by decide +kernel
theorem dX2_lend_1 : decode cX2_lend 1 = .ok (.getfield 18, 3) := by decide +kernel
theorem dX2_lend_4 : decode cX2_lend 4 = .ok (.iload_n 1, 1) := by decide +kernel
theorem dX2_lend_5 : decode cX2_lend 5 = .ok (.iload_n 2, 1) := by decide +kernel
theorem dX2_lend_6 : decode cX2_lend 6 = .ok (.invokevirtual 89, 3) := by decide +kernel
theorem dX2_lend_9 : decode cX2_lend 9 = .ok (.istore 4, 2) := by decide +kernel
theorem dX2_lend_11 : decode cX2_lend 11 = .ok (.aload_n 0, 1) := by decide +kernel
theorem dX2_lend_12 : decode cX2_lend 12 = .ok (.getfield 18, 3) := by decide +kernel
theorem dX2_lend_15 : decode cX2_lend 15 = .ok (.iload_n 1, 1) := by decide +kernel
theorem dX2_lend_16 : decode cX2_lend 16 = .ok (.iload_n 3, 1) := by decide +kernel
theorem dX2_lend_17 : decode cX2_lend 17 = .ok (.invokevirtual 89, 3) := by decide +kernel
theorem dX2_lend_20 : decode cX2_lend 20 = .ok (.istore 5, 2) := by decide +kernel
theorem dX2_lend_22 : decode cX2_lend 22 = .ok (.iload_n 2, 1) := by decide +kernel
theorem dX2_lend_23 : decode cX2_lend 23 = .ok (.iload_n 3, 1) := by decide +kernel
theorem dX2_lend_24 : decode cX2_lend 24 = .ok (.if_icmp .ge 29, 3) := by decide +kernel
theorem dX2_lend_27 : decode cX2_lend 27 = .ok (.aload_n 0, 1) := by decide +kernel
theorem dX2_lend_28 : decode cX2_lend 28 = .ok (.getfield 18, 3) := by decide +kernel
theorem dX2_lend_31 : decode cX2_lend 31 = .ok (.iload 4, 2) := by decide +kernel
theorem dX2_lend_33 : decode cX2_lend 33 = .ok (.aload_n 0, 1) := by decide +kernel
theorem dX2_lend_34 : decode cX2_lend 34 = .ok (.getfield 18, 3) := by decide +kernel
theorem dX2_lend_37 : decode cX2_lend 37 = .ok (.iload 4, 2) := by decide +kernel
theorem dX2_lend_39 : decode cX2_lend 39 = .ok (.invokevirtual 64, 3) := by decide +kernel
theorem dX2_lend_42 : decode cX2_lend 42 = .ok (.iconst 1, 1) := by decide +kernel
theorem dX2_lend_43 : decode cX2_lend 43 = .ok (.isub, 1) := by decide +kernel
theorem dX2_lend_44 : decode cX2_lend 44 = .ok (.iload 5, 2) := by decide +kernel
theorem dX2_lend_46 : decode cX2_lend 46 = .ok (.iconst 0, 1) := by decide +kernel
theorem dX2_lend_47 : decode cX2_lend 47 = .ok (.invokevirtual 102, 3) := by decide +kernel
theorem dX2_lend_50 : decode cX2_lend 50 = .ok (.goto 24, 3) := by decide +kernel
theorem dX2_lend_53 : decode cX2_lend 53 = .ok (.aload_n 0, 1) := by decide +kernel
theorem dX2_lend_54 : decode cX2_lend 54 = .ok (.getfield 18, 3) := by decide +kernel
theorem dX2_lend_57 : decode cX2_lend 57 = .ok (.iload 4, 2) := by decide +kernel
theorem dX2_lend_59 : decode cX2_lend 59 = .ok (.iconst 0, 1) := by decide +kernel
theorem dX2_lend_60 : decode cX2_lend 60 = .ok (.iload 5, 2) := by decide +kernel
theorem dX2_lend_62 : decode cX2_lend 62 = .ok (.aload_n 0, 1) := by decide +kernel
theorem dX2_lend_63 : decode cX2_lend 63 = .ok (.getfield 18, 3) := by decide +kernel
theorem dX2_lend_66 : decode cX2_lend 66 = .ok (.iload 5, 2) := by decide +kernel
theorem dX2_lend_68 : decode cX2_lend 68 = .ok (.invokevirtual 64, 3) := by decide +kernel
theorem dX2_lend_71 : decode cX2_lend 71 = .ok (.invokevirtual 102, 3) := by decide +kernel
theorem dX2_lend_74 : decode cX2_lend 74 = .ok (.return_, 1) := by decide +kernel
theorem dX2_join_0 : decode cX2_join 0 = .ok (.aload_n 0, 1) := by decide +kernel
theorem dX2_join_1 : decode cX2_join 1 = .ok (.getfield 18, 3) := by decide +kernel
theorem dX2_join_4 : decode cX2_join 4 = .ok (.iload_n 1, 1) := by decide +kernel
theorem dX2_join_5 : decode cX2_join 5 = .ok (.iload_n 2, 1) := by decide +kernel
theorem dX2_join_6 : decode cX2_join 6 = .ok (.iconst 1, 1) := by decide +kernel
theorem dX2_join_7 : decode cX2_join 7 = .ok (.iadd, 1) := by decide +kernel
theorem dX2_join_8 : decode cX2_join 8 = .ok (.invokevirtual 89, 3) := by decide +kernel
theorem dX2_join_11 : decode cX2_join 11 = .ok (.istore_n 3, 1) := by decide +kernel
theorem dX2_join_12 : decode cX2_join 12 = .ok (.aload_n 0, 1) := by decide +kernel
theorem dX2_join_13 : decode cX2_join 13 = .ok (.getfield 18, 3) := by decide +kernel
theorem dX2_join_16 : decode cX2_join 16 = .ok (.iload_n 3, 1) := by decide +kernel
theorem dX2_join_17 : decode cX2_join 17 = .ok (.aload_n 0, 1) := by decide +kernel
theorem dX2_join_18 : decode cX2_join 18 = .ok (.getfield 18, 3) := by decide +kernel
theorem dX2_join_21 : decode cX2_join 21 = .ok (.iload_n 1, 1) := by decide +kernel
theorem dX2_join_22 : decode cX2_join 22 = .ok (.iload_n 2, 1) := by decide +kernel
theorem dX2_join_23 : decode cX2_join 23 = .ok (.invokevirtual 89, 3) := by decide +kernel
theorem dX2_join_26 : decode cX2_join 26 = .ok (.invokevirtual 111, 3) := by decide +kernel
theorem dX2_join_29 : decode cX2_join 29 = .ok (.aload_n 0, 1) := by decide +kernel
theorem dX2_join_30 : decode cX2_join 30 = .ok (.getfield 18, 3) := by decide +kernel
theorem dX2_join_33 : decode cX2_join 33 = .ok (.iload_n 1, 1) := by decide +kernel
theorem dX2_join_34 : decode cX2_join 34 = .ok (.iload_n 2, 1) := by decide +kernel
theorem dX2_join_35 : decode cX2_join 35 = .ok (.iconst 1, 1) := by decide +kernel
theorem dX2_join_36 : decode cX2_join 36 = .ok (.iadd, 1) := by decide +kernel
theorem dX2_join_37 : decode cX2_join 37 = .ok (.invokevirtual 57, 3) := by decide +kernel
theorem dX2_join_40 : decode cX2_join 40 = .ok (.aload_n 0, 1) := by decide +kernel
theorem dX2_join_41 : decode cX2_join 41 = .ok (.getfield 18, 3) := by decide +kernel
theorem dX2_join_44 : decode cX2_join 44 = .ok (.iload_n 3, 1) := by decide +kernel
theorem dX2_join_45 : decode cX2_join 45 = .ok (.invokevirtual 114, 3) := by decide +kernel
theorem dX2_join_48 : decode cX2_join 48 = .ok (.return_, 1) := by decide +kernel
theorem dX2_shrinkRoot_0 : decode cX2_shrinkRoot 0 = .ok (.aload_n 0, 1) := by decide +kernel
theorem dX2_shrinkRoot_1 : decode cX2_shrinkRoot 1 = .ok (.getfield 22, 3) := by decide +kernel
theorem dX2_shrinkRoot_4 : decode cX2_shrinkRoot 4 = .ok (.getfield 73, 3) := by decide +kernel
theorem dX2_shrinkRoot_7 : decode cX2_shrinkRoot 7 = .ok (.istore_n 1, 1) := by decide +kernel
theorem dX2_shrinkRoot_8 : decode cX2_shrinkRoot 8 = .ok (.aload_n 0, 1) := by decide +kernel
theorem dX2_shrinkRoot_9 : decode cX2_shrinkRoot 9 = .ok (.getfield 18, 3) := by decide +kernel
theorem dX2_shrinkRoot_12 : decode cX2_shrinkRoot 12 = .ok (.iload_n 1, 1) := by decide +kernel
theorem dX2_shrinkRoot_13 : decode cX2_shrinkRoot 13 = .ok (.invokevirtual 79, 3) := by decide +kernel
theorem dX2_shrinkRoot_16 : decode cX2_shrinkRoot 16 = .ok (.ifCond .ne 39, 3) := by decide +kernel
theorem dX2_shrinkRoot_19 : decode cX2_shrinkRoot 19 = .ok (.aload_n 0, 1) := by decide +kernel
theorem dX2_shrinkRoot_20 : decode cX2_shrinkRoot 20 = .ok (.getfield 18, 3) := by decide +kernel
theorem dX2_shrinkRoot_23 : decode cX2_shrinkRoot 23 = .ok (.iload_n 1, 1) := by decide +kernel
theorem dX2_shrinkRoot_24 : decode cX2_shrinkRoot 24 = .ok (.invokevirtual 64, 3) := by decide +kernel
theorem dX2_shrinkRoot_27 : decode cX2_shrinkRoot 27 = .ok (.iconst 1, 1) := by decide +kernel
theorem dX2_shrinkRoot_28 : decode cX2_shrinkRoot 28 = .ok (.if_icmp .ne 27, 3) := by decide +kernel
theorem dX2_shrinkRoot_31 : decode cX2_shrinkRoot 31 = .ok (.aload_n 0, 1) := by decide +kernel
theorem dX2_shrinkRoot_32 : decode cX2_shrinkRoot 32 = .ok (.getfield 22, 3) := by decide +kernel
theorem dX2_shrinkRoot_35 : decode cX2_shrinkRoot 35 = .ok (.aload_n 0, 1) := by decide +kernel
theorem dX2_shrinkRoot_36 : decode cX2_shrinkRoot 36 = .ok (.getfield 18, 3) := by decide +kernel
theorem dX2_shrinkRoot_39 : decode cX2_shrinkRoot 39 = .ok (.iload_n 1, 1) := by decide +kernel
theorem dX2_shrinkRoot_40 : decode cX2_shrinkRoot 40 = .ok (.iconst 0, 1) := by decide +kernel
theorem dX2_shrinkRoot_41 : decode cX2_shrinkRoot 41 = .ok (.invokevirtual 89, 3) := by decide +kernel
theorem dX2_shrinkRoot_44 : decode cX2_shrinkRoot 44 = .ok (.putfield 73, 3) := by decide +kernel
theorem dX2_shrinkRoot_47 : decode cX2_shrinkRoot 47 = .ok (.aload_n 0, 1) := by decide +kernel
theorem dX2_shrinkRoot_48 : decode cX2_shrinkRoot 48 = .ok (.getfield 18, 3) := by decide +kernel
theorem dX2_shrinkRoot_51 : decode cX2_shrinkRoot 51 = .ok (.iload_n 1, 1) := by decide +kernel
theorem dX2_shrinkRoot_52 : decode cX2_shrinkRoot 52 = .ok (.invokevirtual 114, 3) := by decide +kernel
theorem dX2_shrinkRoot_55 : decode cX2_shrinkRoot 55 = .ok (.return_, 1) := by decide +kernel
