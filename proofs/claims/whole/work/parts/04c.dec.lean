/-! decode rows, out of claim/NAMES.whole.lean.txt -/
theorem dX4_init_0 : decode cX4_init 0 = .ok (.aload_n 0, 1) := by decide +kernel
theorem dX4_init_1 : decode cX4_init 1 = .ok (.invokespecial 1, 3) := by decide +kernel
theorem dX4_init_4 : decode cX4_init 4 = .ok (.aload_n 0, 1) := by decide +kernel
theorem dX4_init_5 : decode cX4_init 5 = .ok (.sipush 720, 3) := by decide +kernel
theorem dX4_init_8 : decode cX4_init 8 = .ok (.newarray .int, 2) := by decide +kernel
theorem dX4_init_10 : decode cX4_init 10 = .ok (.putfield 7, 3) := by decide +kernel
theorem dX4_init_13 : decode cX4_init 13 = .ok (.aload_n 0, 1) := by decide +kernel
theorem dX4_init_14 : decode cX4_init 14 = .ok (.sipush 720, 3) := by decide +kernel
theorem dX4_init_17 : decode cX4_init 17 = .ok (.newarray .boolean, 2) := by decide +kernel
theorem dX4_init_19 : decode cX4_init 19 = .ok (.putfield 13, 3) := by decide +kernel
theorem dX4_init_22 : decode cX4_init 22 = .ok (.aload_n 0, 1) := by decide +kernel
theorem dX4_init_23 : decode cX4_init 23 = .ok (.sipush 3600, 3) := by decide +kernel
theorem dX4_init_26 : decode cX4_init 26 = .ok (.newarray .int, 2) := by decide +kernel
theorem dX4_init_28 : decode cX4_init 28 = .ok (.putfield 17, 3) := by decide +kernel
theorem dX4_init_31 : decode cX4_init 31 = .ok (.aload_n 0, 1) := by decide +kernel
theorem dX4_init_32 : decode cX4_init 32 = .ok (.sipush 3600, 3) := by decide +kernel
theorem dX4_init_35 : decode cX4_init 35 = .ok (.newarray .int, 2) := by decide +kernel
theorem dX4_init_37 : decode cX4_init 37 = .ok (.putfield 20, 3) := by decide +kernel
theorem dX4_init_40 : decode cX4_init 40 = .ok (.aload_n 0, 1) := by decide +kernel
theorem dX4_init_41 : decode cX4_init 41 = .ok (.sipush 720, 3) := by decide +kernel
theorem dX4_init_44 : decode cX4_init 44 = .ok (.newarray .boolean, 2) := by decide +kernel
theorem dX4_init_46 : decode cX4_init 46 = .ok (.putfield 23, 3) := by decide +kernel
theorem dX4_init_49 : decode cX4_init 49 = .ok (.aload_n 0, 1) := by decide +kernel
theorem dX4_init_50 : decode cX4_init 50 = .ok (.sipush 720, 3) := by decide +kernel
theorem dX4_init_53 : decode cX4_init 53 = .ok (.newarray .boolean, 2) := by decide +kernel
theorem dX4_init_55 : decode cX4_init 55 = .ok (.putfield 26, 3) := by decide +kernel
theorem dX4_init_58 : decode cX4_init 58 = .ok (.aload_n 0, 1) := by decide +kernel
theorem dX4_init_59 : decode cX4_init 59 = .ok (.sipush 720, 3) := by decide +kernel
theorem dX4_init_62 : decode cX4_init 62 = .ok (.newarray .int, 2) := by decide +kernel
theorem dX4_init_64 : decode cX4_init 64 = .ok (.putfield 29, 3) := by decide +kernel
theorem dX4_init_67 : decode cX4_init 67 = .ok (.aload_n 0, 1) := by decide +kernel
theorem dX4_init_68 : decode cX4_init 68 = .ok (.iconst (-1), 1) := by decide +kernel
theorem dX4_init_69 : decode cX4_init 69 = .ok (.putfield 32, 3) := by decide +kernel
theorem dX4_init_72 : decode cX4_init 72 = .ok (.aload_n 0, 1) := by decide +kernel
theorem dX4_init_73 : decode cX4_init 73 = .ok (.bipush 8, 2) := by decide +kernel
theorem dX4_init_75 : decode cX4_init 75 = .ok (.newarray .long, 2) := by decide +kernel
theorem dX4_init_77 : decode cX4_init 77 = .ok (.putfield 36, 3) := by decide +kernel
theorem dX4_init_80 : decode cX4_init 80 = .ok (.aload_n 0, 1) := by decide +kernel
theorem dX4_init_81 : decode cX4_init 81 = .ok (.iconst 4, 1) := by decide +kernel
theorem dX4_init_82 : decode cX4_init 82 = .ok (.newarray .int, 2) := by decide +kernel
theorem dX4_init_84 : decode cX4_init 84 = .ok (.putfield 40, 3) := by decide +kernel
theorem dX4_init_87 : decode cX4_init 87 = .ok (.aload_n 0, 1) := by decide +kernel
theorem dX4_init_88 : decode cX4_init 88 = .ok (.iconst 4, 1) := by decide +kernel
theorem dX4_init_89 : decode cX4_init 89 = .ok (.newarray .int, 2) := by decide +kernel
theorem dX4_init_91 : decode cX4_init 91 = .ok (.putfield 43, 3) := by decide +kernel
theorem dX4_init_94 : decode cX4_init 94 = .ok (.aload_n 0, 1) := by decide +kernel
theorem dX4_init_95 : decode cX4_init 95 = .ok (.bipush 12, 2) := by decide +kernel
theorem dX4_init_97 : decode cX4_init 97 = .ok (.newarray .int, 2) := by decide +kernel
theorem dX4_init_99 : decode cX4_init 99 = .ok (.putfield 46, 3) := by decide +kernel
theorem dX4_init_102 : decode cX4_init 102 = .ok (.aload_n 0, 1) := by decide +kernel
theorem dX4_init_103 : decode cX4_init 103 = .ok (.bipush 12, 2) := by decide +kernel
theorem dX4_init_105 : decode cX4_init 105 = .ok (.newarray .int, 2) := by decide +kernel
theorem dX4_init_107 : decode cX4_init 107 = .ok (.putfield 49, 3) := by decide +kernel
theorem dX4_init_110 : decode cX4_init 110 = .ok (.aload_n 0, 1) := by decide +kernel
theorem dX4_init_111 : decode cX4_init 111 = .ok (.invokevirtual 52, 3) := by decide +kernel
theorem dX4_init_114 : decode cX4_init 114 = .ok (.return_, 1) := by decide +kernel
theorem dX4_thrown_0 : decode cX4_thrown 0 = .ok (.aload_n 0, 1) := by decide +kernel
theorem dX4_thrown_1 : decode cX4_thrown 1 = .ok (.getfield 55, 3) := by decide +kernel
theorem dX4_thrown_4 : decode cX4_thrown 4 = .ok (.ireturn, 1) := by decide +kernel
theorem dX4_in_0 : decode cX4_in 0 = .ok (.iload_n 0, 1) := by decide +kernel
theorem dX4_in_1 : decode cX4_in 1 = .ok (.iload_n 1, 1) := by decide +kernel
theorem dX4_in_2 : decode cX4_in 2 = .ok (.if_icmp .lt 12, 3) := by decide +kernel
theorem dX4_in_5 : decode cX4_in 5 = .ok (.iload_n 0, 1) := by decide +kernel
theorem dX4_in_6 : decode cX4_in 6 = .ok (.iload_n 2, 1) := by decide +kernel
theorem dX4_in_7 : decode cX4_in 7 = .ok (.if_icmp .gt 7, 3) := by decide +kernel
theorem dX4_in_10 : decode cX4_in 10 = .ok (.iconst 1, 1) := by decide +kernel
theorem dX4_in_11 : decode cX4_in 11 = .ok (.goto 4, 3) := by decide +kernel
theorem dX4_in_14 : decode cX4_in 14 = .ok (.iconst 0, 1) := by decide +kernel
theorem dX4_in_15 : decode cX4_in 15 = .ok (.ireturn, 1) := by decide +kernel
theorem dX4_goes_0 : decode cX4_goes 0 = .ok (.aload_n 0, 1) := by decide +kernel
theorem dX4_goes_1 : decode cX4_goes 1 = .ok (.iload_n 1, 1) := by decide +kernel
theorem dX4_goes_2 : decode cX4_goes 2 = .ok (.ifCond .ne 7, 3) := by decide +kernel
theorem dX4_goes_5 : decode cX4_goes 5 = .ok (.iconst 1, 1) := by decide +kernel
theorem dX4_goes_6 : decode cX4_goes 6 = .ok (.goto 20, 3) := by decide +kernel
theorem dX4_goes_9 : decode cX4_goes 9 = .ok (.iload_n 2, 1) := by decide +kernel
theorem dX4_goes_10 : decode cX4_goes 10 = .ok (.ifCond .ne 7, 3) := by decide +kernel
theorem dX4_goes_13 : decode cX4_goes 13 = .ok (.iconst 2, 1) := by decide +kernel
theorem dX4_goes_14 : decode cX4_goes 14 = .ok (.goto 12, 3) := by decide +kernel
theorem dX4_goes_17 : decode cX4_goes 17 = .ok (.iload_n 3, 1) := by decide +kernel
theorem dX4_goes_18 : decode cX4_goes 18 = .ok (.ifCond .ne 7, 3) := by decide +kernel
theorem dX4_goes_21 : decode cX4_goes 21 = .ok (.iconst 3, 1) := by decide +kernel
theorem dX4_goes_22 : decode cX4_goes 22 = .ok (.goto 4, 3) := by decide +kernel
theorem dX4_goes_25 : decode cX4_goes 25 = .ok (.iconst 0, 1) := by decide +kernel
theorem dX4_goes_26 : decode cX4_goes 26 = .ok (.putfield 55, 3) := by decide +kernel
theorem dX4_goes_29 : decode cX4_goes 29 = .ok (.aload_n 0, 1) := by decide +kernel
theorem dX4_goes_30 : decode cX4_goes 30 = .ok (.getfield 55, 3) := by decide +kernel
theorem dX4_goes_33 : decode cX4_goes 33 = .ok (.ifCond .ne 7, 3) := by decide +kernel
theorem dX4_goes_36 : decode cX4_goes 36 = .ok (.iconst 1, 1) := by decide +kernel
theorem dX4_goes_37 : decode cX4_goes 37 = .ok (.goto 4, 3) := by decide +kernel
theorem dX4_goes_40 : decode cX4_goes 40 = .ok (.iconst 0, 1) := by decide +kernel
theorem dX4_goes_41 : decode cX4_goes 41 = .ok (.ireturn, 1) := by decide +kernel
theorem dX4_closesAll_0 : decode cX4_closesAll 0 = .ok (.iconst 0, 1) := by decide +kernel
theorem dX4_closesAll_1 : decode cX4_closesAll 1 = .ok (.istore_n 1, 1) := by decide +kernel
theorem dX4_closesAll_2 : decode cX4_closesAll 2 = .ok (.iload_n 1, 1) := by decide +kernel
theorem dX4_closesAll_3 : decode cX4_closesAll 3 = .ok (.iconst 4, 1) := by decide +kernel
theorem dX4_closesAll_4 : decode cX4_closesAll 4 = .ok (.if_icmp .ge 16, 3) := by decide +kernel
theorem dX4_closesAll_7 : decode cX4_closesAll 7 = .ok (.aload_n 0, 1) := by decide +kernel
theorem dX4_closesAll_8 : decode cX4_closesAll 8 = .ok (.getfield 40, 3) := by decide +kernel
theorem dX4_closesAll_11 : decode cX4_closesAll 11 = .ok (.iload_n 1, 1) := by decide +kernel
theorem dX4_closesAll_12 : decode cX4_closesAll 12 = .ok (.iconst (-1), 1) := by decide +kernel
theorem dX4_closesAll_13 : decode cX4_closesAll 13 = .ok (.iastore, 1) := by decide +kernel
theorem dX4_closesAll_14 : decode cX4_closesAll 14 = .ok (.iinc 1 1, 3) := by decide +kernel
theorem dX4_closesAll_17 : decode cX4_closesAll 17 = .ok (.goto (-15), 3) := by decide +kernel
theorem dX4_closesAll_20 : decode cX4_closesAll 20 = .ok (.return_, 1) := by decide +kernel
theorem dX4_meets_0 : decode cX4_meets 0 = .ok (.aload_n 0, 1) := by decide +kernel
theorem dX4_meets_1 : decode cX4_meets 1 = .ok (.getfield 26, 3) := by decide +kernel
theorem dX4_meets_4 : decode cX4_meets 4 = .ok (.iload_n 1, 1) := by decide +kernel
theorem dX4_meets_5 : decode cX4_meets 5 = .ok (.baload, 1) := by decide +kernel
theorem dX4_meets_6 : decode cX4_meets 6 = .ok (.ifCond .eq 7, 3) := by decide +kernel
theorem dX4_meets_9 : decode cX4_meets 9 = .ok (.iconst 0, 1) := by decide +kernel
theorem dX4_meets_10 : decode cX4_meets 10 = .ok (.goto 4, 3) := by decide +kernel
theorem dX4_meets_13 : decode cX4_meets 13 = .ok (.iconst 1, 1) := by decide +kernel
theorem dX4_meets_14 : decode cX4_meets 14 = .ok (.istore_n 2, 1) := by decide +kernel
theorem dX4_meets_15 : decode cX4_meets 15 = .ok (.aload_n 0, 1) := by decide +kernel
theorem dX4_meets_16 : decode cX4_meets 16 = .ok (.getfield 29, 3) := by decide +kernel
theorem dX4_meets_19 : decode cX4_meets 19 = .ok (.iconst 0, 1) := by decide +kernel
theorem dX4_meets_20 : decode cX4_meets 20 = .ok (.iload_n 1, 1) := by decide +kernel
theorem dX4_meets_21 : decode cX4_meets 21 = .ok (.iastore, 1) := by decide +kernel
theorem dX4_meets_22 : decode cX4_meets 22 = .ok (.aload_n 0, 1) := by decide +kernel
theorem dX4_meets_23 : decode cX4_meets 23 = .ok (.getfield 26, 3) := by decide +kernel
theorem dX4_meets_26 : decode cX4_meets 26 = .ok (.iload_n 1, 1) := by decide +kernel
theorem dX4_meets_27 : decode cX4_meets 27 = .ok (.iconst 1, 1) := by decide +kernel
theorem dX4_meets_28 : decode cX4_meets 28 = .ok (.bastore, 1) := by decide +kernel
theorem dX4_meets_29 : decode cX4_meets 29 = .ok (.iload_n 2, 1) := by decide +kernel
theorem dX4_meets_30 : decode cX4_meets 30 = .ok (.ifCond .le 87, 3) := by decide +kernel
theorem dX4_meets_33 : decode cX4_meets 33 = .ok (.iinc 2 (-1), 3) := by decide +kernel
theorem dX4_meets_36 : decode cX4_meets 36 = .ok (.aload_n 0, 1) := by decide +kernel
theorem dX4_meets_37 : decode cX4_meets 37 = .ok (.getfield 29, 3) := by decide +kernel
theorem dX4_meets_40 : decode cX4_meets 40 = .ok (.iload_n 2, 1) := by decide +kernel
theorem dX4_meets_41 : decode cX4_meets 41 = .ok (.iaload, 1) := by decide +kernel
theorem dX4_meets_42 : decode cX4_meets 42 = .ok (.istore_n 3, 1) := by decide +kernel
theorem dX4_meets_43 : decode cX4_meets 43 = .ok (.iconst 0, 1) := by decide +kernel
theorem dX4_meets_44 : decode cX4_meets 44 = .ok (.istore 4, 2) := by decide +kernel
theorem dX4_meets_46 : decode cX4_meets 46 = .ok (.iload 4, 2) := by decide +kernel
theorem dX4_meets_48 : decode cX4_meets 48 = .ok (.aload_n 0, 1) := by decide +kernel
theorem dX4_meets_49 : decode cX4_meets 49 = .ok (.getfield 7, 3) := by decide +kernel
theorem dX4_meets_52 : decode cX4_meets 52 = .ok (.iload_n 3, 1) := by decide +kernel
theorem dX4_meets_53 : decode cX4_meets 53 = .ok (.iaload, 1) := by decide +kernel
theorem dX4_meets_54 : decode cX4_meets 54 = .ok (.if_icmp .ge 60, 3) := by decide +kernel
theorem dX4_meets_57 : decode cX4_meets 57 = .ok (.aload_n 0, 1) := by decide +kernel
theorem dX4_meets_58 : decode cX4_meets 58 = .ok (.getfield 13, 3) := by decide +kernel
theorem dX4_meets_61 : decode cX4_meets 61 = .ok (.iload_n 3, 1) := by decide +kernel
theorem dX4_meets_62 : decode cX4_meets 62 = .ok (.baload, 1) := by decide +kernel
theorem dX4_meets_63 : decode cX4_meets 63 = .ok (.ifCond .eq 51, 3) := by decide +kernel
theorem dX4_meets_66 : decode cX4_meets 66 = .ok (.aload_n 0, 1) := by decide +kernel
theorem dX4_meets_67 : decode cX4_meets 67 = .ok (.getfield 17, 3) := by decide +kernel
theorem dX4_meets_70 : decode cX4_meets 70 = .ok (.iconst 5, 1) := by decide +kernel
theorem dX4_meets_71 : decode cX4_meets 71 = .ok (.iload_n 3, 1) := by decide +kernel
theorem dX4_meets_72 : decode cX4_meets 72 = .ok (.imul, 1) := by decide +kernel
theorem dX4_meets_73 : decode cX4_meets 73 = .ok (.iload 4, 2) := by decide +kernel
theorem dX4_meets_75 : decode cX4_meets 75 = .ok (.iadd, 1) := by decide +kernel
theorem dX4_meets_76 : decode cX4_meets 76 = .ok (.iaload, 1) := by decide +kernel
theorem dX4_meets_77 : decode cX4_meets 77 = .ok (.istore 5, 2) := by decide +kernel
theorem dX4_meets_79 : decode cX4_meets 79 = .ok (.aload_n 0, 1) := by decide +kernel
theorem dX4_meets_80 : decode cX4_meets 80 = .ok (.getfield 26, 3) := by decide +kernel
theorem dX4_meets_83 : decode cX4_meets 83 = .ok (.iload 5, 2) := by decide +kernel
theorem dX4_meets_85 : decode cX4_meets 85 = .ok (.baload, 1) := by decide +kernel
theorem dX4_meets_86 : decode cX4_meets 86 = .ok (.ifCond .ne 22, 3) := by decide +kernel
theorem dX4_meets_89 : decode cX4_meets 89 = .ok (.aload_n 0, 1) := by decide +kernel
theorem dX4_meets_90 : decode cX4_meets 90 = .ok (.getfield 26, 3) := by decide +kernel
theorem dX4_meets_93 : decode cX4_meets 93 = .ok (.iload 5, 2) := by decide +kernel
theorem dX4_meets_95 : decode cX4_meets 95 = .ok (.iconst 1, 1) := by decide +kernel
theorem dX4_meets_96 : decode cX4_meets 96 = .ok (.bastore, 1) := by decide +kernel
theorem dX4_meets_97 : decode cX4_meets 97 = .ok (.aload_n 0, 1) := by decide +kernel
theorem dX4_meets_98 : decode cX4_meets 98 = .ok (.getfield 29, 3) := by decide +kernel
theorem dX4_meets_101 : decode cX4_meets 101 = .ok (.iload_n 2, 1) := by decide +kernel
theorem dX4_meets_102 : decode cX4_meets 102 = .ok (.iload 5, 2) := by decide +kernel
theorem dX4_meets_104 : decode cX4_meets 104 = .ok (.iastore, 1) := by decide +kernel
theorem dX4_meets_105 : decode cX4_meets 105 = .ok (.iinc 2 1, 3) := by decide +kernel
theorem dX4_meets_108 : decode cX4_meets 108 = .ok (.iinc 4 1, 3) := by decide +kernel
theorem dX4_meets_111 : decode cX4_meets 111 = .ok (.goto (-65), 3) := by decide +kernel
theorem dX4_meets_114 : decode cX4_meets 114 = .ok (.goto (-85), 3) := by decide +kernel
theorem dX4_meets_117 : decode cX4_meets 117 = .ok (.return_, 1) := by decide +kernel
theorem dX4_forgets_0 : decode cX4_forgets 0 = .ok (.iconst 0, 1) := by decide +kernel
theorem dX4_forgets_1 : decode cX4_forgets 1 = .ok (.istore_n 1, 1) := by decide +kernel
theorem dX4_forgets_2 : decode cX4_forgets 2 = .ok (.iload_n 1, 1) := by decide +kernel
theorem dX4_forgets_3 : decode cX4_forgets 3 = .ok (.sipush 720, 3) := by decide +kernel
theorem dX4_forgets_6 : decode cX4_forgets 6 = .ok (.if_icmp .ge 16, 3) := by decide +kernel
theorem dX4_forgets_9 : decode cX4_forgets 9 = .ok (.aload_n 0, 1) := by decide +kernel
theorem dX4_forgets_10 : decode cX4_forgets 10 = .ok (.getfield 26, 3) := by decide +kernel
theorem dX4_forgets_13 : decode cX4_forgets 13 = .ok (.iload_n 1, 1) := by decide +kernel
theorem dX4_forgets_14 : decode cX4_forgets 14 = .ok (.iconst 0, 1) := by decide +kernel
theorem dX4_forgets_15 : decode cX4_forgets 15 = .ok (.bastore, 1) := by decide +kernel
theorem dX4_forgets_16 : decode cX4_forgets 16 = .ok (.iinc 1 1, 3) := by decide +kernel
theorem dX4_forgets_19 : decode cX4_forgets 19 = .ok (.goto (-17), 3) := by decide +kernel
theorem dX4_forgets_22 : decode cX4_forgets 22 = .ok (.return_, 1) := by decide +kernel
theorem dX4_meetsAll_0 : decode cX4_meetsAll 0 = .ok (.aload_n 0, 1) := by decide +kernel
theorem dX4_meetsAll_1 : decode cX4_meetsAll 1 = .ok (.invokevirtual 58, 3) := by decide +kernel
theorem dX4_meetsAll_4 : decode cX4_meetsAll 4 = .ok (.aload_n 0, 1) := by decide +kernel
theorem dX4_meetsAll_5 : decode cX4_meetsAll 5 = .ok (.aload_n 0, 1) := by decide +kernel
theorem dX4_meetsAll_6 : decode cX4_meetsAll 6 = .ok (.getfield 61, 3) := by decide +kernel
theorem dX4_meetsAll_9 : decode cX4_meetsAll 9 = .ok (.invokevirtual 64, 3) := by decide +kernel
theorem dX4_meetsAll_12 : decode cX4_meetsAll 12 = .ok (.aload_n 0, 1) := by decide +kernel
theorem dX4_meetsAll_13 : decode cX4_meetsAll 13 = .ok (.getfield 32, 3) := by decide +kernel
theorem dX4_meetsAll_16 : decode cX4_meetsAll 16 = .ok (.iconst (-1), 1) := by decide +kernel
theorem dX4_meetsAll_17 : decode cX4_meetsAll 17 = .ok (.if_icmp .eq 11, 3) := by decide +kernel
theorem dX4_meetsAll_20 : decode cX4_meetsAll 20 = .ok (.aload_n 0, 1) := by decide +kernel
theorem dX4_meetsAll_21 : decode cX4_meetsAll 21 = .ok (.aload_n 0, 1) := by decide +kernel
theorem dX4_meetsAll_22 : decode cX4_meetsAll 22 = .ok (.getfield 32, 3) := by decide +kernel
theorem dX4_meetsAll_25 : decode cX4_meetsAll 25 = .ok (.invokevirtual 64, 3) := by decide +kernel
theorem dX4_meetsAll_28 : decode cX4_meetsAll 28 = .ok (.iconst 0, 1) := by decide +kernel
theorem dX4_meetsAll_29 : decode cX4_meetsAll 29 = .ok (.istore_n 2, 1) := by decide +kernel
theorem dX4_meetsAll_30 : decode cX4_meetsAll 30 = .ok (.iload_n 2, 1) := by decide +kernel
theorem dX4_meetsAll_31 : decode cX4_meetsAll 31 = .ok (.iconst 2, 1) := by decide +kernel
theorem dX4_meetsAll_32 : decode cX4_meetsAll 32 = .ok (.if_icmp .ge 32, 3) := by decide +kernel
theorem dX4_meetsAll_35 : decode cX4_meetsAll 35 = .ok (.aload_n 0, 1) := by decide +kernel
theorem dX4_meetsAll_36 : decode cX4_meetsAll 36 = .ok (.iload_n 2, 1) := by decide +kernel
theorem dX4_meetsAll_37 : decode cX4_meetsAll 37 = .ok (.invokevirtual 68, 3) := by decide +kernel
theorem dX4_meetsAll_40 : decode cX4_meetsAll 40 = .ok (.ifCond .eq 18, 3) := by decide +kernel
theorem dX4_meetsAll_43 : decode cX4_meetsAll 43 = .ok (.aload_n 0, 1) := by decide +kernel
theorem dX4_meetsAll_44 : decode cX4_meetsAll 44 = .ok (.aload_n 0, 1) := by decide +kernel
theorem dX4_meetsAll_45 : decode cX4_meetsAll 45 = .ok (.getfield 36, 3) := by decide +kernel
theorem dX4_meetsAll_48 : decode cX4_meetsAll 48 = .ok (.iconst 4, 1) := by decide +kernel
theorem dX4_meetsAll_49 : decode cX4_meetsAll 49 = .ok (.iload_n 2, 1) := by decide +kernel
theorem dX4_meetsAll_50 : decode cX4_meetsAll 50 = .ok (.imul, 1) := by decide +kernel
theorem dX4_meetsAll_51 : decode cX4_meetsAll 51 = .ok (.iconst 1, 1) := by decide +kernel
theorem dX4_meetsAll_52 : decode cX4_meetsAll 52 = .ok (.iadd, 1) := by decide +kernel
theorem dX4_meetsAll_53 : decode cX4_meetsAll 53 = .ok (.laload, 1) := by decide +kernel
theorem dX4_meetsAll_54 : decode cX4_meetsAll 54 = .ok (.l2i, 1) := by decide +kernel
theorem dX4_meetsAll_55 : decode cX4_meetsAll 55 = .ok (.invokevirtual 64, 3) := by decide +kernel
theorem dX4_meetsAll_58 : decode cX4_meetsAll 58 = .ok (.iinc 2 1, 3) := by decide +kernel
theorem dX4_meetsAll_61 : decode cX4_meetsAll 61 = .ok (.goto (-31), 3) := by decide +kernel
theorem dX4_meetsAll_64 : decode cX4_meetsAll 64 = .ok (.iconst 0, 1) := by decide +kernel
theorem dX4_meetsAll_65 : decode cX4_meetsAll 65 = .ok (.istore_n 2, 1) := by decide +kernel
theorem dX4_meetsAll_66 : decode cX4_meetsAll 66 = .ok (.iload_n 2, 1) := by decide +kernel
theorem dX4_meetsAll_67 : decode cX4_meetsAll 67 = .ok (.iconst 4, 1) := by decide +kernel
theorem dX4_meetsAll_68 : decode cX4_meetsAll 68 = .ok (.if_icmp .ge 34, 3) := by decide +kernel
theorem dX4_meetsAll_71 : decode cX4_meetsAll 71 = .ok (.iload_n 2, 1) := by decide +kernel
theorem dX4_meetsAll_72 : decode cX4_meetsAll 72 = .ok (.iload_n 1, 1) := by decide +kernel
theorem dX4_meetsAll_73 : decode cX4_meetsAll 73 = .ok (.if_icmp .eq 23, 3) := by decide +kernel
theorem dX4_meetsAll_76 : decode cX4_meetsAll 76 = .ok (.aload_n 0, 1) := by decide +kernel
theorem dX4_meetsAll_77 : decode cX4_meetsAll 77 = .ok (.getfield 40, 3) := by decide +kernel
theorem dX4_meetsAll_80 : decode cX4_meetsAll 80 = .ok (.iload_n 2, 1) := by decide +kernel
theorem dX4_meetsAll_81 : decode cX4_meetsAll 81 = .ok (.iaload, 1) := by decide +kernel
theorem dX4_meetsAll_82 : decode cX4_meetsAll 82 = .ok (.iconst (-1), 1) := by decide +kernel
theorem dX4_meetsAll_83 : decode cX4_meetsAll 83 = .ok (.if_icmp .eq 13, 3) := by decide +kernel
theorem dX4_meetsAll_86 : decode cX4_meetsAll 86 = .ok (.aload_n 0, 1) := by decide +kernel
theorem dX4_meetsAll_87 : decode cX4_meetsAll 87 = .ok (.aload_n 0, 1) := by decide +kernel
theorem dX4_meetsAll_88 : decode cX4_meetsAll 88 = .ok (.getfield 40, 3) := by decide +kernel
theorem dX4_meetsAll_91 : decode cX4_meetsAll 91 = .ok (.iload_n 2, 1) := by decide +kernel
theorem dX4_meetsAll_92 : decode cX4_meetsAll 92 = .ok (.iaload, 1) := by decide +kernel
theorem dX4_meetsAll_93 : decode cX4_meetsAll 93 = .ok (.invokevirtual 64, 3) := by decide +kernel
theorem dX4_meetsAll_96 : decode cX4_meetsAll 96 = .ok (.iinc 2 1, 3) := by decide +kernel
theorem dX4_meetsAll_99 : decode cX4_meetsAll 99 = .ok (.goto (-33), 3) := by decide +kernel
theorem dX4_meetsAll_102 : decode cX4_meetsAll 102 = .ok (.iconst 0, 1) := by decide +kernel
theorem dX4_meetsAll_103 : decode cX4_meetsAll 103 = .ok (.istore_n 2, 1) := by decide +kernel
theorem dX4_meetsAll_104 : decode cX4_meetsAll 104 = .ok (.iconst 0, 1) := by decide +kernel
theorem dX4_meetsAll_105 : decode cX4_meetsAll 105 = .ok (.istore_n 3, 1) := by decide +kernel
theorem dX4_meetsAll_106 : decode cX4_meetsAll 106 = .ok (.iload_n 3, 1) := by decide +kernel
theorem dX4_meetsAll_107 : decode cX4_meetsAll 107 = .ok (.sipush 720, 3) := by decide +kernel
theorem dX4_meetsAll_110 : decode cX4_meetsAll 110 = .ok (.if_icmp .ge 26, 3) := by decide +kernel
theorem dX4_meetsAll_113 : decode cX4_meetsAll 113 = .ok (.iload_n 2, 1) := by decide +kernel
theorem dX4_meetsAll_114 : decode cX4_meetsAll 114 = .ok (.aload_n 0, 1) := by decide +kernel
theorem dX4_meetsAll_115 : decode cX4_meetsAll 115 = .ok (.getfield 26, 3) := by decide +kernel
theorem dX4_meetsAll_118 : decode cX4_meetsAll 118 = .ok (.iload_n 3, 1) := by decide +kernel
theorem dX4_meetsAll_119 : decode cX4_meetsAll 119 = .ok (.baload, 1) := by decide +kernel
theorem dX4_meetsAll_120 : decode cX4_meetsAll 120 = .ok (.ifCond .eq 7, 3) := by decide +kernel
theorem dX4_meetsAll_123 : decode cX4_meetsAll 123 = .ok (.iconst 1, 1) := by decide +kernel
theorem dX4_meetsAll_124 : decode cX4_meetsAll 124 = .ok (.goto 4, 3) := by decide +kernel
theorem dX4_meetsAll_127 : decode cX4_meetsAll 127 = .ok (.iconst 0, 1) := by decide +kernel
theorem dX4_meetsAll_128 : decode cX4_meetsAll 128 = .ok (.iadd, 1) := by decide +kernel
theorem dX4_meetsAll_129 : decode cX4_meetsAll 129 = .ok (.istore_n 2, 1) := by decide +kernel
theorem dX4_meetsAll_130 : decode cX4_meetsAll 130 = .ok (.iinc 3 1, 3) := by decide +kernel
theorem dX4_meetsAll_133 : decode cX4_meetsAll 133 = .ok (.goto (-27), 3) := by decide +kernel
theorem dX4_meetsAll_136 : decode cX4_meetsAll 136 = .ok (.iload_n 2, 1) := by decide +kernel
theorem dX4_meetsAll_137 : decode cX4_meetsAll 137 = .ok (.ireturn, 1) := by decide +kernel
theorem dX4_leastNotMet_0 : decode cX4_leastNotMet 0 = .ok (.iconst 0, 1) := by decide +kernel
theorem dX4_leastNotMet_1 : decode cX4_leastNotMet 1 = .ok (.istore_n 1, 1) := by decide +kernel
theorem dX4_leastNotMet_2 : decode cX4_leastNotMet 2 = .ok (.aload_n 0, 1) := by decide +kernel
theorem dX4_leastNotMet_3 : decode cX4_leastNotMet 3 = .ok (.getfield 26, 3) := by decide +kernel
theorem dX4_leastNotMet_6 : decode cX4_leastNotMet 6 = .ok (.iload_n 1, 1) := by decide +kernel
theorem dX4_leastNotMet_7 : decode cX4_leastNotMet 7 = .ok (.baload, 1) := by decide +kernel
theorem dX4_leastNotMet_8 : decode cX4_leastNotMet 8 = .ok (.ifCond .eq 9, 3) := by decide +kernel
theorem dX4_leastNotMet_11 : decode cX4_leastNotMet 11 = .ok (.iinc 1 1, 3) := by decide +kernel
theorem dX4_leastNotMet_14 : decode cX4_leastNotMet 14 = .ok (.goto (-12), 3) := by decide +kernel
theorem dX4_leastNotMet_17 : decode cX4_leastNotMet 17 = .ok (.iload_n 1, 1) := by decide +kernel
theorem dX4_leastNotMet_18 : decode cX4_leastNotMet 18 = .ok (.ireturn, 1) := by decide +kernel
theorem dX4_inUse_0 : decode cX4_inUse 0 = .ok (.aload_n 0, 1) := by decide +kernel
theorem dX4_inUse_1 : decode cX4_inUse 1 = .ok (.iconst (-1), 1) := by decide +kernel
theorem dX4_inUse_2 : decode cX4_inUse 2 = .ok (.invokevirtual 72, 3) := by decide +kernel
theorem dX4_inUse_5 : decode cX4_inUse 5 = .ok (.pop, 1) := by decide +kernel
theorem dX4_inUse_6 : decode cX4_inUse 6 = .ok (.iload_n 1, 1) := by decide +kernel
theorem dX4_inUse_7 : decode cX4_inUse 7 = .ok (.iconst 0, 1) := by decide +kernel
theorem dX4_inUse_8 : decode cX4_inUse 8 = .ok (.sipush 719, 3) := by decide +kernel
theorem dX4_inUse_11 : decode cX4_inUse 11 = .ok (.invokestatic 76, 3) := by decide +kernel
theorem dX4_inUse_14 : decode cX4_inUse 14 = .ok (.ifCond .eq 16, 3) := by decide +kernel
theorem dX4_inUse_17 : decode cX4_inUse 17 = .ok (.aload_n 0, 1) := by decide +kernel
theorem dX4_inUse_18 : decode cX4_inUse 18 = .ok (.getfield 26, 3) := by decide +kernel
theorem dX4_inUse_21 : decode cX4_inUse 21 = .ok (.iload_n 1, 1) := by decide +kernel
theorem dX4_inUse_22 : decode cX4_inUse 22 = .ok (.baload, 1) := by decide +kernel
theorem dX4_inUse_23 : decode cX4_inUse 23 = .ok (.ifCond .eq 7, 3) := by decide +kernel
theorem dX4_inUse_26 : decode cX4_inUse 26 = .ok (.iconst 1, 1) := by decide +kernel
theorem dX4_inUse_27 : decode cX4_inUse 27 = .ok (.goto 4, 3) := by decide +kernel
theorem dX4_inUse_30 : decode cX4_inUse 30 = .ok (.iconst 0, 1) := by decide +kernel
theorem dX4_inUse_31 : decode cX4_inUse 31 = .ok (.ireturn, 1) := by decide +kernel
theorem dX4_takes_0 : decode cX4_takes 0 = .ok (.aload_n 0, 1) := by decide +kernel
theorem dX4_takes_1 : decode cX4_takes 1 = .ok (.iconst (-1), 1) := by decide +kernel
theorem dX4_takes_2 : decode cX4_takes 2 = .ok (.invokevirtual 72, 3) := by decide +kernel
theorem dX4_takes_5 : decode cX4_takes 5 = .ok (.pop, 1) := by decide +kernel
theorem dX4_takes_6 : decode cX4_takes 6 = .ok (.iload_n 1, 1) := by decide +kernel
theorem dX4_takes_7 : decode cX4_takes 7 = .ok (.iconst (-1), 1) := by decide +kernel
theorem dX4_takes_8 : decode cX4_takes 8 = .ok (.if_icmp .eq 8, 3) := by decide +kernel
theorem dX4_takes_11 : decode cX4_takes 11 = .ok (.aload_n 0, 1) := by decide +kernel
theorem dX4_takes_12 : decode cX4_takes 12 = .ok (.iload_n 1, 1) := by decide +kernel
theorem dX4_takes_13 : decode cX4_takes 13 = .ok (.invokevirtual 64, 3) := by decide +kernel
theorem dX4_takes_16 : decode cX4_takes 16 = .ok (.aload_n 0, 1) := by decide +kernel
theorem dX4_takes_17 : decode cX4_takes 17 = .ok (.invokevirtual 80, 3) := by decide +kernel
theorem dX4_takes_20 : decode cX4_takes 20 = .ok (.istore_n 2, 1) := by decide +kernel
theorem dX4_takes_21 : decode cX4_takes 21 = .ok (.aload_n 0, 1) := by decide +kernel
theorem dX4_takes_22 : decode cX4_takes 22 = .ok (.getfield 23, 3) := by decide +kernel
theorem dX4_takes_25 : decode cX4_takes 25 = .ok (.iload_n 2, 1) := by decide +kernel
theorem dX4_takes_26 : decode cX4_takes 26 = .ok (.iconst 1, 1) := by decide +kernel
theorem dX4_takes_27 : decode cX4_takes 27 = .ok (.bastore, 1) := by decide +kernel
theorem dX4_takes_28 : decode cX4_takes 28 = .ok (.aload_n 0, 1) := by decide +kernel
theorem dX4_takes_29 : decode cX4_takes 29 = .ok (.getfield 7, 3) := by decide +kernel
theorem dX4_takes_32 : decode cX4_takes 32 = .ok (.iload_n 2, 1) := by decide +kernel
theorem dX4_takes_33 : decode cX4_takes 33 = .ok (.iconst 0, 1) := by decide +kernel
theorem dX4_takes_34 : decode cX4_takes 34 = .ok (.iastore, 1) := by decide +kernel
theorem dX4_takes_35 : decode cX4_takes 35 = .ok (.iload_n 2, 1) := by decide +kernel
theorem dX4_takes_36 : decode cX4_takes 36 = .ok (.ireturn, 1) := by decide +kernel
theorem dX4_copies_0 : decode cX4_copies 0 = .ok (.aload_n 0, 1) := by decide +kernel
theorem dX4_copies_1 : decode cX4_copies 1 = .ok (.getfield 13, 3) := by decide +kernel
theorem dX4_copies_4 : decode cX4_copies 4 = .ok (.iload_n 2, 1) := by decide +kernel
theorem dX4_copies_5 : decode cX4_copies 5 = .ok (.aload_n 0, 1) := by decide +kernel
theorem dX4_copies_6 : decode cX4_copies 6 = .ok (.getfield 13, 3) := by decide +kernel
theorem dX4_copies_9 : decode cX4_copies 9 = .ok (.iload_n 1, 1) := by decide +kernel
theorem dX4_copies_10 : decode cX4_copies 10 = .ok (.baload, 1) := by decide +kernel
theorem dX4_copies_11 : decode cX4_copies 11 = .ok (.bastore, 1) := by decide +kernel
theorem dX4_copies_12 : decode cX4_copies 12 = .ok (.aload_n 0, 1) := by decide +kernel
theorem dX4_copies_13 : decode cX4_copies 13 = .ok (.getfield 7, 3) := by decide +kernel
theorem dX4_copies_16 : decode cX4_copies 16 = .ok (.iload_n 2, 1) := by decide +kernel
theorem dX4_copies_17 : decode cX4_copies 17 = .ok (.aload_n 0, 1) := by decide +kernel
theorem dX4_copies_18 : decode cX4_copies 18 = .ok (.getfield 7, 3) := by decide +kernel
theorem dX4_copies_21 : decode cX4_copies 21 = .ok (.iload_n 1, 1) := by decide +kernel
theorem dX4_copies_22 : decode cX4_copies 22 = .ok (.iaload, 1) := by decide +kernel
theorem dX4_copies_23 : decode cX4_copies 23 = .ok (.iastore, 1) := by decide +kernel
theorem dX4_copies_24 : decode cX4_copies 24 = .ok (.iconst 0, 1) := by decide +kernel
theorem dX4_copies_25 : decode cX4_copies 25 = .ok (.istore_n 3, 1) := by decide +kernel
theorem dX4_copies_26 : decode cX4_copies 26 = .ok (.iload_n 3, 1) := by decide +kernel
theorem dX4_copies_27 : decode cX4_copies 27 = .ok (.iconst 5, 1) := by decide +kernel
theorem dX4_copies_28 : decode cX4_copies 28 = .ok (.if_icmp .ge 49, 3) := by decide +kernel
theorem dX4_copies_31 : decode cX4_copies 31 = .ok (.aload_n 0, 1) := by decide +kernel
theorem dX4_copies_32 : decode cX4_copies 32 = .ok (.getfield 17, 3) := by decide +kernel
theorem dX4_copies_35 : decode cX4_copies 35 = .ok (.iconst 5, 1) := by decide +kernel
theorem dX4_copies_36 : decode cX4_copies 36 = .ok (.iload_n 2, 1) := by decide +kernel
theorem dX4_copies_37 : decode cX4_copies 37 = .ok (.imul, 1) := by decide +kernel
theorem dX4_copies_38 : decode cX4_copies 38 = .ok (.iload_n 3, 1) := by decide +kernel
theorem dX4_copies_39 : decode cX4_copies 39 = .ok (.iadd, 1) := by decide +kernel
theorem dX4_copies_40 : decode cX4_copies 40 = .ok (.aload_n 0, 1) := by decide +kernel
theorem dX4_copies_41 : decode cX4_copies 41 = .ok (.getfield 17, 3) := by decide +kernel
theorem dX4_copies_44 : decode cX4_copies 44 = .ok (.iconst 5, 1) := by decide +kernel
theorem dX4_copies_45 : decode cX4_copies 45 = .ok (.iload_n 1, 1) := by decide +kernel
theorem dX4_copies_46 : decode cX4_copies 46 = .ok (.imul, 1) := by decide +kernel
theorem dX4_copies_47 : decode cX4_copies 47 = .ok (.iload_n 3, 1) := by decide +kernel
theorem dX4_copies_48 : decode cX4_copies 48 = .ok (.iadd, 1) := by decide +kernel
theorem dX4_copies_49 : decode cX4_copies 49 = .ok (.iaload, 1) := by decide +kernel
theorem dX4_copies_50 : decode cX4_copies 50 = .ok (.iastore, 1) := by decide +kernel
theorem dX4_copies_51 : decode cX4_copies 51 = .ok (.aload_n 0, 1) := by decide +kernel
theorem dX4_copies_52 : decode cX4_copies 52 = .ok (.getfield 20, 3) := by decide +kernel
theorem dX4_copies_55 : decode cX4_copies 55 = .ok (.iconst 5, 1) := by decide +kernel
theorem dX4_copies_56 : decode cX4_copies 56 = .ok (.iload_n 2, 1) := by decide +kernel
theorem dX4_copies_57 : decode cX4_copies 57 = .ok (.imul, 1) := by decide +kernel
theorem dX4_copies_58 : decode cX4_copies 58 = .ok (.iload_n 3, 1) := by decide +kernel
theorem dX4_copies_59 : decode cX4_copies 59 = .ok (.iadd, 1) := by decide +kernel
theorem dX4_copies_60 : decode cX4_copies 60 = .ok (.aload_n 0, 1) := by decide +kernel
theorem dX4_copies_61 : decode cX4_copies 61 = .ok (.getfield 20, 3) := by decide +kernel
theorem dX4_copies_64 : decode cX4_copies 64 = .ok (.iconst 5, 1) := by decide +kernel
theorem dX4_copies_65 : decode cX4_copies 65 = .ok (.iload_n 1, 1) := by decide +kernel
theorem dX4_copies_66 : decode cX4_copies 66 = .ok (.imul, 1) := by decide +kernel
theorem dX4_copies_67 : decode cX4_copies 67 = .ok (.iload_n 3, 1) := by decide +kernel
theorem dX4_copies_68 : decode cX4_copies 68 = .ok (.iadd, 1) := by decide +kernel
theorem dX4_copies_69 : decode cX4_copies 69 = .ok (.iaload, 1) := by decide +kernel
theorem dX4_copies_70 : decode cX4_copies 70 = .ok (.iastore, 1) := by decide +kernel
theorem dX4_copies_71 : decode cX4_copies 71 = .ok (.iinc 3 1, 3) := by decide +kernel
theorem dX4_copies_74 : decode cX4_copies 74 = .ok (.goto (-48), 3) := by decide +kernel
theorem dX4_copies_77 : decode cX4_copies 77 = .ok (.return_, 1) := by decide +kernel
theorem dX4_lays_0 : decode cX4_lays 0 = .ok (.aload_n 0, 1) := by decide +kernel
theorem dX4_lays_1 : decode cX4_lays 1 = .ok (.getfield 7, 3) := by decide +kernel
theorem dX4_lays_4 : decode cX4_lays 4 = .ok (.iload_n 1, 1) := by decide +kernel
theorem dX4_lays_5 : decode cX4_lays 5 = .ok (.iaload, 1) := by decide +kernel
theorem dX4_lays_6 : decode cX4_lays 6 = .ok (.istore 5, 2) := by decide +kernel
theorem dX4_lays_8 : decode cX4_lays 8 = .ok (.iload 5, 2) := by decide +kernel
theorem dX4_lays_10 : decode cX4_lays 10 = .ok (.iload_n 2, 1) := by decide +kernel
theorem dX4_lays_11 : decode cX4_lays 11 = .ok (.if_icmp .le 57, 3) := by decide +kernel
theorem dX4_lays_14 : decode cX4_lays 14 = .ok (.aload_n 0, 1) := by decide +kernel
theorem dX4_lays_15 : decode cX4_lays 15 = .ok (.getfield 17, 3) := by decide +kernel
theorem dX4_lays_18 : decode cX4_lays 18 = .ok (.iconst 5, 1) := by decide +kernel
theorem dX4_lays_19 : decode cX4_lays 19 = .ok (.iload_n 1, 1) := by decide +kernel
theorem dX4_lays_20 : decode cX4_lays 20 = .ok (.imul, 1) := by decide +kernel
theorem dX4_lays_21 : decode cX4_lays 21 = .ok (.iload 5, 2) := by decide +kernel
theorem dX4_lays_23 : decode cX4_lays 23 = .ok (.iadd, 1) := by decide +kernel
theorem dX4_lays_24 : decode cX4_lays 24 = .ok (.aload_n 0, 1) := by decide +kernel
theorem dX4_lays_25 : decode cX4_lays 25 = .ok (.getfield 17, 3) := by decide +kernel
theorem dX4_lays_28 : decode cX4_lays 28 = .ok (.iconst 5, 1) := by decide +kernel
theorem dX4_lays_29 : decode cX4_lays 29 = .ok (.iload_n 1, 1) := by decide +kernel
theorem dX4_lays_30 : decode cX4_lays 30 = .ok (.imul, 1) := by decide +kernel
theorem dX4_lays_31 : decode cX4_lays 31 = .ok (.iload 5, 2) := by decide +kernel
theorem dX4_lays_33 : decode cX4_lays 33 = .ok (.iadd, 1) := by decide +kernel
theorem dX4_lays_34 : decode cX4_lays 34 = .ok (.iconst 1, 1) := by decide +kernel
theorem dX4_lays_35 : decode cX4_lays 35 = .ok (.isub, 1) := by decide +kernel
theorem dX4_lays_36 : decode cX4_lays 36 = .ok (.iaload, 1) := by decide +kernel
theorem dX4_lays_37 : decode cX4_lays 37 = .ok (.iastore, 1) := by decide +kernel
theorem dX4_lays_38 : decode cX4_lays 38 = .ok (.aload_n 0, 1) := by decide +kernel
theorem dX4_lays_39 : decode cX4_lays 39 = .ok (.getfield 20, 3) := by decide +kernel
theorem dX4_lays_42 : decode cX4_lays 42 = .ok (.iconst 5, 1) := by decide +kernel
theorem dX4_lays_43 : decode cX4_lays 43 = .ok (.iload_n 1, 1) := by decide +kernel
theorem dX4_lays_44 : decode cX4_lays 44 = .ok (.imul, 1) := by decide +kernel
theorem dX4_lays_45 : decode cX4_lays 45 = .ok (.iload 5, 2) := by decide +kernel
theorem dX4_lays_47 : decode cX4_lays 47 = .ok (.iadd, 1) := by decide +kernel
theorem dX4_lays_48 : decode cX4_lays 48 = .ok (.aload_n 0, 1) := by decide +kernel
theorem dX4_lays_49 : decode cX4_lays 49 = .ok (.getfield 20, 3) := by decide +kernel
theorem dX4_lays_52 : decode cX4_lays 52 = .ok (.iconst 5, 1) := by decide +kernel
theorem dX4_lays_53 : decode cX4_lays 53 = .ok (.iload_n 1, 1) := by decide +kernel
theorem dX4_lays_54 : decode cX4_lays 54 = .ok (.imul, 1) := by decide +kernel
theorem dX4_lays_55 : decode cX4_lays 55 = .ok (.iload 5, 2) := by decide +kernel
theorem dX4_lays_57 : decode cX4_lays 57 = .ok (.iadd, 1) := by decide +kernel
theorem dX4_lays_58 : decode cX4_lays 58 = .ok (.iconst 1, 1) := by decide +kernel
theorem dX4_lays_59 : decode cX4_lays 59 = .ok (.isub, 1) := by decide +kernel
theorem dX4_lays_60 : decode cX4_lays 60 = .ok (.iaload, 1) := by decide +kernel
theorem dX4_lays_61 : decode cX4_lays 61 = .ok (.iastore, 1) := by decide +kernel
theorem dX4_lays_62 : decode cX4_lays 62 = .ok (.iinc 5 (-1), 3) := by decide +kernel
theorem dX4_lays_65 : decode cX4_lays 65 = .ok (.goto (-57), 3) := by decide +kernel
theorem dX4_lays_68 : decode cX4_lays 68 = .ok (.aload_n 0, 1) := by decide +kernel
theorem dX4_lays_69 : decode cX4_lays 69 = .ok (.getfield 17, 3) := by decide +kernel
theorem dX4_lays_72 : decode cX4_lays 72 = .ok (.iconst 5, 1) := by decide +kernel
theorem dX4_lays_73 : decode cX4_lays 73 = .ok (.iload_n 1, 1) := by decide +kernel
theorem dX4_lays_74 : decode cX4_lays 74 = .ok (.imul, 1) := by decide +kernel
theorem dX4_lays_75 : decode cX4_lays 75 = .ok (.iload_n 2, 1) := by decide +kernel
theorem dX4_lays_76 : decode cX4_lays 76 = .ok (.iadd, 1) := by decide +kernel
theorem dX4_lays_77 : decode cX4_lays 77 = .ok (.iload_n 3, 1) := by decide +kernel
theorem dX4_lays_78 : decode cX4_lays 78 = .ok (.iastore, 1) := by decide +kernel
theorem dX4_lays_79 : decode cX4_lays 79 = .ok (.aload_n 0, 1) := by decide +kernel
theorem dX4_lays_80 : decode cX4_lays 80 = .ok (.getfield 20, 3) := by decide +kernel
theorem dX4_lays_83 : decode cX4_lays 83 = .ok (.iconst 5, 1) := by decide +kernel
theorem dX4_lays_84 : decode cX4_lays 84 = .ok (.iload_n 1, 1) := by decide +kernel
theorem dX4_lays_85 : decode cX4_lays 85 = .ok (.imul, 1) := by decide +kernel
theorem dX4_lays_86 : decode cX4_lays 86 = .ok (.iload_n 2, 1) := by decide +kernel
theorem dX4_lays_87 : decode cX4_lays 87 = .ok (.iadd, 1) := by decide +kernel
theorem dX4_lays_88 : decode cX4_lays 88 = .ok (.iload 4, 2) := by decide +kernel
theorem dX4_lays_90 : decode cX4_lays 90 = .ok (.iastore, 1) := by decide +kernel
theorem dX4_lays_91 : decode cX4_lays 91 = .ok (.aload_n 0, 1) := by decide +kernel
theorem dX4_lays_92 : decode cX4_lays 92 = .ok (.getfield 7, 3) := by decide +kernel
theorem dX4_lays_95 : decode cX4_lays 95 = .ok (.iload_n 1, 1) := by decide +kernel
theorem dX4_lays_96 : decode cX4_lays 96 = .ok (.dup2, 1) := by decide +kernel
theorem dX4_lays_97 : decode cX4_lays 97 = .ok (.iaload, 1) := by decide +kernel
theorem dX4_lays_98 : decode cX4_lays 98 = .ok (.iconst 1, 1) := by decide +kernel
theorem dX4_lays_99 : decode cX4_lays 99 = .ok (.iadd, 1) := by decide +kernel
theorem dX4_lays_100 : decode cX4_lays 100 = .ok (.iastore, 1) := by decide +kernel
theorem dX4_lays_101 : decode cX4_lays 101 = .ok (.return_, 1) := by decide +kernel
theorem dX4_drops_0 : decode cX4_drops 0 = .ok (.aload_n 0, 1) := by decide +kernel
theorem dX4_drops_1 : decode cX4_drops 1 = .ok (.getfield 7, 3) := by decide +kernel
theorem dX4_drops_4 : decode cX4_drops 4 = .ok (.iload_n 1, 1) := by decide +kernel
theorem dX4_drops_5 : decode cX4_drops 5 = .ok (.dup2, 1) := by decide +kernel
theorem dX4_drops_6 : decode cX4_drops 6 = .ok (.iaload, 1) := by decide +kernel
theorem dX4_drops_7 : decode cX4_drops 7 = .ok (.iconst 1, 1) := by decide +kernel
theorem dX4_drops_8 : decode cX4_drops 8 = .ok (.isub, 1) := by decide +kernel
theorem dX4_drops_9 : decode cX4_drops 9 = .ok (.iastore, 1) := by decide +kernel
theorem dX4_drops_10 : decode cX4_drops 10 = .ok (.iload_n 2, 1) := by decide +kernel
theorem dX4_drops_11 : decode cX4_drops 11 = .ok (.istore_n 3, 1) := by decide +kernel
theorem dX4_drops_12 : decode cX4_drops 12 = .ok (.iload_n 3, 1) := by decide +kernel
theorem dX4_drops_13 : decode cX4_drops 13 = .ok (.aload_n 0, 1) := by decide +kernel
theorem dX4_drops_14 : decode cX4_drops 14 = .ok (.getfield 7, 3) := by decide +kernel
theorem dX4_drops_17 : decode cX4_drops 17 = .ok (.iload_n 1, 1) := by decide +kernel
theorem dX4_drops_18 : decode cX4_drops 18 = .ok (.iaload, 1) := by decide +kernel
theorem dX4_drops_19 : decode cX4_drops 19 = .ok (.if_icmp .ge 53, 3) := by decide +kernel
theorem dX4_drops_22 : decode cX4_drops 22 = .ok (.aload_n 0, 1) := by decide +kernel
theorem dX4_drops_23 : decode cX4_drops 23 = .ok (.getfield 17, 3) := by decide +kernel
theorem dX4_drops_26 : decode cX4_drops 26 = .ok (.iconst 5, 1) := by decide +kernel
theorem dX4_drops_27 : decode cX4_drops 27 = .ok (.iload_n 1, 1) := by decide +kernel
theorem dX4_drops_28 : decode cX4_drops 28 = .ok (.imul, 1) := by decide +kernel
theorem dX4_drops_29 : decode cX4_drops 29 = .ok (.iload_n 3, 1) := by decide +kernel
theorem dX4_drops_30 : decode cX4_drops 30 = .ok (.iadd, 1) := by decide +kernel
theorem dX4_drops_31 : decode cX4_drops 31 = .ok (.aload_n 0, 1) := by decide +kernel
theorem dX4_drops_32 : decode cX4_drops 32 = .ok (.getfield 17, 3) := by decide +kernel
theorem dX4_drops_35 : decode cX4_drops 35 = .ok (.iconst 5, 1) := by decide +kernel
theorem dX4_drops_36 : decode cX4_drops 36 = .ok (.iload_n 1, 1) := by decide +kernel
theorem dX4_drops_37 : decode cX4_drops 37 = .ok (.imul, 1) := by decide +kernel
theorem dX4_drops_38 : decode cX4_drops 38 = .ok (.iload_n 3, 1) := by decide +kernel
theorem dX4_drops_39 : decode cX4_drops 39 = .ok (.iadd, 1) := by decide +kernel
theorem dX4_drops_40 : decode cX4_drops 40 = .ok (.iconst 1, 1) := by decide +kernel
theorem dX4_drops_41 : decode cX4_drops 41 = .ok (.iadd, 1) := by decide +kernel
theorem dX4_drops_42 : decode cX4_drops 42 = .ok (.iaload, 1) := by decide +kernel
theorem dX4_drops_43 : decode cX4_drops 43 = .ok (.iastore, 1) := by decide +kernel
theorem dX4_drops_44 : decode cX4_drops 44 = .ok (.aload_n 0, 1) := by decide +kernel
theorem dX4_drops_45 : decode cX4_drops 45 = .ok (.getfield 20, 3) := by decide +kernel
theorem dX4_drops_48 : decode cX4_drops 48 = .ok (.iconst 5, 1) := by decide +kernel
theorem dX4_drops_49 : decode cX4_drops 49 = .ok (.iload_n 1, 1) := by decide +kernel
theorem dX4_drops_50 : decode cX4_drops 50 = .ok (.imul, 1) := by decide +kernel
theorem dX4_drops_51 : decode cX4_drops 51 = .ok (.iload_n 3, 1) := by decide +kernel
theorem dX4_drops_52 : decode cX4_drops 52 = .ok (.iadd, 1) := by decide +kernel
theorem dX4_drops_53 : decode cX4_drops 53 = .ok (.aload_n 0, 1) := by decide +kernel
theorem dX4_drops_54 : decode cX4_drops 54 = .ok (.getfield 20, 3) := by decide +kernel
theorem dX4_drops_57 : decode cX4_drops 57 = .ok (.iconst 5, 1) := by decide +kernel
theorem dX4_drops_58 : decode cX4_drops 58 = .ok (.iload_n 1, 1) := by decide +kernel
theorem dX4_drops_59 : decode cX4_drops 59 = .ok (.imul, 1) := by decide +kernel
theorem dX4_drops_60 : decode cX4_drops 60 = .ok (.iload_n 3, 1) := by decide +kernel
theorem dX4_drops_61 : decode cX4_drops 61 = .ok (.iadd, 1) := by decide +kernel
theorem dX4_drops_62 : decode cX4_drops 62 = .ok (.iconst 1, 1) := by decide +kernel
theorem dX4_drops_63 : decode cX4_drops 63 = .ok (.iadd, 1) := by decide +kernel
theorem dX4_drops_64 : decode cX4_drops 64 = .ok (.iaload, 1) := by decide +kernel
theorem dX4_drops_65 : decode cX4_drops 65 = .ok (.iastore, 1) := by decide +kernel
theorem dX4_drops_66 : decode cX4_drops 66 = .ok (.iinc 3 1, 3) := by decide +kernel
theorem dX4_drops_69 : decode cX4_drops 69 = .ok (.goto (-57), 3) := by decide +kernel
theorem dX4_drops_72 : decode cX4_drops 72 = .ok (.return_, 1) := by decide +kernel
theorem dX4_moves_0 : decode cX4_moves 0 = .ok (.iload_n 2, 1) := by decide +kernel
theorem dX4_moves_1 : decode cX4_moves 1 = .ok (.istore 4, 2) := by decide +kernel
theorem dX4_moves_3 : decode cX4_moves 3 = .ok (.iload 4, 2) := by decide +kernel
theorem dX4_moves_5 : decode cX4_moves 5 = .ok (.aload_n 0, 1) := by decide +kernel
theorem dX4_moves_6 : decode cX4_moves 6 = .ok (.getfield 7, 3) := by decide +kernel
theorem dX4_moves_9 : decode cX4_moves 9 = .ok (.iload_n 1, 1) := by decide +kernel
theorem dX4_moves_10 : decode cX4_moves 10 = .ok (.iaload, 1) := by decide +kernel
theorem dX4_moves_11 : decode cX4_moves 11 = .ok (.if_icmp .ge 42, 3) := by decide +kernel
theorem dX4_moves_14 : decode cX4_moves 14 = .ok (.aload_n 0, 1) := by decide +kernel
theorem dX4_moves_15 : decode cX4_moves 15 = .ok (.iload_n 3, 1) := by decide +kernel
theorem dX4_moves_16 : decode cX4_moves 16 = .ok (.aload_n 0, 1) := by decide +kernel
theorem dX4_moves_17 : decode cX4_moves 17 = .ok (.getfield 7, 3) := by decide +kernel
theorem dX4_moves_20 : decode cX4_moves 20 = .ok (.iload_n 3, 1) := by decide +kernel
theorem dX4_moves_21 : decode cX4_moves 21 = .ok (.iaload, 1) := by decide +kernel
theorem dX4_moves_22 : decode cX4_moves 22 = .ok (.aload_n 0, 1) := by decide +kernel
theorem dX4_moves_23 : decode cX4_moves 23 = .ok (.getfield 17, 3) := by decide +kernel
theorem dX4_moves_26 : decode cX4_moves 26 = .ok (.iconst 5, 1) := by decide +kernel
theorem dX4_moves_27 : decode cX4_moves 27 = .ok (.iload_n 1, 1) := by decide +kernel
theorem dX4_moves_28 : decode cX4_moves 28 = .ok (.imul, 1) := by decide +kernel
theorem dX4_moves_29 : decode cX4_moves 29 = .ok (.iload 4, 2) := by decide +kernel
theorem dX4_moves_31 : decode cX4_moves 31 = .ok (.iadd, 1) := by decide +kernel
theorem dX4_moves_32 : decode cX4_moves 32 = .ok (.iaload, 1) := by decide +kernel
theorem dX4_moves_33 : decode cX4_moves 33 = .ok (.aload_n 0, 1) := by decide +kernel
theorem dX4_moves_34 : decode cX4_moves 34 = .ok (.getfield 20, 3) := by decide +kernel
theorem dX4_moves_37 : decode cX4_moves 37 = .ok (.iconst 5, 1) := by decide +kernel
theorem dX4_moves_38 : decode cX4_moves 38 = .ok (.iload_n 1, 1) := by decide +kernel
theorem dX4_moves_39 : decode cX4_moves 39 = .ok (.imul, 1) := by decide +kernel
theorem dX4_moves_40 : decode cX4_moves 40 = .ok (.iload 4, 2) := by decide +kernel
theorem dX4_moves_42 : decode cX4_moves 42 = .ok (.iadd, 1) := by decide +kernel
theorem dX4_moves_43 : decode cX4_moves 43 = .ok (.iaload, 1) := by decide +kernel
theorem dX4_moves_44 : decode cX4_moves 44 = .ok (.invokevirtual 84, 3) := by decide +kernel
theorem dX4_moves_47 : decode cX4_moves 47 = .ok (.iinc 4 1, 3) := by decide +kernel
theorem dX4_moves_50 : decode cX4_moves 50 = .ok (.goto (-47), 3) := by decide +kernel
theorem dX4_moves_53 : decode cX4_moves 53 = .ok (.aload_n 0, 1) := by decide +kernel
theorem dX4_moves_54 : decode cX4_moves 54 = .ok (.getfield 7, 3) := by decide +kernel
theorem dX4_moves_57 : decode cX4_moves 57 = .ok (.iload_n 1, 1) := by decide +kernel
theorem dX4_moves_58 : decode cX4_moves 58 = .ok (.iload_n 2, 1) := by decide +kernel
theorem dX4_moves_59 : decode cX4_moves 59 = .ok (.iastore, 1) := by decide +kernel
theorem dX4_moves_60 : decode cX4_moves 60 = .ok (.return_, 1) := by decide +kernel
theorem dX4_leastKey_0 : decode cX4_leastKey 0 = .ok (.iload_n 1, 1) := by decide +kernel
theorem dX4_leastKey_1 : decode cX4_leastKey 1 = .ok (.istore_n 2, 1) := by decide +kernel
theorem dX4_leastKey_2 : decode cX4_leastKey 2 = .ok (.aload_n 0, 1) := by decide +kernel
theorem dX4_leastKey_3 : decode cX4_leastKey 3 = .ok (.getfield 13, 3) := by decide +kernel
theorem dX4_leastKey_6 : decode cX4_leastKey 6 = .ok (.iload_n 2, 1) := by decide +kernel
theorem dX4_leastKey_7 : decode cX4_leastKey 7 = .ok (.baload, 1) := by decide +kernel
theorem dX4_leastKey_8 : decode cX4_leastKey 8 = .ok (.ifCond .eq 15, 3) := by decide +kernel
theorem dX4_leastKey_11 : decode cX4_leastKey 11 = .ok (.aload_n 0, 1) := by decide +kernel
theorem dX4_leastKey_12 : decode cX4_leastKey 12 = .ok (.getfield 17, 3) := by decide +kernel
theorem dX4_leastKey_15 : decode cX4_leastKey 15 = .ok (.iconst 5, 1) := by decide +kernel
theorem dX4_leastKey_16 : decode cX4_leastKey 16 = .ok (.iload_n 2, 1) := by decide +kernel
theorem dX4_leastKey_17 : decode cX4_leastKey 17 = .ok (.imul, 1) := by decide +kernel
theorem dX4_leastKey_18 : decode cX4_leastKey 18 = .ok (.iaload, 1) := by decide +kernel
theorem dX4_leastKey_19 : decode cX4_leastKey 19 = .ok (.istore_n 2, 1) := by decide +kernel
theorem dX4_leastKey_20 : decode cX4_leastKey 20 = .ok (.goto (-18), 3) := by decide +kernel
theorem dX4_leastKey_23 : decode cX4_leastKey 23 = .ok (.aload_n 0, 1) := by decide +kernel
theorem dX4_leastKey_24 : decode cX4_leastKey 24 = .ok (.getfield 17, 3) := by decide +kernel
theorem dX4_leastKey_27 : decode cX4_leastKey 27 = .ok (.iconst 5, 1) := by decide +kernel
theorem dX4_leastKey_28 : decode cX4_leastKey 28 = .ok (.iload_n 2, 1) := by decide +kernel
theorem dX4_leastKey_29 : decode cX4_leastKey 29 = .ok (.imul, 1) := by decide +kernel
theorem dX4_leastKey_30 : decode cX4_leastKey 30 = .ok (.iaload, 1) := by decide +kernel
theorem dX4_leastKey_31 : decode cX4_leastKey 31 = .ok (.ireturn, 1) := by decide +kernel
theorem dX4_keyOf_0 : decode cX4_keyOf 0 = .ok (.aload_n 0, 1) := by decide +kernel
theorem dX4_keyOf_1 : decode cX4_keyOf 1 = .ok (.getfield 13, 3) := by decide +kernel
theorem dX4_keyOf_4 : decode cX4_keyOf 4 = .ok (.iload_n 1, 1) := by decide +kernel
theorem dX4_keyOf_5 : decode cX4_keyOf 5 = .ok (.baload, 1) := by decide +kernel
theorem dX4_keyOf_6 : decode cX4_keyOf 6 = .ok (.ifCond .eq 20, 3) := by decide +kernel
theorem dX4_keyOf_9 : decode cX4_keyOf 9 = .ok (.aload_n 0, 1) := by decide +kernel
theorem dX4_keyOf_10 : decode cX4_keyOf 10 = .ok (.aload_n 0, 1) := by decide +kernel
theorem dX4_keyOf_11 : decode cX4_keyOf 11 = .ok (.getfield 17, 3) := by decide +kernel
theorem dX4_keyOf_14 : decode cX4_keyOf 14 = .ok (.iconst 5, 1) := by decide +kernel
theorem dX4_keyOf_15 : decode cX4_keyOf 15 = .ok (.iload_n 1, 1) := by decide +kernel
theorem dX4_keyOf_16 : decode cX4_keyOf 16 = .ok (.imul, 1) := by decide +kernel
theorem dX4_keyOf_17 : decode cX4_keyOf 17 = .ok (.iload_n 2, 1) := by decide +kernel
theorem dX4_keyOf_18 : decode cX4_keyOf 18 = .ok (.iadd, 1) := by decide +kernel
theorem dX4_keyOf_19 : decode cX4_keyOf 19 = .ok (.iaload, 1) := by decide +kernel
theorem dX4_keyOf_20 : decode cX4_keyOf 20 = .ok (.invokevirtual 88, 3) := by decide +kernel
theorem dX4_keyOf_23 : decode cX4_keyOf 23 = .ok (.goto 13, 3) := by decide +kernel
theorem dX4_keyOf_26 : decode cX4_keyOf 26 = .ok (.aload_n 0, 1) := by decide +kernel
theorem dX4_keyOf_27 : decode cX4_keyOf 27 = .ok (.getfield 17, 3) := by decide +kernel
theorem dX4_keyOf_30 : decode cX4_keyOf 30 = .ok (.iconst 5, 1) := by decide +kernel
theorem dX4_keyOf_31 : decode cX4_keyOf 31 = .ok (.iload_n 1, 1) := by decide +kernel
theorem dX4_keyOf_32 : decode cX4_keyOf 32 = .ok (.imul, 1) := by decide +kernel
theorem dX4_keyOf_33 : decode cX4_keyOf 33 = .ok (.iload_n 2, 1) := by decide +kernel
theorem dX4_keyOf_34 : decode cX4_keyOf 34 = .ok (.iadd, 1) := by decide +kernel
theorem dX4_keyOf_35 : decode cX4_keyOf 35 = .ok (.iaload, 1) := by decide +kernel
theorem dX4_keyOf_36 : decode cX4_keyOf 36 = .ok (.ireturn, 1) := by decide +kernel
theorem dX4_finds_0 : decode cX4_finds 0 = .ok (.aload_n 0, 1) := by decide +kernel
theorem dX4_finds_1 : decode cX4_finds 1 = .ok (.iconst 0, 1) := by decide +kernel
theorem dX4_finds_2 : decode cX4_finds 2 = .ok (.putfield 91, 3) := by decide +kernel
theorem dX4_finds_5 : decode cX4_finds 5 = .ok (.aload_n 0, 1) := by decide +kernel
theorem dX4_finds_6 : decode cX4_finds 6 = .ok (.getfield 46, 3) := by decide +kernel
theorem dX4_finds_9 : decode cX4_finds 9 = .ok (.iconst 0, 1) := by decide +kernel
theorem dX4_finds_10 : decode cX4_finds 10 = .ok (.iload_n 1, 1) := by decide +kernel
theorem dX4_finds_11 : decode cX4_finds 11 = .ok (.iastore, 1) := by decide +kernel
theorem dX4_finds_12 : decode cX4_finds 12 = .ok (.aload_n 0, 1) := by decide +kernel
theorem dX4_finds_13 : decode cX4_finds 13 = .ok (.getfield 13, 3) := by decide +kernel
theorem dX4_finds_16 : decode cX4_finds 16 = .ok (.aload_n 0, 1) := by decide +kernel
theorem dX4_finds_17 : decode cX4_finds 17 = .ok (.getfield 46, 3) := by decide +kernel
theorem dX4_finds_20 : decode cX4_finds 20 = .ok (.aload_n 0, 1) := by decide +kernel
theorem dX4_finds_21 : decode cX4_finds 21 = .ok (.getfield 91, 3) := by decide +kernel
theorem dX4_finds_24 : decode cX4_finds 24 = .ok (.iaload, 1) := by decide +kernel
theorem dX4_finds_25 : decode cX4_finds 25 = .ok (.baload, 1) := by decide +kernel
theorem dX4_finds_26 : decode cX4_finds 26 = .ok (.ifCond .eq 89, 3) := by decide +kernel
theorem dX4_finds_29 : decode cX4_finds 29 = .ok (.aload_n 0, 1) := by decide +kernel
theorem dX4_finds_30 : decode cX4_finds 30 = .ok (.getfield 46, 3) := by decide +kernel
theorem dX4_finds_33 : decode cX4_finds 33 = .ok (.aload_n 0, 1) := by decide +kernel
theorem dX4_finds_34 : decode cX4_finds 34 = .ok (.getfield 91, 3) := by decide +kernel
theorem dX4_finds_37 : decode cX4_finds 37 = .ok (.iaload, 1) := by decide +kernel
theorem dX4_finds_38 : decode cX4_finds 38 = .ok (.istore_n 3, 1) := by decide +kernel
theorem dX4_finds_39 : decode cX4_finds 39 = .ok (.aload_n 0, 1) := by decide +kernel
theorem dX4_finds_40 : decode cX4_finds 40 = .ok (.getfield 7, 3) := by decide +kernel
theorem dX4_finds_43 : decode cX4_finds 43 = .ok (.iload_n 3, 1) := by decide +kernel
theorem dX4_finds_44 : decode cX4_finds 44 = .ok (.iaload, 1) := by decide +kernel
theorem dX4_finds_45 : decode cX4_finds 45 = .ok (.iconst 1, 1) := by decide +kernel
theorem dX4_finds_46 : decode cX4_finds 46 = .ok (.isub, 1) := by decide +kernel
theorem dX4_finds_47 : decode cX4_finds 47 = .ok (.istore 4, 2) := by decide +kernel
theorem dX4_finds_49 : decode cX4_finds 49 = .ok (.iload 4, 2) := by decide +kernel
theorem dX4_finds_51 : decode cX4_finds 51 = .ok (.ifCond .le 20, 3) := by decide +kernel
theorem dX4_finds_54 : decode cX4_finds 54 = .ok (.aload_n 0, 1) := by decide +kernel
theorem dX4_finds_55 : decode cX4_finds 55 = .ok (.iload_n 3, 1) := by decide +kernel
theorem dX4_finds_56 : decode cX4_finds 56 = .ok (.iload 4, 2) := by decide +kernel
theorem dX4_finds_58 : decode cX4_finds 58 = .ok (.invokevirtual 94, 3) := by decide +kernel
theorem dX4_finds_61 : decode cX4_finds 61 = .ok (.iload_n 2, 1) := by decide +kernel
theorem dX4_finds_62 : decode cX4_finds 62 = .ok (.if_icmp .le 9, 3) := by decide +kernel
theorem dX4_finds_65 : decode cX4_finds 65 = .ok (.iinc 4 (-1), 3) := by decide +kernel
theorem dX4_finds_68 : decode cX4_finds 68 = .ok (.goto (-19), 3) := by decide +kernel
theorem dX4_finds_71 : decode cX4_finds 71 = .ok (.aload_n 0, 1) := by decide +kernel
theorem dX4_finds_72 : decode cX4_finds 72 = .ok (.getfield 49, 3) := by decide +kernel
theorem dX4_finds_75 : decode cX4_finds 75 = .ok (.aload_n 0, 1) := by decide +kernel
theorem dX4_finds_76 : decode cX4_finds 76 = .ok (.getfield 91, 3) := by decide +kernel
theorem dX4_finds_79 : decode cX4_finds 79 = .ok (.iload 4, 2) := by decide +kernel
theorem dX4_finds_81 : decode cX4_finds 81 = .ok (.iastore, 1) := by decide +kernel
theorem dX4_finds_82 : decode cX4_finds 82 = .ok (.aload_n 0, 1) := by decide +kernel
theorem dX4_finds_83 : decode cX4_finds 83 = .ok (.dup, 1) := by decide +kernel
theorem dX4_finds_84 : decode cX4_finds 84 = .ok (.getfield 91, 3) := by decide +kernel
theorem dX4_finds_87 : decode cX4_finds 87 = .ok (.iconst 1, 1) := by decide +kernel
theorem dX4_finds_88 : decode cX4_finds 88 = .ok (.iadd, 1) := by decide +kernel
theorem dX4_finds_89 : decode cX4_finds 89 = .ok (.putfield 91, 3) := by decide +kernel
theorem dX4_finds_92 : decode cX4_finds 92 = .ok (.aload_n 0, 1) := by decide +kernel
theorem dX4_finds_93 : decode cX4_finds 93 = .ok (.getfield 46, 3) := by decide +kernel
theorem dX4_finds_96 : decode cX4_finds 96 = .ok (.aload_n 0, 1) := by decide +kernel
theorem dX4_finds_97 : decode cX4_finds 97 = .ok (.getfield 91, 3) := by decide +kernel
theorem dX4_finds_100 : decode cX4_finds 100 = .ok (.aload_n 0, 1) := by decide +kernel
theorem dX4_finds_101 : decode cX4_finds 101 = .ok (.getfield 17, 3) := by decide +kernel
theorem dX4_finds_104 : decode cX4_finds 104 = .ok (.iconst 5, 1) := by decide +kernel
theorem dX4_finds_105 : decode cX4_finds 105 = .ok (.iload_n 3, 1) := by decide +kernel
theorem dX4_finds_106 : decode cX4_finds 106 = .ok (.imul, 1) := by decide +kernel
theorem dX4_finds_107 : decode cX4_finds 107 = .ok (.iload 4, 2) := by decide +kernel
theorem dX4_finds_109 : decode cX4_finds 109 = .ok (.iadd, 1) := by decide +kernel
theorem dX4_finds_110 : decode cX4_finds 110 = .ok (.iaload, 1) := by decide +kernel
theorem dX4_finds_111 : decode cX4_finds 111 = .ok (.iastore, 1) := by decide +kernel
theorem dX4_finds_112 : decode cX4_finds 112 = .ok (.goto (-100), 3) := by decide +kernel
theorem dX4_finds_115 : decode cX4_finds 115 = .ok (.return_, 1) := by decide +kernel
theorem dX4_place_0 : decode cX4_place 0 = .ok (.iconst 0, 1) := by decide +kernel
theorem dX4_place_1 : decode cX4_place 1 = .ok (.istore_n 3, 1) := by decide +kernel
theorem dX4_place_2 : decode cX4_place 2 = .ok (.iload_n 3, 1) := by decide +kernel
theorem dX4_place_3 : decode cX4_place 3 = .ok (.aload_n 0, 1) := by decide +kernel
theorem dX4_place_4 : decode cX4_place 4 = .ok (.getfield 7, 3) := by decide +kernel
theorem dX4_place_7 : decode cX4_place 7 = .ok (.iload_n 1, 1) := by decide +kernel
theorem dX4_place_8 : decode cX4_place 8 = .ok (.iaload, 1) := by decide +kernel
theorem dX4_place_9 : decode cX4_place 9 = .ok (.if_icmp .ge 23, 3) := by decide +kernel
theorem dX4_place_12 : decode cX4_place 12 = .ok (.aload_n 0, 1) := by decide +kernel
theorem dX4_place_13 : decode cX4_place 13 = .ok (.getfield 17, 3) := by decide +kernel
theorem dX4_place_16 : decode cX4_place 16 = .ok (.iconst 5, 1) := by decide +kernel
theorem dX4_place_17 : decode cX4_place 17 = .ok (.iload_n 1, 1) := by decide +kernel
theorem dX4_place_18 : decode cX4_place 18 = .ok (.imul, 1) := by decide +kernel
theorem dX4_place_19 : decode cX4_place 19 = .ok (.iload_n 3, 1) := by decide +kernel
theorem dX4_place_20 : decode cX4_place 20 = .ok (.iadd, 1) := by decide +kernel
theorem dX4_place_21 : decode cX4_place 21 = .ok (.iaload, 1) := by decide +kernel
theorem dX4_place_22 : decode cX4_place 22 = .ok (.iload_n 2, 1) := by decide +kernel
theorem dX4_place_23 : decode cX4_place 23 = .ok (.if_icmp .ge 9, 3) := by decide +kernel
theorem dX4_place_26 : decode cX4_place 26 = .ok (.iinc 3 1, 3) := by decide +kernel
theorem dX4_place_29 : decode cX4_place 29 = .ok (.goto (-27), 3) := by decide +kernel
theorem dX4_place_32 : decode cX4_place 32 = .ok (.iload_n 3, 1) := by decide +kernel
theorem dX4_place_33 : decode cX4_place 33 = .ok (.ireturn, 1) := by decide +kernel
theorem dX4_has_0 : decode cX4_has 0 = .ok (.iload_n 2, 1) := by decide +kernel
theorem dX4_has_1 : decode cX4_has 1 = .ok (.aload_n 0, 1) := by decide +kernel
theorem dX4_has_2 : decode cX4_has 2 = .ok (.getfield 7, 3) := by decide +kernel
theorem dX4_has_5 : decode cX4_has 5 = .ok (.iload_n 1, 1) := by decide +kernel
theorem dX4_has_6 : decode cX4_has 6 = .ok (.iaload, 1) := by decide +kernel
theorem dX4_has_7 : decode cX4_has 7 = .ok (.if_icmp .ge 21, 3) := by decide +kernel
theorem dX4_has_10 : decode cX4_has 10 = .ok (.aload_n 0, 1) := by decide +kernel
theorem dX4_has_11 : decode cX4_has 11 = .ok (.getfield 17, 3) := by decide +kernel
theorem dX4_has_14 : decode cX4_has 14 = .ok (.iconst 5, 1) := by decide +kernel
theorem dX4_has_15 : decode cX4_has 15 = .ok (.iload_n 1, 1) := by decide +kernel
theorem dX4_has_16 : decode cX4_has 16 = .ok (.imul, 1) := by decide +kernel
theorem dX4_has_17 : decode cX4_has 17 = .ok (.iload_n 2, 1) := by decide +kernel
theorem dX4_has_18 : decode cX4_has 18 = .ok (.iadd, 1) := by decide +kernel
theorem dX4_has_19 : decode cX4_has 19 = .ok (.iaload, 1) := by decide +kernel
theorem dX4_has_20 : decode cX4_has 20 = .ok (.iload_n 3, 1) := by decide +kernel
theorem dX4_has_21 : decode cX4_has 21 = .ok (.if_icmp .ne 7, 3) := by decide +kernel
theorem dX4_has_24 : decode cX4_has 24 = .ok (.iconst 1, 1) := by decide +kernel
theorem dX4_has_25 : decode cX4_has 25 = .ok (.goto 4, 3) := by decide +kernel
theorem dX4_has_28 : decode cX4_has 28 = .ok (.iconst 0, 1) := by decide +kernel
theorem dX4_has_29 : decode cX4_has 29 = .ok (.ireturn, 1) := by decide +kernel
theorem dX4_own_0 : decode cX4_own 0 = .ok (.aload_n 0, 1) := by decide +kernel
theorem dX4_own_1 : decode cX4_own 1 = .ok (.getfield 17, 3) := by decide +kernel
theorem dX4_own_4 : decode cX4_own 4 = .ok (.iconst 5, 1) := by decide +kernel
theorem dX4_own_5 : decode cX4_own 5 = .ok (.iload_n 1, 1) := by decide +kernel
theorem dX4_own_6 : decode cX4_own 6 = .ok (.imul, 1) := by decide +kernel
theorem dX4_own_7 : decode cX4_own 7 = .ok (.iload_n 2, 1) := by decide +kernel
theorem dX4_own_8 : decode cX4_own 8 = .ok (.iadd, 1) := by decide +kernel
theorem dX4_own_9 : decode cX4_own 9 = .ok (.iaload, 1) := by decide +kernel
theorem dX4_own_10 : decode cX4_own 10 = .ok (.istore_n 3, 1) := by decide +kernel
theorem dX4_own_11 : decode cX4_own 11 = .ok (.aload_n 0, 1) := by decide +kernel
theorem dX4_own_12 : decode cX4_own 12 = .ok (.getfield 23, 3) := by decide +kernel
theorem dX4_own_15 : decode cX4_own 15 = .ok (.iload_n 3, 1) := by decide +kernel
theorem dX4_own_16 : decode cX4_own 16 = .ok (.baload, 1) := by decide +kernel
theorem dX4_own_17 : decode cX4_own 17 = .ok (.ifCond .eq 5, 3) := by decide +kernel
theorem dX4_own_20 : decode cX4_own 20 = .ok (.iload_n 3, 1) := by decide +kernel
theorem dX4_own_21 : decode cX4_own 21 = .ok (.ireturn, 1) := by decide +kernel
theorem dX4_own_22 : decode cX4_own 22 = .ok (.aload_n 0, 1) := by decide +kernel
theorem dX4_own_23 : decode cX4_own 23 = .ok (.iconst (-1), 1) := by decide +kernel
theorem dX4_own_24 : decode cX4_own 24 = .ok (.invokevirtual 98, 3) := by decide +kernel
theorem dX4_own_27 : decode cX4_own 27 = .ok (.istore 4, 2) := by decide +kernel
theorem dX4_own_29 : decode cX4_own 29 = .ok (.aload_n 0, 1) := by decide +kernel
theorem dX4_own_30 : decode cX4_own 30 = .ok (.iload_n 3, 1) := by decide +kernel
theorem dX4_own_31 : decode cX4_own 31 = .ok (.iload 4, 2) := by decide +kernel
theorem dX4_own_33 : decode cX4_own 33 = .ok (.invokevirtual 101, 3) := by decide +kernel
theorem dX4_own_36 : decode cX4_own 36 = .ok (.aload_n 0, 1) := by decide +kernel
theorem dX4_own_37 : decode cX4_own 37 = .ok (.getfield 17, 3) := by decide +kernel
theorem dX4_own_40 : decode cX4_own 40 = .ok (.iconst 5, 1) := by decide +kernel
theorem dX4_own_41 : decode cX4_own 41 = .ok (.iload_n 1, 1) := by decide +kernel
theorem dX4_own_42 : decode cX4_own 42 = .ok (.imul, 1) := by decide +kernel
theorem dX4_own_43 : decode cX4_own 43 = .ok (.iload_n 2, 1) := by decide +kernel
theorem dX4_own_44 : decode cX4_own 44 = .ok (.iadd, 1) := by decide +kernel
theorem dX4_own_45 : decode cX4_own 45 = .ok (.iload 4, 2) := by decide +kernel
theorem dX4_own_47 : decode cX4_own 47 = .ok (.iastore, 1) := by decide +kernel
theorem dX4_own_48 : decode cX4_own 48 = .ok (.iload 4, 2) := by decide +kernel
theorem dX4_own_50 : decode cX4_own 50 = .ok (.ireturn, 1) := by decide +kernel
theorem dX4_writesWay_0 : decode cX4_writesWay 0 = .ok (.aload_n 0, 1) := by decide +kernel
theorem dX4_writesWay_1 : decode cX4_writesWay 1 = .ok (.getfield 23, 3) := by decide +kernel
theorem dX4_writesWay_4 : decode cX4_writesWay 4 = .ok (.aload_n 0, 1) := by decide +kernel
theorem dX4_writesWay_5 : decode cX4_writesWay 5 = .ok (.getfield 32, 3) := by decide +kernel
theorem dX4_writesWay_8 : decode cX4_writesWay 8 = .ok (.baload, 1) := by decide +kernel
theorem dX4_writesWay_9 : decode cX4_writesWay 9 = .ok (.ifCond .ne 23, 3) := by decide +kernel
theorem dX4_writesWay_12 : decode cX4_writesWay 12 = .ok (.aload_n 0, 1) := by decide +kernel
theorem dX4_writesWay_13 : decode cX4_writesWay 13 = .ok (.iconst (-1), 1) := by decide +kernel
theorem dX4_writesWay_14 : decode cX4_writesWay 14 = .ok (.invokevirtual 98, 3) := by decide +kernel
theorem dX4_writesWay_17 : decode cX4_writesWay 17 = .ok (.istore_n 1, 1) := by decide +kernel
theorem dX4_writesWay_18 : decode cX4_writesWay 18 = .ok (.aload_n 0, 1) := by decide +kernel
theorem dX4_writesWay_19 : decode cX4_writesWay 19 = .ok (.aload_n 0, 1) := by decide +kernel
theorem dX4_writesWay_20 : decode cX4_writesWay 20 = .ok (.getfield 32, 3) := by decide +kernel
theorem dX4_writesWay_23 : decode cX4_writesWay 23 = .ok (.iload_n 1, 1) := by decide +kernel
theorem dX4_writesWay_24 : decode cX4_writesWay 24 = .ok (.invokevirtual 101, 3) := by decide +kernel
theorem dX4_writesWay_27 : decode cX4_writesWay 27 = .ok (.aload_n 0, 1) := by decide +kernel
theorem dX4_writesWay_28 : decode cX4_writesWay 28 = .ok (.iload_n 1, 1) := by decide +kernel
theorem dX4_writesWay_29 : decode cX4_writesWay 29 = .ok (.putfield 32, 3) := by decide +kernel
theorem dX4_writesWay_32 : decode cX4_writesWay 32 = .ok (.aload_n 0, 1) := by decide +kernel
theorem dX4_writesWay_33 : decode cX4_writesWay 33 = .ok (.getfield 46, 3) := by decide +kernel
theorem dX4_writesWay_36 : decode cX4_writesWay 36 = .ok (.iconst 0, 1) := by decide +kernel
theorem dX4_writesWay_37 : decode cX4_writesWay 37 = .ok (.aload_n 0, 1) := by decide +kernel
theorem dX4_writesWay_38 : decode cX4_writesWay 38 = .ok (.getfield 32, 3) := by decide +kernel
theorem dX4_writesWay_41 : decode cX4_writesWay 41 = .ok (.iastore, 1) := by decide +kernel
theorem dX4_writesWay_42 : decode cX4_writesWay 42 = .ok (.iconst 0, 1) := by decide +kernel
theorem dX4_writesWay_43 : decode cX4_writesWay 43 = .ok (.istore_n 1, 1) := by decide +kernel
theorem dX4_writesWay_44 : decode cX4_writesWay 44 = .ok (.iload_n 1, 1) := by decide +kernel
theorem dX4_writesWay_45 : decode cX4_writesWay 45 = .ok (.aload_n 0, 1) := by decide +kernel
theorem dX4_writesWay_46 : decode cX4_writesWay 46 = .ok (.getfield 91, 3) := by decide +kernel
theorem dX4_writesWay_49 : decode cX4_writesWay 49 = .ok (.if_icmp .ge 33, 3) := by decide +kernel
theorem dX4_writesWay_52 : decode cX4_writesWay 52 = .ok (.aload_n 0, 1) := by decide +kernel
theorem dX4_writesWay_53 : decode cX4_writesWay 53 = .ok (.getfield 46, 3) := by decide +kernel
theorem dX4_writesWay_56 : decode cX4_writesWay 56 = .ok (.iload_n 1, 1) := by decide +kernel
theorem dX4_writesWay_57 : decode cX4_writesWay 57 = .ok (.iconst 1, 1) := by decide +kernel
theorem dX4_writesWay_58 : decode cX4_writesWay 58 = .ok (.iadd, 1) := by decide +kernel
theorem dX4_writesWay_59 : decode cX4_writesWay 59 = .ok (.aload_n 0, 1) := by decide +kernel
theorem dX4_writesWay_60 : decode cX4_writesWay 60 = .ok (.aload_n 0, 1) := by decide +kernel
theorem dX4_writesWay_61 : decode cX4_writesWay 61 = .ok (.getfield 46, 3) := by decide +kernel
theorem dX4_writesWay_64 : decode cX4_writesWay 64 = .ok (.iload_n 1, 1) := by decide +kernel
theorem dX4_writesWay_65 : decode cX4_writesWay 65 = .ok (.iaload, 1) := by decide +kernel
theorem dX4_writesWay_66 : decode cX4_writesWay 66 = .ok (.aload_n 0, 1) := by decide +kernel
theorem dX4_writesWay_67 : decode cX4_writesWay 67 = .ok (.getfield 49, 3) := by decide +kernel
theorem dX4_writesWay_70 : decode cX4_writesWay 70 = .ok (.iload_n 1, 1) := by decide +kernel
theorem dX4_writesWay_71 : decode cX4_writesWay 71 = .ok (.iaload, 1) := by decide +kernel
theorem dX4_writesWay_72 : decode cX4_writesWay 72 = .ok (.invokevirtual 105, 3) := by decide +kernel
theorem dX4_writesWay_75 : decode cX4_writesWay 75 = .ok (.iastore, 1) := by decide +kernel
theorem dX4_writesWay_76 : decode cX4_writesWay 76 = .ok (.iinc 1 1, 3) := by decide +kernel
theorem dX4_writesWay_79 : decode cX4_writesWay 79 = .ok (.goto (-35), 3) := by decide +kernel
theorem dX4_writesWay_82 : decode cX4_writesWay 82 = .ok (.return_, 1) := by decide +kernel
theorem dX4_splits_0 : decode cX4_splits 0 = .ok (.aload_n 0, 1) := by decide +kernel
theorem dX4_splits_1 : decode cX4_splits 1 = .ok (.getfield 91, 3) := by decide +kernel
theorem dX4_splits_4 : decode cX4_splits 4 = .ok (.istore_n 1, 1) := by decide +kernel
theorem dX4_splits_5 : decode cX4_splits 5 = .ok (.iload_n 1, 1) := by decide +kernel
theorem dX4_splits_6 : decode cX4_splits 6 = .ok (.ifCond .lt 126, 3) := by decide +kernel
theorem dX4_splits_9 : decode cX4_splits 9 = .ok (.aload_n 0, 1) := by decide +kernel
theorem dX4_splits_10 : decode cX4_splits 10 = .ok (.getfield 7, 3) := by decide +kernel
theorem dX4_splits_13 : decode cX4_splits 13 = .ok (.aload_n 0, 1) := by decide +kernel
theorem dX4_splits_14 : decode cX4_splits 14 = .ok (.getfield 46, 3) := by decide +kernel
theorem dX4_splits_17 : decode cX4_splits 17 = .ok (.iload_n 1, 1) := by decide +kernel
theorem dX4_splits_18 : decode cX4_splits 18 = .ok (.iaload, 1) := by decide +kernel
theorem dX4_splits_19 : decode cX4_splits 19 = .ok (.iaload, 1) := by decide +kernel
theorem dX4_splits_20 : decode cX4_splits 20 = .ok (.iconst 5, 1) := by decide +kernel
theorem dX4_splits_21 : decode cX4_splits 21 = .ok (.if_icmp .ne 111, 3) := by decide +kernel
theorem dX4_splits_24 : decode cX4_splits 24 = .ok (.aload_n 0, 1) := by decide +kernel
theorem dX4_splits_25 : decode cX4_splits 25 = .ok (.getfield 46, 3) := by decide +kernel
theorem dX4_splits_28 : decode cX4_splits 28 = .ok (.iload_n 1, 1) := by decide +kernel
theorem dX4_splits_29 : decode cX4_splits 29 = .ok (.iaload, 1) := by decide +kernel
theorem dX4_splits_30 : decode cX4_splits 30 = .ok (.istore_n 2, 1) := by decide +kernel
theorem dX4_splits_31 : decode cX4_splits 31 = .ok (.aload_n 0, 1) := by decide +kernel
theorem dX4_splits_32 : decode cX4_splits 32 = .ok (.iconst (-1), 1) := by decide +kernel
theorem dX4_splits_33 : decode cX4_splits 33 = .ok (.invokevirtual 98, 3) := by decide +kernel
theorem dX4_splits_36 : decode cX4_splits 36 = .ok (.istore_n 3, 1) := by decide +kernel
theorem dX4_splits_37 : decode cX4_splits 37 = .ok (.aload_n 0, 1) := by decide +kernel
theorem dX4_splits_38 : decode cX4_splits 38 = .ok (.getfield 13, 3) := by decide +kernel
theorem dX4_splits_41 : decode cX4_splits 41 = .ok (.iload_n 3, 1) := by decide +kernel
theorem dX4_splits_42 : decode cX4_splits 42 = .ok (.aload_n 0, 1) := by decide +kernel
theorem dX4_splits_43 : decode cX4_splits 43 = .ok (.getfield 13, 3) := by decide +kernel
theorem dX4_splits_46 : decode cX4_splits 46 = .ok (.iload_n 2, 1) := by decide +kernel
theorem dX4_splits_47 : decode cX4_splits 47 = .ok (.baload, 1) := by decide +kernel
theorem dX4_splits_48 : decode cX4_splits 48 = .ok (.bastore, 1) := by decide +kernel
theorem dX4_splits_49 : decode cX4_splits 49 = .ok (.aload_n 0, 1) := by decide +kernel
theorem dX4_splits_50 : decode cX4_splits 50 = .ok (.iload_n 2, 1) := by decide +kernel
theorem dX4_splits_51 : decode cX4_splits 51 = .ok (.iconst 3, 1) := by decide +kernel
theorem dX4_splits_52 : decode cX4_splits 52 = .ok (.iload_n 3, 1) := by decide +kernel
theorem dX4_splits_53 : decode cX4_splits 53 = .ok (.invokevirtual 108, 3) := by decide +kernel
theorem dX4_splits_56 : decode cX4_splits 56 = .ok (.iload_n 1, 1) := by decide +kernel
theorem dX4_splits_57 : decode cX4_splits 57 = .ok (.ifCond .le 30, 3) := by decide +kernel
theorem dX4_splits_60 : decode cX4_splits 60 = .ok (.aload_n 0, 1) := by decide +kernel
theorem dX4_splits_61 : decode cX4_splits 61 = .ok (.aload_n 0, 1) := by decide +kernel
theorem dX4_splits_62 : decode cX4_splits 62 = .ok (.getfield 46, 3) := by decide +kernel
theorem dX4_splits_65 : decode cX4_splits 65 = .ok (.iload_n 1, 1) := by decide +kernel
theorem dX4_splits_66 : decode cX4_splits 66 = .ok (.iconst 1, 1) := by decide +kernel
theorem dX4_splits_67 : decode cX4_splits 67 = .ok (.isub, 1) := by decide +kernel
theorem dX4_splits_68 : decode cX4_splits 68 = .ok (.iaload, 1) := by decide +kernel
theorem dX4_splits_69 : decode cX4_splits 69 = .ok (.aload_n 0, 1) := by decide +kernel
theorem dX4_splits_70 : decode cX4_splits 70 = .ok (.getfield 49, 3) := by decide +kernel
theorem dX4_splits_73 : decode cX4_splits 73 = .ok (.iload_n 1, 1) := by decide +kernel
theorem dX4_splits_74 : decode cX4_splits 74 = .ok (.iconst 1, 1) := by decide +kernel
theorem dX4_splits_75 : decode cX4_splits 75 = .ok (.isub, 1) := by decide +kernel
theorem dX4_splits_76 : decode cX4_splits 76 = .ok (.iaload, 1) := by decide +kernel
theorem dX4_splits_77 : decode cX4_splits 77 = .ok (.iconst 1, 1) := by decide +kernel
theorem dX4_splits_78 : decode cX4_splits 78 = .ok (.iadd, 1) := by decide +kernel
theorem dX4_splits_79 : decode cX4_splits 79 = .ok (.iload_n 3, 1) := by decide +kernel
theorem dX4_splits_80 : decode cX4_splits 80 = .ok (.iconst 0, 1) := by decide +kernel
theorem dX4_splits_81 : decode cX4_splits 81 = .ok (.invokevirtual 84, 3) := by decide +kernel
theorem dX4_splits_84 : decode cX4_splits 84 = .ok (.goto 42, 3) := by decide +kernel
theorem dX4_splits_87 : decode cX4_splits 87 = .ok (.aload_n 0, 1) := by decide +kernel
theorem dX4_splits_88 : decode cX4_splits 88 = .ok (.iload_n 3, 1) := by decide +kernel
theorem dX4_splits_89 : decode cX4_splits 89 = .ok (.invokevirtual 98, 3) := by decide +kernel
theorem dX4_splits_92 : decode cX4_splits 92 = .ok (.istore 4, 2) := by decide +kernel
theorem dX4_splits_94 : decode cX4_splits 94 = .ok (.aload_n 0, 1) := by decide +kernel
theorem dX4_splits_95 : decode cX4_splits 95 = .ok (.getfield 13, 3) := by decide +kernel
theorem dX4_splits_98 : decode cX4_splits 98 = .ok (.iload 4, 2) := by decide +kernel
theorem dX4_splits_100 : decode cX4_splits 100 = .ok (.iconst 1, 1) := by decide +kernel
theorem dX4_splits_101 : decode cX4_splits 101 = .ok (.bastore, 1) := by decide +kernel
theorem dX4_splits_102 : decode cX4_splits 102 = .ok (.aload_n 0, 1) := by decide +kernel
theorem dX4_splits_103 : decode cX4_splits 103 = .ok (.iload 4, 2) := by decide +kernel
theorem dX4_splits_105 : decode cX4_splits 105 = .ok (.iconst 0, 1) := by decide +kernel
theorem dX4_splits_106 : decode cX4_splits 106 = .ok (.iload_n 2, 1) := by decide +kernel
theorem dX4_splits_107 : decode cX4_splits 107 = .ok (.iconst 0, 1) := by decide +kernel
theorem dX4_splits_108 : decode cX4_splits 108 = .ok (.invokevirtual 84, 3) := by decide +kernel
theorem dX4_splits_111 : decode cX4_splits 111 = .ok (.aload_n 0, 1) := by decide +kernel
theorem dX4_splits_112 : decode cX4_splits 112 = .ok (.iload 4, 2) := by decide +kernel
theorem dX4_splits_114 : decode cX4_splits 114 = .ok (.iconst 1, 1) := by decide +kernel
theorem dX4_splits_115 : decode cX4_splits 115 = .ok (.iload_n 3, 1) := by decide +kernel
theorem dX4_splits_116 : decode cX4_splits 116 = .ok (.iconst 0, 1) := by decide +kernel
theorem dX4_splits_117 : decode cX4_splits 117 = .ok (.invokevirtual 84, 3) := by decide +kernel
theorem dX4_splits_120 : decode cX4_splits 120 = .ok (.aload_n 0, 1) := by decide +kernel
theorem dX4_splits_121 : decode cX4_splits 121 = .ok (.iload 4, 2) := by decide +kernel
theorem dX4_splits_123 : decode cX4_splits 123 = .ok (.putfield 32, 3) := by decide +kernel
theorem dX4_splits_126 : decode cX4_splits 126 = .ok (.iinc 1 (-1), 3) := by decide +kernel
theorem dX4_splits_129 : decode cX4_splits 129 = .ok (.goto (-124), 3) := by decide +kernel
theorem dX4_splits_132 : decode cX4_splits 132 = .ok (.return_, 1) := by decide +kernel
theorem dX4_mends_0 : decode cX4_mends 0 = .ok (.aload_n 0, 1) := by decide +kernel
theorem dX4_mends_1 : decode cX4_mends 1 = .ok (.getfield 46, 3) := by decide +kernel
theorem dX4_mends_4 : decode cX4_mends 4 = .ok (.iload_n 1, 1) := by decide +kernel
theorem dX4_mends_5 : decode cX4_mends 5 = .ok (.iaload, 1) := by decide +kernel
theorem dX4_mends_6 : decode cX4_mends 6 = .ok (.istore_n 2, 1) := by decide +kernel
theorem dX4_mends_7 : decode cX4_mends 7 = .ok (.aload_n 0, 1) := by decide +kernel
theorem dX4_mends_8 : decode cX4_mends 8 = .ok (.getfield 46, 3) := by decide +kernel
theorem dX4_mends_11 : decode cX4_mends 11 = .ok (.iload_n 1, 1) := by decide +kernel
theorem dX4_mends_12 : decode cX4_mends 12 = .ok (.iconst 1, 1) := by decide +kernel
theorem dX4_mends_13 : decode cX4_mends 13 = .ok (.isub, 1) := by decide +kernel
theorem dX4_mends_14 : decode cX4_mends 14 = .ok (.iaload, 1) := by decide +kernel
theorem dX4_mends_15 : decode cX4_mends 15 = .ok (.istore_n 3, 1) := by decide +kernel
theorem dX4_mends_16 : decode cX4_mends 16 = .ok (.aload_n 0, 1) := by decide +kernel
theorem dX4_mends_17 : decode cX4_mends 17 = .ok (.getfield 49, 3) := by decide +kernel
theorem dX4_mends_20 : decode cX4_mends 20 = .ok (.iload_n 1, 1) := by decide +kernel
theorem dX4_mends_21 : decode cX4_mends 21 = .ok (.iconst 1, 1) := by decide +kernel
theorem dX4_mends_22 : decode cX4_mends 22 = .ok (.isub, 1) := by decide +kernel
theorem dX4_mends_23 : decode cX4_mends 23 = .ok (.iaload, 1) := by decide +kernel
theorem dX4_mends_24 : decode cX4_mends 24 = .ok (.istore 4, 2) := by decide +kernel
theorem dX4_mends_26 : decode cX4_mends 26 = .ok (.iload 4, 2) := by decide +kernel
theorem dX4_mends_28 : decode cX4_mends 28 = .ok (.ifCond .le 10, 3) := by decide +kernel
theorem dX4_mends_31 : decode cX4_mends 31 = .ok (.iload 4, 2) := by decide +kernel
theorem dX4_mends_33 : decode cX4_mends 33 = .ok (.iconst 1, 1) := by decide +kernel
theorem dX4_mends_34 : decode cX4_mends 34 = .ok (.isub, 1) := by decide +kernel
theorem dX4_mends_35 : decode cX4_mends 35 = .ok (.goto 4, 3) := by decide +kernel
theorem dX4_mends_38 : decode cX4_mends 38 = .ok (.iconst 1, 1) := by decide +kernel
theorem dX4_mends_39 : decode cX4_mends 39 = .ok (.istore 5, 2) := by decide +kernel
theorem dX4_mends_41 : decode cX4_mends 41 = .ok (.aload_n 0, 1) := by decide +kernel
theorem dX4_mends_42 : decode cX4_mends 42 = .ok (.getfield 7, 3) := by decide +kernel
theorem dX4_mends_45 : decode cX4_mends 45 = .ok (.aload_n 0, 1) := by decide +kernel
theorem dX4_mends_46 : decode cX4_mends 46 = .ok (.getfield 17, 3) := by decide +kernel
theorem dX4_mends_49 : decode cX4_mends 49 = .ok (.iconst 5, 1) := by decide +kernel
theorem dX4_mends_50 : decode cX4_mends 50 = .ok (.iload_n 3, 1) := by decide +kernel
theorem dX4_mends_51 : decode cX4_mends 51 = .ok (.imul, 1) := by decide +kernel
theorem dX4_mends_52 : decode cX4_mends 52 = .ok (.iload 5, 2) := by decide +kernel
theorem dX4_mends_54 : decode cX4_mends 54 = .ok (.iadd, 1) := by decide +kernel
theorem dX4_mends_55 : decode cX4_mends 55 = .ok (.iaload, 1) := by decide +kernel
theorem dX4_mends_56 : decode cX4_mends 56 = .ok (.iaload, 1) := by decide +kernel
theorem dX4_mends_57 : decode cX4_mends 57 = .ok (.iconst 2, 1) := by decide +kernel
theorem dX4_mends_58 : decode cX4_mends 58 = .ok (.if_icmp .le 82, 3) := by decide +kernel
theorem dX4_mends_61 : decode cX4_mends 61 = .ok (.aload_n 0, 1) := by decide +kernel
theorem dX4_mends_62 : decode cX4_mends 62 = .ok (.iload_n 3, 1) := by decide +kernel
theorem dX4_mends_63 : decode cX4_mends 63 = .ok (.iload 5, 2) := by decide +kernel
theorem dX4_mends_65 : decode cX4_mends 65 = .ok (.invokevirtual 105, 3) := by decide +kernel
theorem dX4_mends_68 : decode cX4_mends 68 = .ok (.istore 6, 2) := by decide +kernel
theorem dX4_mends_70 : decode cX4_mends 70 = .ok (.iload 4, 2) := by decide +kernel
theorem dX4_mends_72 : decode cX4_mends 72 = .ok (.ifCond .le 15, 3) := by decide +kernel
theorem dX4_mends_75 : decode cX4_mends 75 = .ok (.aload_n 0, 1) := by decide +kernel
theorem dX4_mends_76 : decode cX4_mends 76 = .ok (.getfield 7, 3) := by decide +kernel
theorem dX4_mends_79 : decode cX4_mends 79 = .ok (.iload 6, 2) := by decide +kernel
theorem dX4_mends_81 : decode cX4_mends 81 = .ok (.iaload, 1) := by decide +kernel
theorem dX4_mends_82 : decode cX4_mends 82 = .ok (.iconst 1, 1) := by decide +kernel
theorem dX4_mends_83 : decode cX4_mends 83 = .ok (.isub, 1) := by decide +kernel
theorem dX4_mends_84 : decode cX4_mends 84 = .ok (.goto 4, 3) := by decide +kernel
theorem dX4_mends_87 : decode cX4_mends 87 = .ok (.iconst 0, 1) := by decide +kernel
theorem dX4_mends_88 : decode cX4_mends 88 = .ok (.istore 7, 2) := by decide +kernel
theorem dX4_mends_90 : decode cX4_mends 90 = .ok (.aload_n 0, 1) := by decide +kernel
theorem dX4_mends_91 : decode cX4_mends 91 = .ok (.iload_n 2, 1) := by decide +kernel
theorem dX4_mends_92 : decode cX4_mends 92 = .ok (.iload 4, 2) := by decide +kernel
theorem dX4_mends_94 : decode cX4_mends 94 = .ok (.ifCond .le 7, 3) := by decide +kernel
theorem dX4_mends_97 : decode cX4_mends 97 = .ok (.iconst 0, 1) := by decide +kernel
theorem dX4_mends_98 : decode cX4_mends 98 = .ok (.goto 4, 3) := by decide +kernel
theorem dX4_mends_101 : decode cX4_mends 101 = .ok (.iconst 1, 1) := by decide +kernel
theorem dX4_mends_102 : decode cX4_mends 102 = .ok (.aload_n 0, 1) := by decide +kernel
theorem dX4_mends_103 : decode cX4_mends 103 = .ok (.getfield 17, 3) := by decide +kernel
theorem dX4_mends_106 : decode cX4_mends 106 = .ok (.iconst 5, 1) := by decide +kernel
theorem dX4_mends_107 : decode cX4_mends 107 = .ok (.iload 6, 2) := by decide +kernel
theorem dX4_mends_109 : decode cX4_mends 109 = .ok (.imul, 1) := by decide +kernel
theorem dX4_mends_110 : decode cX4_mends 110 = .ok (.iload 7, 2) := by decide +kernel
theorem dX4_mends_112 : decode cX4_mends 112 = .ok (.iadd, 1) := by decide +kernel
theorem dX4_mends_113 : decode cX4_mends 113 = .ok (.iaload, 1) := by decide +kernel
theorem dX4_mends_114 : decode cX4_mends 114 = .ok (.aload_n 0, 1) := by decide +kernel
theorem dX4_mends_115 : decode cX4_mends 115 = .ok (.getfield 20, 3) := by decide +kernel
theorem dX4_mends_118 : decode cX4_mends 118 = .ok (.iconst 5, 1) := by decide +kernel
theorem dX4_mends_119 : decode cX4_mends 119 = .ok (.iload 6, 2) := by decide +kernel
theorem dX4_mends_121 : decode cX4_mends 121 = .ok (.imul, 1) := by decide +kernel
theorem dX4_mends_122 : decode cX4_mends 122 = .ok (.iload 7, 2) := by decide +kernel
theorem dX4_mends_124 : decode cX4_mends 124 = .ok (.iadd, 1) := by decide +kernel
theorem dX4_mends_125 : decode cX4_mends 125 = .ok (.iaload, 1) := by decide +kernel
theorem dX4_mends_126 : decode cX4_mends 126 = .ok (.invokevirtual 84, 3) := by decide +kernel
theorem dX4_mends_129 : decode cX4_mends 129 = .ok (.aload_n 0, 1) := by decide +kernel
theorem dX4_mends_130 : decode cX4_mends 130 = .ok (.iload 6, 2) := by decide +kernel
theorem dX4_mends_132 : decode cX4_mends 132 = .ok (.iload 7, 2) := by decide +kernel
theorem dX4_mends_134 : decode cX4_mends 134 = .ok (.invokevirtual 112, 3) := by decide +kernel
theorem dX4_mends_137 : decode cX4_mends 137 = .ok (.goto 109, 3) := by decide +kernel
theorem dX4_mends_140 : decode cX4_mends 140 = .ok (.iload 4, 2) := by decide +kernel
theorem dX4_mends_142 : decode cX4_mends 142 = .ok (.ifCond .le 30, 3) := by decide +kernel
theorem dX4_mends_145 : decode cX4_mends 145 = .ok (.aload_n 0, 1) := by decide +kernel
theorem dX4_mends_146 : decode cX4_mends 146 = .ok (.iload_n 3, 1) := by decide +kernel
theorem dX4_mends_147 : decode cX4_mends 147 = .ok (.iload 5, 2) := by decide +kernel
theorem dX4_mends_149 : decode cX4_mends 149 = .ok (.invokevirtual 105, 3) := by decide +kernel
theorem dX4_mends_152 : decode cX4_mends 152 = .ok (.istore 6, 2) := by decide +kernel
theorem dX4_mends_154 : decode cX4_mends 154 = .ok (.aload_n 0, 1) := by decide +kernel
theorem dX4_mends_155 : decode cX4_mends 155 = .ok (.iload_n 2, 1) := by decide +kernel
theorem dX4_mends_156 : decode cX4_mends 156 = .ok (.iconst 0, 1) := by decide +kernel
theorem dX4_mends_157 : decode cX4_mends 157 = .ok (.iload 6, 2) := by decide +kernel
theorem dX4_mends_159 : decode cX4_mends 159 = .ok (.invokevirtual 108, 3) := by decide +kernel
theorem dX4_mends_162 : decode cX4_mends 162 = .ok (.aload_n 0, 1) := by decide +kernel
theorem dX4_mends_163 : decode cX4_mends 163 = .ok (.iload_n 3, 1) := by decide +kernel
theorem dX4_mends_164 : decode cX4_mends 164 = .ok (.iload 4, 2) := by decide +kernel
theorem dX4_mends_166 : decode cX4_mends 166 = .ok (.invokevirtual 112, 3) := by decide +kernel
theorem dX4_mends_169 : decode cX4_mends 169 = .ok (.goto 77, 3) := by decide +kernel
theorem dX4_mends_172 : decode cX4_mends 172 = .ok (.aload_n 0, 1) := by decide +kernel
theorem dX4_mends_173 : decode cX4_mends 173 = .ok (.getfield 17, 3) := by decide +kernel
theorem dX4_mends_176 : decode cX4_mends 176 = .ok (.iconst 5, 1) := by decide +kernel
theorem dX4_mends_177 : decode cX4_mends 177 = .ok (.iload_n 3, 1) := by decide +kernel
theorem dX4_mends_178 : decode cX4_mends 178 = .ok (.imul, 1) := by decide +kernel
theorem dX4_mends_179 : decode cX4_mends 179 = .ok (.iconst 1, 1) := by decide +kernel
theorem dX4_mends_180 : decode cX4_mends 180 = .ok (.iadd, 1) := by decide +kernel
theorem dX4_mends_181 : decode cX4_mends 181 = .ok (.iaload, 1) := by decide +kernel
theorem dX4_mends_182 : decode cX4_mends 182 = .ok (.istore 6, 2) := by decide +kernel
theorem dX4_mends_184 : decode cX4_mends 184 = .ok (.iconst 0, 1) := by decide +kernel
theorem dX4_mends_185 : decode cX4_mends 185 = .ok (.istore 7, 2) := by decide +kernel
theorem dX4_mends_187 : decode cX4_mends 187 = .ok (.iload 7, 2) := by decide +kernel
theorem dX4_mends_189 : decode cX4_mends 189 = .ok (.aload_n 0, 1) := by decide +kernel
theorem dX4_mends_190 : decode cX4_mends 190 = .ok (.getfield 7, 3) := by decide +kernel
theorem dX4_mends_193 : decode cX4_mends 193 = .ok (.iload 6, 2) := by decide +kernel
theorem dX4_mends_195 : decode cX4_mends 195 = .ok (.iaload, 1) := by decide +kernel
theorem dX4_mends_196 : decode cX4_mends 196 = .ok (.if_icmp .ge 44, 3) := by decide +kernel
theorem dX4_mends_199 : decode cX4_mends 199 = .ok (.aload_n 0, 1) := by decide +kernel
theorem dX4_mends_200 : decode cX4_mends 200 = .ok (.iload_n 2, 1) := by decide +kernel
theorem dX4_mends_201 : decode cX4_mends 201 = .ok (.aload_n 0, 1) := by decide +kernel
theorem dX4_mends_202 : decode cX4_mends 202 = .ok (.getfield 7, 3) := by decide +kernel
theorem dX4_mends_205 : decode cX4_mends 205 = .ok (.iload_n 2, 1) := by decide +kernel
theorem dX4_mends_206 : decode cX4_mends 206 = .ok (.iaload, 1) := by decide +kernel
theorem dX4_mends_207 : decode cX4_mends 207 = .ok (.aload_n 0, 1) := by decide +kernel
theorem dX4_mends_208 : decode cX4_mends 208 = .ok (.getfield 17, 3) := by decide +kernel
theorem dX4_mends_211 : decode cX4_mends 211 = .ok (.iconst 5, 1) := by decide +kernel
theorem dX4_mends_212 : decode cX4_mends 212 = .ok (.iload 6, 2) := by decide +kernel
theorem dX4_mends_214 : decode cX4_mends 214 = .ok (.imul, 1) := by decide +kernel
theorem dX4_mends_215 : decode cX4_mends 215 = .ok (.iload 7, 2) := by decide +kernel
theorem dX4_mends_217 : decode cX4_mends 217 = .ok (.iadd, 1) := by decide +kernel
theorem dX4_mends_218 : decode cX4_mends 218 = .ok (.iaload, 1) := by decide +kernel
theorem dX4_mends_219 : decode cX4_mends 219 = .ok (.aload_n 0, 1) := by decide +kernel
theorem dX4_mends_220 : decode cX4_mends 220 = .ok (.getfield 20, 3) := by decide +kernel
theorem dX4_mends_223 : decode cX4_mends 223 = .ok (.iconst 5, 1) := by decide +kernel
theorem dX4_mends_224 : decode cX4_mends 224 = .ok (.iload 6, 2) := by decide +kernel
theorem dX4_mends_226 : decode cX4_mends 226 = .ok (.imul, 1) := by decide +kernel
theorem dX4_mends_227 : decode cX4_mends 227 = .ok (.iload 7, 2) := by decide +kernel
theorem dX4_mends_229 : decode cX4_mends 229 = .ok (.iadd, 1) := by decide +kernel
theorem dX4_mends_230 : decode cX4_mends 230 = .ok (.iaload, 1) := by decide +kernel
theorem dX4_mends_231 : decode cX4_mends 231 = .ok (.invokevirtual 84, 3) := by decide +kernel
theorem dX4_mends_234 : decode cX4_mends 234 = .ok (.iinc 7 1, 3) := by decide +kernel
theorem dX4_mends_237 : decode cX4_mends 237 = .ok (.goto (-50), 3) := by decide +kernel
theorem dX4_mends_240 : decode cX4_mends 240 = .ok (.aload_n 0, 1) := by decide +kernel
theorem dX4_mends_241 : decode cX4_mends 241 = .ok (.iload_n 3, 1) := by decide +kernel
theorem dX4_mends_242 : decode cX4_mends 242 = .ok (.iconst 1, 1) := by decide +kernel
theorem dX4_mends_243 : decode cX4_mends 243 = .ok (.invokevirtual 112, 3) := by decide +kernel
theorem dX4_mends_246 : decode cX4_mends 246 = .ok (.return_, 1) := by decide +kernel
theorem dX4_joins_0 : decode cX4_joins 0 = .ok (.aload_n 0, 1) := by decide +kernel
theorem dX4_joins_1 : decode cX4_joins 1 = .ok (.getfield 91, 3) := by decide +kernel
theorem dX4_joins_4 : decode cX4_joins 4 = .ok (.istore_n 1, 1) := by decide +kernel
theorem dX4_joins_5 : decode cX4_joins 5 = .ok (.iload_n 1, 1) := by decide +kernel
theorem dX4_joins_6 : decode cX4_joins 6 = .ok (.ifCond .le 29, 3) := by decide +kernel
theorem dX4_joins_9 : decode cX4_joins 9 = .ok (.aload_n 0, 1) := by decide +kernel
theorem dX4_joins_10 : decode cX4_joins 10 = .ok (.getfield 7, 3) := by decide +kernel
theorem dX4_joins_13 : decode cX4_joins 13 = .ok (.aload_n 0, 1) := by decide +kernel
theorem dX4_joins_14 : decode cX4_joins 14 = .ok (.getfield 46, 3) := by decide +kernel
theorem dX4_joins_17 : decode cX4_joins 17 = .ok (.iload_n 1, 1) := by decide +kernel
theorem dX4_joins_18 : decode cX4_joins 18 = .ok (.iaload, 1) := by decide +kernel
theorem dX4_joins_19 : decode cX4_joins 19 = .ok (.iaload, 1) := by decide +kernel
theorem dX4_joins_20 : decode cX4_joins 20 = .ok (.iconst 2, 1) := by decide +kernel
theorem dX4_joins_21 : decode cX4_joins 21 = .ok (.if_icmp .ge 8, 3) := by decide +kernel
theorem dX4_joins_24 : decode cX4_joins 24 = .ok (.aload_n 0, 1) := by decide +kernel
theorem dX4_joins_25 : decode cX4_joins 25 = .ok (.iload_n 1, 1) := by decide +kernel
theorem dX4_joins_26 : decode cX4_joins 26 = .ok (.invokevirtual 115, 3) := by decide +kernel
theorem dX4_joins_29 : decode cX4_joins 29 = .ok (.iinc 1 (-1), 3) := by decide +kernel
theorem dX4_joins_32 : decode cX4_joins 32 = .ok (.goto (-27), 3) := by decide +kernel
theorem dX4_joins_35 : decode cX4_joins 35 = .ok (.aload_n 0, 1) := by decide +kernel
theorem dX4_joins_36 : decode cX4_joins 36 = .ok (.getfield 13, 3) := by decide +kernel
theorem dX4_joins_39 : decode cX4_joins 39 = .ok (.aload_n 0, 1) := by decide +kernel
theorem dX4_joins_40 : decode cX4_joins 40 = .ok (.getfield 32, 3) := by decide +kernel
theorem dX4_joins_43 : decode cX4_joins 43 = .ok (.baload, 1) := by decide +kernel
theorem dX4_joins_44 : decode cX4_joins 44 = .ok (.ifCond .eq 31, 3) := by decide +kernel
theorem dX4_joins_47 : decode cX4_joins 47 = .ok (.aload_n 0, 1) := by decide +kernel
theorem dX4_joins_48 : decode cX4_joins 48 = .ok (.getfield 7, 3) := by decide +kernel
theorem dX4_joins_51 : decode cX4_joins 51 = .ok (.aload_n 0, 1) := by decide +kernel
theorem dX4_joins_52 : decode cX4_joins 52 = .ok (.getfield 32, 3) := by decide +kernel
theorem dX4_joins_55 : decode cX4_joins 55 = .ok (.iaload, 1) := by decide +kernel
theorem dX4_joins_56 : decode cX4_joins 56 = .ok (.iconst 1, 1) := by decide +kernel
theorem dX4_joins_57 : decode cX4_joins 57 = .ok (.if_icmp .ne 18, 3) := by decide +kernel
theorem dX4_joins_60 : decode cX4_joins 60 = .ok (.aload_n 0, 1) := by decide +kernel
theorem dX4_joins_61 : decode cX4_joins 61 = .ok (.aload_n 0, 1) := by decide +kernel
theorem dX4_joins_62 : decode cX4_joins 62 = .ok (.getfield 17, 3) := by decide +kernel
theorem dX4_joins_65 : decode cX4_joins 65 = .ok (.iconst 5, 1) := by decide +kernel
theorem dX4_joins_66 : decode cX4_joins 66 = .ok (.aload_n 0, 1) := by decide +kernel
theorem dX4_joins_67 : decode cX4_joins 67 = .ok (.getfield 32, 3) := by decide +kernel
theorem dX4_joins_70 : decode cX4_joins 70 = .ok (.imul, 1) := by decide +kernel
theorem dX4_joins_71 : decode cX4_joins 71 = .ok (.iaload, 1) := by decide +kernel
theorem dX4_joins_72 : decode cX4_joins 72 = .ok (.putfield 32, 3) := by decide +kernel
theorem dX4_joins_75 : decode cX4_joins 75 = .ok (.return_, 1) := by decide +kernel
theorem dX4_beginBatch_0 : decode cX4_beginBatch 0 = .ok (.aload_n 0, 1) := by decide +kernel
theorem dX4_beginBatch_1 : decode cX4_beginBatch 1 = .ok (.aload_n 0, 1) := by decide +kernel
theorem dX4_beginBatch_2 : decode cX4_beginBatch 2 = .ok (.getfield 32, 3) := by decide +kernel
theorem dX4_beginBatch_5 : decode cX4_beginBatch 5 = .ok (.iconst (-1), 1) := by decide +kernel
theorem dX4_beginBatch_6 : decode cX4_beginBatch 6 = .ok (.if_icmp .ne 7, 3) := by decide +kernel
theorem dX4_beginBatch_9 : decode cX4_beginBatch 9 = .ok (.iconst 1, 1) := by decide +kernel
theorem dX4_beginBatch_10 : decode cX4_beginBatch 10 = .ok (.goto 4, 3) := by decide +kernel
theorem dX4_beginBatch_13 : decode cX4_beginBatch 13 = .ok (.iconst 0, 1) := by decide +kernel
theorem dX4_beginBatch_14 : decode cX4_beginBatch 14 = .ok (.iconst 1, 1) := by decide +kernel
theorem dX4_beginBatch_15 : decode cX4_beginBatch 15 = .ok (.iconst 1, 1) := by decide +kernel
theorem dX4_beginBatch_16 : decode cX4_beginBatch 16 = .ok (.invokevirtual 118, 3) := by decide +kernel
theorem dX4_beginBatch_19 : decode cX4_beginBatch 19 = .ok (.ifCond .ne 5, 3) := by decide +kernel
theorem dX4_beginBatch_22 : decode cX4_beginBatch 22 = .ok (.iconst 0, 1) := by decide +kernel
theorem dX4_beginBatch_23 : decode cX4_beginBatch 23 = .ok (.ireturn, 1) := by decide +kernel
theorem dX4_beginBatch_24 : decode cX4_beginBatch 24 = .ok (.iconst 0, 1) := by decide +kernel
theorem dX4_beginBatch_25 : decode cX4_beginBatch 25 = .ok (.istore_n 1, 1) := by decide +kernel
theorem dX4_beginBatch_26 : decode cX4_beginBatch 26 = .ok (.iload_n 1, 1) := by decide +kernel
theorem dX4_beginBatch_27 : decode cX4_beginBatch 27 = .ok (.sipush 720, 3) := by decide +kernel
theorem dX4_beginBatch_30 : decode cX4_beginBatch 30 = .ok (.if_icmp .ge 16, 3) := by decide +kernel
theorem dX4_beginBatch_33 : decode cX4_beginBatch 33 = .ok (.aload_n 0, 1) := by decide +kernel
theorem dX4_beginBatch_34 : decode cX4_beginBatch 34 = .ok (.getfield 23, 3) := by decide +kernel
theorem dX4_beginBatch_37 : decode cX4_beginBatch 37 = .ok (.iload_n 1, 1) := by decide +kernel
theorem dX4_beginBatch_38 : decode cX4_beginBatch 38 = .ok (.iconst 0, 1) := by decide +kernel
theorem dX4_beginBatch_39 : decode cX4_beginBatch 39 = .ok (.bastore, 1) := by decide +kernel
theorem dX4_beginBatch_40 : decode cX4_beginBatch 40 = .ok (.iinc 1 1, 3) := by decide +kernel
theorem dX4_beginBatch_43 : decode cX4_beginBatch 43 = .ok (.goto (-17), 3) := by decide +kernel
theorem dX4_beginBatch_46 : decode cX4_beginBatch 46 = .ok (.aload_n 0, 1) := by decide +kernel
theorem dX4_beginBatch_47 : decode cX4_beginBatch 47 = .ok (.aload_n 0, 1) := by decide +kernel
theorem dX4_beginBatch_48 : decode cX4_beginBatch 48 = .ok (.getfield 61, 3) := by decide +kernel
theorem dX4_beginBatch_51 : decode cX4_beginBatch 51 = .ok (.putfield 32, 3) := by decide +kernel
theorem dX4_beginBatch_54 : decode cX4_beginBatch 54 = .ok (.aload_n 0, 1) := by decide +kernel
theorem dX4_beginBatch_55 : decode cX4_beginBatch 55 = .ok (.getfield 122, 3) := by decide +kernel
theorem dX4_beginBatch_58 : decode cX4_beginBatch 58 = .ok (.iconst 1, 1) := by decide +kernel
theorem dX4_beginBatch_59 : decode cX4_beginBatch 59 = .ok (.iadd, 1) := by decide +kernel
theorem dX4_beginBatch_60 : decode cX4_beginBatch 60 = .ok (.ireturn, 1) := by decide +kernel
theorem dX4_hasBatch_0 : decode cX4_hasBatch 0 = .ok (.aload_n 0, 1) := by decide +kernel
theorem dX4_hasBatch_1 : decode cX4_hasBatch 1 = .ok (.iconst 0, 1) := by decide +kernel
theorem dX4_hasBatch_2 : decode cX4_hasBatch 2 = .ok (.putfield 55, 3) := by decide +kernel
theorem dX4_hasBatch_5 : decode cX4_hasBatch 5 = .ok (.aload_n 0, 1) := by decide +kernel
theorem dX4_hasBatch_6 : decode cX4_hasBatch 6 = .ok (.getfield 32, 3) := by decide +kernel
theorem dX4_hasBatch_9 : decode cX4_hasBatch 9 = .ok (.iconst (-1), 1) := by decide +kernel
theorem dX4_hasBatch_10 : decode cX4_hasBatch 10 = .ok (.if_icmp .eq 7, 3) := by decide +kernel
theorem dX4_hasBatch_13 : decode cX4_hasBatch 13 = .ok (.iconst 1, 1) := by decide +kernel
theorem dX4_hasBatch_14 : decode cX4_hasBatch 14 = .ok (.goto 4, 3) := by decide +kernel
theorem dX4_hasBatch_17 : decode cX4_hasBatch 17 = .ok (.iconst 0, 1) := by decide +kernel
theorem dX4_hasBatch_18 : decode cX4_hasBatch 18 = .ok (.ireturn, 1) := by decide +kernel
theorem dX4_put_0 : decode cX4_put 0 = .ok (.aload_n 0, 1) := by decide +kernel
theorem dX4_put_1 : decode cX4_put 1 = .ok (.iload_n 1, 1) := by decide +kernel
theorem dX4_put_2 : decode cX4_put 2 = .ok (.iconst 0, 1) := by decide +kernel
theorem dX4_put_3 : decode cX4_put 3 = .ok (.bipush 99, 2) := by decide +kernel
theorem dX4_put_5 : decode cX4_put 5 = .ok (.invokestatic 76, 3) := by decide +kernel
theorem dX4_put_8 : decode cX4_put 8 = .ok (.aload_n 0, 1) := by decide +kernel
theorem dX4_put_9 : decode cX4_put 9 = .ok (.getfield 32, 3) := by decide +kernel
theorem dX4_put_12 : decode cX4_put 12 = .ok (.iconst (-1), 1) := by decide +kernel
theorem dX4_put_13 : decode cX4_put 13 = .ok (.if_icmp .eq 7, 3) := by decide +kernel
theorem dX4_put_16 : decode cX4_put 16 = .ok (.iconst 1, 1) := by decide +kernel
theorem dX4_put_17 : decode cX4_put 17 = .ok (.goto 4, 3) := by decide +kernel
theorem dX4_put_20 : decode cX4_put 20 = .ok (.iconst 0, 1) := by decide +kernel
theorem dX4_put_21 : decode cX4_put 21 = .ok (.iconst 1, 1) := by decide +kernel
theorem dX4_put_22 : decode cX4_put 22 = .ok (.invokevirtual 118, 3) := by decide +kernel
theorem dX4_put_25 : decode cX4_put 25 = .ok (.ifCond .ne 5, 3) := by decide +kernel
theorem dX4_put_28 : decode cX4_put 28 = .ok (.iconst 0, 1) := by decide +kernel
theorem dX4_put_29 : decode cX4_put 29 = .ok (.ireturn, 1) := by decide +kernel
theorem dX4_put_30 : decode cX4_put 30 = .ok (.aload_n 0, 1) := by decide +kernel
theorem dX4_put_31 : decode cX4_put 31 = .ok (.aload_n 0, 1) := by decide +kernel
theorem dX4_put_32 : decode cX4_put 32 = .ok (.getfield 32, 3) := by decide +kernel
theorem dX4_put_35 : decode cX4_put 35 = .ok (.iload_n 1, 1) := by decide +kernel
theorem dX4_put_36 : decode cX4_put 36 = .ok (.invokevirtual 125, 3) := by decide +kernel
theorem dX4_put_39 : decode cX4_put 39 = .ok (.aload_n 0, 1) := by decide +kernel
theorem dX4_put_40 : decode cX4_put 40 = .ok (.invokevirtual 128, 3) := by decide +kernel
theorem dX4_put_43 : decode cX4_put 43 = .ok (.aload_n 0, 1) := by decide +kernel
theorem dX4_put_44 : decode cX4_put 44 = .ok (.getfield 46, 3) := by decide +kernel
theorem dX4_put_47 : decode cX4_put 47 = .ok (.aload_n 0, 1) := by decide +kernel
theorem dX4_put_48 : decode cX4_put 48 = .ok (.getfield 91, 3) := by decide +kernel
theorem dX4_put_51 : decode cX4_put 51 = .ok (.iaload, 1) := by decide +kernel
theorem dX4_put_52 : decode cX4_put 52 = .ok (.istore_n 3, 1) := by decide +kernel
theorem dX4_put_53 : decode cX4_put 53 = .ok (.aload_n 0, 1) := by decide +kernel
theorem dX4_put_54 : decode cX4_put 54 = .ok (.iload_n 3, 1) := by decide +kernel
theorem dX4_put_55 : decode cX4_put 55 = .ok (.iload_n 1, 1) := by decide +kernel
theorem dX4_put_56 : decode cX4_put 56 = .ok (.invokevirtual 131, 3) := by decide +kernel
theorem dX4_put_59 : decode cX4_put 59 = .ok (.istore 4, 2) := by decide +kernel
theorem dX4_put_61 : decode cX4_put 61 = .ok (.aload_n 0, 1) := by decide +kernel
theorem dX4_put_62 : decode cX4_put 62 = .ok (.iload_n 3, 1) := by decide +kernel
theorem dX4_put_63 : decode cX4_put 63 = .ok (.iload 4, 2) := by decide +kernel
theorem dX4_put_65 : decode cX4_put 65 = .ok (.iload_n 1, 1) := by decide +kernel
theorem dX4_put_66 : decode cX4_put 66 = .ok (.invokevirtual 134, 3) := by decide +kernel
theorem dX4_put_69 : decode cX4_put 69 = .ok (.ifCond .eq 17, 3) := by decide +kernel
theorem dX4_put_72 : decode cX4_put 72 = .ok (.aload_n 0, 1) := by decide +kernel
theorem dX4_put_73 : decode cX4_put 73 = .ok (.getfield 20, 3) := by decide +kernel
theorem dX4_put_76 : decode cX4_put 76 = .ok (.iconst 5, 1) := by decide +kernel
theorem dX4_put_77 : decode cX4_put 77 = .ok (.iload_n 3, 1) := by decide +kernel
theorem dX4_put_78 : decode cX4_put 78 = .ok (.imul, 1) := by decide +kernel
theorem dX4_put_79 : decode cX4_put 79 = .ok (.iload 4, 2) := by decide +kernel
theorem dX4_put_81 : decode cX4_put 81 = .ok (.iadd, 1) := by decide +kernel
theorem dX4_put_82 : decode cX4_put 82 = .ok (.iload_n 2, 1) := by decide +kernel
theorem dX4_put_83 : decode cX4_put 83 = .ok (.iastore, 1) := by decide +kernel
theorem dX4_put_84 : decode cX4_put 84 = .ok (.iconst 0, 1) := by decide +kernel
theorem dX4_put_85 : decode cX4_put 85 = .ok (.ireturn, 1) := by decide +kernel
theorem dX4_put_86 : decode cX4_put 86 = .ok (.aload_n 0, 1) := by decide +kernel
theorem dX4_put_87 : decode cX4_put 87 = .ok (.iload_n 3, 1) := by decide +kernel
theorem dX4_put_88 : decode cX4_put 88 = .ok (.iload 4, 2) := by decide +kernel
theorem dX4_put_90 : decode cX4_put 90 = .ok (.iload_n 1, 1) := by decide +kernel
theorem dX4_put_91 : decode cX4_put 91 = .ok (.iload_n 2, 1) := by decide +kernel
theorem dX4_put_92 : decode cX4_put 92 = .ok (.invokevirtual 84, 3) := by decide +kernel
theorem dX4_put_95 : decode cX4_put 95 = .ok (.aload_n 0, 1) := by decide +kernel
theorem dX4_put_96 : decode cX4_put 96 = .ok (.invokevirtual 137, 3) := by decide +kernel
theorem dX4_put_99 : decode cX4_put 99 = .ok (.iconst 1, 1) := by decide +kernel
theorem dX4_put_100 : decode cX4_put 100 = .ok (.ireturn, 1) := by decide +kernel
theorem dX4_delete_0 : decode cX4_delete 0 = .ok (.iload_n 1, 1) := by decide +kernel
theorem dX4_delete_1 : decode cX4_delete 1 = .ok (.iconst 0, 1) := by decide +kernel
theorem dX4_delete_2 : decode cX4_delete 2 = .ok (.bipush 99, 2) := by decide +kernel
theorem dX4_delete_4 : decode cX4_delete 4 = .ok (.invokestatic 76, 3) := by decide +kernel
theorem dX4_delete_7 : decode cX4_delete 7 = .ok (.ifCond .eq 15, 3) := by decide +kernel
theorem dX4_delete_10 : decode cX4_delete 10 = .ok (.aload_n 0, 1) := by decide +kernel
theorem dX4_delete_11 : decode cX4_delete 11 = .ok (.getfield 32, 3) := by decide +kernel
theorem dX4_delete_14 : decode cX4_delete 14 = .ok (.iconst (-1), 1) := by decide +kernel
theorem dX4_delete_15 : decode cX4_delete 15 = .ok (.if_icmp .eq 7, 3) := by decide +kernel
theorem dX4_delete_18 : decode cX4_delete 18 = .ok (.iconst 1, 1) := by decide +kernel
theorem dX4_delete_19 : decode cX4_delete 19 = .ok (.goto 4, 3) := by decide +kernel
theorem dX4_delete_22 : decode cX4_delete 22 = .ok (.iconst 0, 1) := by decide +kernel
theorem dX4_delete_23 : decode cX4_delete 23 = .ok (.istore_n 2, 1) := by decide +kernel
theorem dX4_delete_24 : decode cX4_delete 24 = .ok (.iconst 0, 1) := by decide +kernel
theorem dX4_delete_25 : decode cX4_delete 25 = .ok (.istore_n 3, 1) := by decide +kernel
theorem dX4_delete_26 : decode cX4_delete 26 = .ok (.iload_n 2, 1) := by decide +kernel
theorem dX4_delete_27 : decode cX4_delete 27 = .ok (.ifCond .eq 27, 3) := by decide +kernel
theorem dX4_delete_30 : decode cX4_delete 30 = .ok (.aload_n 0, 1) := by decide +kernel
theorem dX4_delete_31 : decode cX4_delete 31 = .ok (.aload_n 0, 1) := by decide +kernel
theorem dX4_delete_32 : decode cX4_delete 32 = .ok (.getfield 32, 3) := by decide +kernel
theorem dX4_delete_35 : decode cX4_delete 35 = .ok (.iload_n 1, 1) := by decide +kernel
theorem dX4_delete_36 : decode cX4_delete 36 = .ok (.invokevirtual 125, 3) := by decide +kernel
theorem dX4_delete_39 : decode cX4_delete 39 = .ok (.aload_n 0, 1) := by decide +kernel
theorem dX4_delete_40 : decode cX4_delete 40 = .ok (.aload_n 0, 1) := by decide +kernel
theorem dX4_delete_41 : decode cX4_delete 41 = .ok (.getfield 46, 3) := by decide +kernel
theorem dX4_delete_44 : decode cX4_delete 44 = .ok (.aload_n 0, 1) := by decide +kernel
theorem dX4_delete_45 : decode cX4_delete 45 = .ok (.getfield 91, 3) := by decide +kernel
theorem dX4_delete_48 : decode cX4_delete 48 = .ok (.iaload, 1) := by decide +kernel
theorem dX4_delete_49 : decode cX4_delete 49 = .ok (.iload_n 1, 1) := by decide +kernel
theorem dX4_delete_50 : decode cX4_delete 50 = .ok (.invokevirtual 131, 3) := by decide +kernel
theorem dX4_delete_53 : decode cX4_delete 53 = .ok (.istore_n 3, 1) := by decide +kernel
theorem dX4_delete_54 : decode cX4_delete 54 = .ok (.aload_n 0, 1) := by decide +kernel
theorem dX4_delete_55 : decode cX4_delete 55 = .ok (.iload_n 1, 1) := by decide +kernel
theorem dX4_delete_56 : decode cX4_delete 56 = .ok (.iconst 0, 1) := by decide +kernel
theorem dX4_delete_57 : decode cX4_delete 57 = .ok (.bipush 99, 2) := by decide +kernel
theorem dX4_delete_59 : decode cX4_delete 59 = .ok (.invokestatic 76, 3) := by decide +kernel
theorem dX4_delete_62 : decode cX4_delete 62 = .ok (.aload_n 0, 1) := by decide +kernel
theorem dX4_delete_63 : decode cX4_delete 63 = .ok (.getfield 32, 3) := by decide +kernel
theorem dX4_delete_66 : decode cX4_delete 66 = .ok (.iconst (-1), 1) := by decide +kernel
theorem dX4_delete_67 : decode cX4_delete 67 = .ok (.if_icmp .eq 7, 3) := by decide +kernel
theorem dX4_delete_70 : decode cX4_delete 70 = .ok (.iconst 1, 1) := by decide +kernel
theorem dX4_delete_71 : decode cX4_delete 71 = .ok (.goto 4, 3) := by decide +kernel
theorem dX4_delete_74 : decode cX4_delete 74 = .ok (.iconst 0, 1) := by decide +kernel
theorem dX4_delete_75 : decode cX4_delete 75 = .ok (.iload_n 2, 1) := by decide +kernel
theorem dX4_delete_76 : decode cX4_delete 76 = .ok (.ifCond .eq 25, 3) := by decide +kernel
theorem dX4_delete_79 : decode cX4_delete 79 = .ok (.aload_n 0, 1) := by decide +kernel
theorem dX4_delete_80 : decode cX4_delete 80 = .ok (.aload_n 0, 1) := by decide +kernel
theorem dX4_delete_81 : decode cX4_delete 81 = .ok (.getfield 46, 3) := by decide +kernel
theorem dX4_delete_84 : decode cX4_delete 84 = .ok (.aload_n 0, 1) := by decide +kernel
theorem dX4_delete_85 : decode cX4_delete 85 = .ok (.getfield 91, 3) := by decide +kernel
theorem dX4_delete_88 : decode cX4_delete 88 = .ok (.iaload, 1) := by decide +kernel
theorem dX4_delete_89 : decode cX4_delete 89 = .ok (.iload_n 3, 1) := by decide +kernel
theorem dX4_delete_90 : decode cX4_delete 90 = .ok (.iload_n 1, 1) := by decide +kernel
theorem dX4_delete_91 : decode cX4_delete 91 = .ok (.invokevirtual 134, 3) := by decide +kernel
theorem dX4_delete_94 : decode cX4_delete 94 = .ok (.ifCond .eq 7, 3) := by decide +kernel
theorem dX4_delete_97 : decode cX4_delete 97 = .ok (.iconst 1, 1) := by decide +kernel
theorem dX4_delete_98 : decode cX4_delete 98 = .ok (.goto 4, 3) := by decide +kernel
theorem dX4_delete_101 : decode cX4_delete 101 = .ok (.iconst 0, 1) := by decide +kernel
theorem dX4_delete_102 : decode cX4_delete 102 = .ok (.invokevirtual 118, 3) := by decide +kernel
theorem dX4_delete_105 : decode cX4_delete 105 = .ok (.ifCond .ne 5, 3) := by decide +kernel
theorem dX4_delete_108 : decode cX4_delete 108 = .ok (.iconst 0, 1) := by decide +kernel
theorem dX4_delete_109 : decode cX4_delete 109 = .ok (.ireturn, 1) := by decide +kernel
theorem dX4_delete_110 : decode cX4_delete 110 = .ok (.aload_n 0, 1) := by decide +kernel
theorem dX4_delete_111 : decode cX4_delete 111 = .ok (.invokevirtual 128, 3) := by decide +kernel
theorem dX4_delete_114 : decode cX4_delete 114 = .ok (.aload_n 0, 1) := by decide +kernel
theorem dX4_delete_115 : decode cX4_delete 115 = .ok (.getfield 20, 3) := by decide +kernel
theorem dX4_delete_118 : decode cX4_delete 118 = .ok (.iconst 5, 1) := by decide +kernel
theorem dX4_delete_119 : decode cX4_delete 119 = .ok (.aload_n 0, 1) := by decide +kernel
theorem dX4_delete_120 : decode cX4_delete 120 = .ok (.getfield 46, 3) := by decide +kernel
theorem dX4_delete_123 : decode cX4_delete 123 = .ok (.aload_n 0, 1) := by decide +kernel
theorem dX4_delete_124 : decode cX4_delete 124 = .ok (.getfield 91, 3) := by decide +kernel
theorem dX4_delete_127 : decode cX4_delete 127 = .ok (.iaload, 1) := by decide +kernel
theorem dX4_delete_128 : decode cX4_delete 128 = .ok (.imul, 1) := by decide +kernel
theorem dX4_delete_129 : decode cX4_delete 129 = .ok (.iload_n 3, 1) := by decide +kernel
theorem dX4_delete_130 : decode cX4_delete 130 = .ok (.iadd, 1) := by decide +kernel
theorem dX4_delete_131 : decode cX4_delete 131 = .ok (.iaload, 1) := by decide +kernel
theorem dX4_delete_132 : decode cX4_delete 132 = .ok (.istore 4, 2) := by decide +kernel
theorem dX4_delete_134 : decode cX4_delete 134 = .ok (.aload_n 0, 1) := by decide +kernel
theorem dX4_delete_135 : decode cX4_delete 135 = .ok (.aload_n 0, 1) := by decide +kernel
theorem dX4_delete_136 : decode cX4_delete 136 = .ok (.getfield 46, 3) := by decide +kernel
theorem dX4_delete_139 : decode cX4_delete 139 = .ok (.aload_n 0, 1) := by decide +kernel
theorem dX4_delete_140 : decode cX4_delete 140 = .ok (.getfield 91, 3) := by decide +kernel
theorem dX4_delete_143 : decode cX4_delete 143 = .ok (.iaload, 1) := by decide +kernel
theorem dX4_delete_144 : decode cX4_delete 144 = .ok (.iload_n 3, 1) := by decide +kernel
theorem dX4_delete_145 : decode cX4_delete 145 = .ok (.invokevirtual 112, 3) := by decide +kernel
theorem dX4_delete_148 : decode cX4_delete 148 = .ok (.aload_n 0, 1) := by decide +kernel
theorem dX4_delete_149 : decode cX4_delete 149 = .ok (.invokevirtual 140, 3) := by decide +kernel
theorem dX4_delete_152 : decode cX4_delete 152 = .ok (.iload 4, 2) := by decide +kernel
theorem dX4_delete_154 : decode cX4_delete 154 = .ok (.ireturn, 1) := by decide +kernel
theorem dX4_word_0 : decode cX4_word 0 = .ok (.aload_n 0, 1) := by decide +kernel
theorem dX4_word_1 : decode cX4_word 1 = .ok (.getfield 32, 3) := by decide +kernel
theorem dX4_word_4 : decode cX4_word 4 = .ok (.i2l, 1) := by decide +kernel
theorem dX4_word_5 : decode cX4_word 5 = .ok (.lstore_n 2, 1) := by decide +kernel
theorem dX4_word_6 : decode cX4_word 6 = .ok (.ldc2_w 143, 3) := by decide +kernel
theorem dX4_word_9 : decode cX4_word 9 = .ok (.aload_n 0, 1) := by decide +kernel
theorem dX4_word_10 : decode cX4_word 10 = .ok (.getfield 122, 3) := by decide +kernel
theorem dX4_word_13 : decode cX4_word 13 = .ok (.iconst 1, 1) := by decide +kernel
theorem dX4_word_14 : decode cX4_word 14 = .ok (.iadd, 1) := by decide +kernel
theorem dX4_word_15 : decode cX4_word 15 = .ok (.i2l, 1) := by decide +kernel
theorem dX4_word_16 : decode cX4_word 16 = .ok (.lmul, 1) := by decide +kernel
theorem dX4_word_17 : decode cX4_word 17 = .ok (.ldc2_w 145, 3) := by decide +kernel
theorem dX4_word_20 : decode cX4_word 20 = .ok (.lload_n 2, 1) := by decide +kernel
theorem dX4_word_21 : decode cX4_word 21 = .ok (.lmul, 1) := by decide +kernel
theorem dX4_word_22 : decode cX4_word 22 = .ok (.ladd, 1) := by decide +kernel
theorem dX4_word_23 : decode cX4_word 23 = .ok (.aload_n 0, 1) := by decide +kernel
theorem dX4_word_24 : decode cX4_word 24 = .ok (.aload_n 0, 1) := by decide +kernel
theorem dX4_word_25 : decode cX4_word 25 = .ok (.getfield 32, 3) := by decide +kernel
theorem dX4_word_28 : decode cX4_word 28 = .ok (.invokevirtual 147, 3) := by decide +kernel
theorem dX4_word_31 : decode cX4_word 31 = .ok (.i2l, 1) := by decide +kernel
theorem dX4_word_32 : decode cX4_word 32 = .ok (.ladd, 1) := by decide +kernel
theorem dX4_word_33 : decode cX4_word 33 = .ok (.lstore 4, 2) := by decide +kernel
theorem dX4_word_35 : decode cX4_word 35 = .ok (.iload_n 1, 1) := by decide +kernel
theorem dX4_word_36 : decode cX4_word 36 = .ok (.ifCond .ne 13, 3) := by decide +kernel
theorem dX4_word_39 : decode cX4_word 39 = .ok (.aload_n 0, 1) := by decide +kernel
theorem dX4_word_40 : decode cX4_word 40 = .ok (.getfield 122, 3) := by decide +kernel
theorem dX4_word_43 : decode cX4_word 43 = .ok (.iconst 1, 1) := by decide +kernel
theorem dX4_word_44 : decode cX4_word 44 = .ok (.iadd, 1) := by decide +kernel
theorem dX4_word_45 : decode cX4_word 45 = .ok (.i2l, 1) := by decide +kernel
theorem dX4_word_46 : decode cX4_word 46 = .ok (.goto 31, 3) := by decide +kernel
theorem dX4_word_49 : decode cX4_word 49 = .ok (.iload_n 1, 1) := by decide +kernel
theorem dX4_word_50 : decode cX4_word 50 = .ok (.iconst 1, 1) := by decide +kernel
theorem dX4_word_51 : decode cX4_word 51 = .ok (.if_icmp .ne 7, 3) := by decide +kernel
theorem dX4_word_54 : decode cX4_word 54 = .ok (.lload_n 2, 1) := by decide +kernel
theorem dX4_word_55 : decode cX4_word 55 = .ok (.goto 22, 3) := by decide +kernel
theorem dX4_word_58 : decode cX4_word 58 = .ok (.iload_n 1, 1) := by decide +kernel
theorem dX4_word_59 : decode cX4_word 59 = .ok (.iconst 2, 1) := by decide +kernel
theorem dX4_word_60 : decode cX4_word 60 = .ok (.if_icmp .ne 15, 3) := by decide +kernel
theorem dX4_word_63 : decode cX4_word 63 = .ok (.aload_n 0, 1) := by decide +kernel
theorem dX4_word_64 : decode cX4_word 64 = .ok (.aload_n 0, 1) := by decide +kernel
theorem dX4_word_65 : decode cX4_word 65 = .ok (.getfield 32, 3) := by decide +kernel
theorem dX4_word_68 : decode cX4_word 68 = .ok (.invokevirtual 147, 3) := by decide +kernel
theorem dX4_word_71 : decode cX4_word 71 = .ok (.i2l, 1) := by decide +kernel
theorem dX4_word_72 : decode cX4_word 72 = .ok (.goto 5, 3) := by decide +kernel
theorem dX4_word_75 : decode cX4_word 75 = .ok (.lload 4, 2) := by decide +kernel
theorem dX4_word_77 : decode cX4_word 77 = .ok (.lreturn, 1) := by decide +kernel
theorem dX4_writes_0 : decode cX4_writes 0 = .ok (.iconst 0, 1) := by decide +kernel
theorem dX4_writes_1 : decode cX4_writes 1 = .ok (.istore_n 2, 1) := by decide +kernel
theorem dX4_writes_2 : decode cX4_writes 2 = .ok (.iload_n 2, 1) := by decide +kernel
theorem dX4_writes_3 : decode cX4_writes 3 = .ok (.iload_n 1, 1) := by decide +kernel
theorem dX4_writes_4 : decode cX4_writes 4 = .ok (.if_icmp .ge 29, 3) := by decide +kernel
theorem dX4_writes_7 : decode cX4_writes 7 = .ok (.aload_n 0, 1) := by decide +kernel
theorem dX4_writes_8 : decode cX4_writes 8 = .ok (.getfield 36, 3) := by decide +kernel
theorem dX4_writes_11 : decode cX4_writes 11 = .ok (.iconst 4, 1) := by decide +kernel
theorem dX4_writes_12 : decode cX4_writes 12 = .ok (.iconst 1, 1) := by decide +kernel
theorem dX4_writes_13 : decode cX4_writes 13 = .ok (.aload_n 0, 1) := by decide +kernel
theorem dX4_writes_14 : decode cX4_writes 14 = .ok (.getfield 150, 3) := by decide +kernel
theorem dX4_writes_17 : decode cX4_writes 17 = .ok (.isub, 1) := by decide +kernel
theorem dX4_writes_18 : decode cX4_writes 18 = .ok (.imul, 1) := by decide +kernel
theorem dX4_writes_19 : decode cX4_writes 19 = .ok (.iload_n 2, 1) := by decide +kernel
theorem dX4_writes_20 : decode cX4_writes 20 = .ok (.iadd, 1) := by decide +kernel
theorem dX4_writes_21 : decode cX4_writes 21 = .ok (.aload_n 0, 1) := by decide +kernel
theorem dX4_writes_22 : decode cX4_writes 22 = .ok (.iload_n 2, 1) := by decide +kernel
theorem dX4_writes_23 : decode cX4_writes 23 = .ok (.invokevirtual 153, 3) := by decide +kernel
theorem dX4_writes_26 : decode cX4_writes 26 = .ok (.lastore, 1) := by decide +kernel
theorem dX4_writes_27 : decode cX4_writes 27 = .ok (.iinc 2 1, 3) := by decide +kernel
theorem dX4_writes_30 : decode cX4_writes 30 = .ok (.goto (-28), 3) := by decide +kernel
theorem dX4_writes_33 : decode cX4_writes 33 = .ok (.return_, 1) := by decide +kernel
theorem dX4_reads_0 : decode cX4_reads 0 = .ok (.aload_n 0, 1) := by decide +kernel
theorem dX4_reads_1 : decode cX4_reads 1 = .ok (.iload_n 1, 1) := by decide +kernel
theorem dX4_reads_2 : decode cX4_reads 2 = .ok (.putfield 150, 3) := by decide +kernel
theorem dX4_reads_5 : decode cX4_reads 5 = .ok (.aload_n 0, 1) := by decide +kernel
theorem dX4_reads_6 : decode cX4_reads 6 = .ok (.aload_n 0, 1) := by decide +kernel
theorem dX4_reads_7 : decode cX4_reads 7 = .ok (.getfield 36, 3) := by decide +kernel
theorem dX4_reads_10 : decode cX4_reads 10 = .ok (.iconst 4, 1) := by decide +kernel
theorem dX4_reads_11 : decode cX4_reads 11 = .ok (.iload_n 1, 1) := by decide +kernel
theorem dX4_reads_12 : decode cX4_reads 12 = .ok (.imul, 1) := by decide +kernel
theorem dX4_reads_13 : decode cX4_reads 13 = .ok (.laload, 1) := by decide +kernel
theorem dX4_reads_14 : decode cX4_reads 14 = .ok (.l2i, 1) := by decide +kernel
theorem dX4_reads_15 : decode cX4_reads 15 = .ok (.putfield 122, 3) := by decide +kernel
theorem dX4_reads_18 : decode cX4_reads 18 = .ok (.aload_n 0, 1) := by decide +kernel
theorem dX4_reads_19 : decode cX4_reads 19 = .ok (.aload_n 0, 1) := by decide +kernel
theorem dX4_reads_20 : decode cX4_reads 20 = .ok (.getfield 36, 3) := by decide +kernel
theorem dX4_reads_23 : decode cX4_reads 23 = .ok (.iconst 4, 1) := by decide +kernel
theorem dX4_reads_24 : decode cX4_reads 24 = .ok (.iload_n 1, 1) := by decide +kernel
theorem dX4_reads_25 : decode cX4_reads 25 = .ok (.imul, 1) := by decide +kernel
theorem dX4_reads_26 : decode cX4_reads 26 = .ok (.iconst 1, 1) := by decide +kernel
theorem dX4_reads_27 : decode cX4_reads 27 = .ok (.iadd, 1) := by decide +kernel
theorem dX4_reads_28 : decode cX4_reads 28 = .ok (.laload, 1) := by decide +kernel
theorem dX4_reads_29 : decode cX4_reads 29 = .ok (.l2i, 1) := by decide +kernel
theorem dX4_reads_30 : decode cX4_reads 30 = .ok (.putfield 61, 3) := by decide +kernel
theorem dX4_reads_33 : decode cX4_reads 33 = .ok (.aload_n 0, 1) := by decide +kernel
theorem dX4_reads_34 : decode cX4_reads 34 = .ok (.getfield 122, 3) := by decide +kernel
theorem dX4_reads_37 : decode cX4_reads 37 = .ok (.ireturn, 1) := by decide +kernel
theorem dX4_commit_0 : decode cX4_commit 0 = .ok (.aload_n 0, 1) := by decide +kernel
theorem dX4_commit_1 : decode cX4_commit 1 = .ok (.aload_n 0, 1) := by decide +kernel
theorem dX4_commit_2 : decode cX4_commit 2 = .ok (.getfield 32, 3) := by decide +kernel
theorem dX4_commit_5 : decode cX4_commit 5 = .ok (.iconst (-1), 1) := by decide +kernel
theorem dX4_commit_6 : decode cX4_commit 6 = .ok (.if_icmp .eq 7, 3) := by decide +kernel
theorem dX4_commit_9 : decode cX4_commit 9 = .ok (.iconst 1, 1) := by decide +kernel
theorem dX4_commit_10 : decode cX4_commit 10 = .ok (.goto 4, 3) := by decide +kernel
theorem dX4_commit_13 : decode cX4_commit 13 = .ok (.iconst 0, 1) := by decide +kernel
theorem dX4_commit_14 : decode cX4_commit 14 = .ok (.iconst 1, 1) := by decide +kernel
theorem dX4_commit_15 : decode cX4_commit 15 = .ok (.iconst 1, 1) := by decide +kernel
theorem dX4_commit_16 : decode cX4_commit 16 = .ok (.invokevirtual 118, 3) := by decide +kernel
theorem dX4_commit_19 : decode cX4_commit 19 = .ok (.ifCond .ne 5, 3) := by decide +kernel
theorem dX4_commit_22 : decode cX4_commit 22 = .ok (.iconst 0, 1) := by decide +kernel
theorem dX4_commit_23 : decode cX4_commit 23 = .ok (.ireturn, 1) := by decide +kernel
theorem dX4_commit_24 : decode cX4_commit 24 = .ok (.aload_n 0, 1) := by decide +kernel
theorem dX4_commit_25 : decode cX4_commit 25 = .ok (.iconst 4, 1) := by decide +kernel
theorem dX4_commit_26 : decode cX4_commit 26 = .ok (.invokevirtual 157, 3) := by decide +kernel
theorem dX4_commit_29 : decode cX4_commit 29 = .ok (.aload_n 0, 1) := by decide +kernel
theorem dX4_commit_30 : decode cX4_commit 30 = .ok (.iconst (-1), 1) := by decide +kernel
theorem dX4_commit_31 : decode cX4_commit 31 = .ok (.putfield 32, 3) := by decide +kernel
theorem dX4_commit_34 : decode cX4_commit 34 = .ok (.aload_n 0, 1) := by decide +kernel
theorem dX4_commit_35 : decode cX4_commit 35 = .ok (.iconst 1, 1) := by decide +kernel
theorem dX4_commit_36 : decode cX4_commit 36 = .ok (.aload_n 0, 1) := by decide +kernel
theorem dX4_commit_37 : decode cX4_commit 37 = .ok (.getfield 150, 3) := by decide +kernel
theorem dX4_commit_40 : decode cX4_commit 40 = .ok (.isub, 1) := by decide +kernel
theorem dX4_commit_41 : decode cX4_commit 41 = .ok (.invokevirtual 160, 3) := by decide +kernel
theorem dX4_commit_44 : decode cX4_commit 44 = .ok (.ireturn, 1) := by decide +kernel
theorem dX4_abandon_0 : decode cX4_abandon 0 = .ok (.aload_n 0, 1) := by decide +kernel
theorem dX4_abandon_1 : decode cX4_abandon 1 = .ok (.aload_n 0, 1) := by decide +kernel
theorem dX4_abandon_2 : decode cX4_abandon 2 = .ok (.getfield 32, 3) := by decide +kernel
theorem dX4_abandon_5 : decode cX4_abandon 5 = .ok (.iconst (-1), 1) := by decide +kernel
theorem dX4_abandon_6 : decode cX4_abandon 6 = .ok (.if_icmp .eq 7, 3) := by decide +kernel
theorem dX4_abandon_9 : decode cX4_abandon 9 = .ok (.iconst 1, 1) := by decide +kernel
theorem dX4_abandon_10 : decode cX4_abandon 10 = .ok (.goto 4, 3) := by decide +kernel
theorem dX4_abandon_13 : decode cX4_abandon 13 = .ok (.iconst 0, 1) := by decide +kernel
theorem dX4_abandon_14 : decode cX4_abandon 14 = .ok (.iconst 1, 1) := by decide +kernel
theorem dX4_abandon_15 : decode cX4_abandon 15 = .ok (.iconst 1, 1) := by decide +kernel
theorem dX4_abandon_16 : decode cX4_abandon 16 = .ok (.invokevirtual 118, 3) := by decide +kernel
theorem dX4_abandon_19 : decode cX4_abandon 19 = .ok (.ifCond .ne 5, 3) := by decide +kernel
theorem dX4_abandon_22 : decode cX4_abandon 22 = .ok (.iconst 0, 1) := by decide +kernel
theorem dX4_abandon_23 : decode cX4_abandon 23 = .ok (.ireturn, 1) := by decide +kernel
theorem dX4_abandon_24 : decode cX4_abandon 24 = .ok (.aload_n 0, 1) := by decide +kernel
theorem dX4_abandon_25 : decode cX4_abandon 25 = .ok (.iconst (-1), 1) := by decide +kernel
theorem dX4_abandon_26 : decode cX4_abandon 26 = .ok (.invokevirtual 72, 3) := by decide +kernel
theorem dX4_abandon_29 : decode cX4_abandon 29 = .ok (.istore_n 1, 1) := by decide +kernel
theorem dX4_abandon_30 : decode cX4_abandon 30 = .ok (.aload_n 0, 1) := by decide +kernel
theorem dX4_abandon_31 : decode cX4_abandon 31 = .ok (.iconst (-1), 1) := by decide +kernel
theorem dX4_abandon_32 : decode cX4_abandon 32 = .ok (.putfield 32, 3) := by decide +kernel
theorem dX4_abandon_35 : decode cX4_abandon 35 = .ok (.iload_n 1, 1) := by decide +kernel
theorem dX4_abandon_36 : decode cX4_abandon 36 = .ok (.aload_n 0, 1) := by decide +kernel
theorem dX4_abandon_37 : decode cX4_abandon 37 = .ok (.iconst (-1), 1) := by decide +kernel
theorem dX4_abandon_38 : decode cX4_abandon 38 = .ok (.invokevirtual 72, 3) := by decide +kernel
theorem dX4_abandon_41 : decode cX4_abandon 41 = .ok (.isub, 1) := by decide +kernel
theorem dX4_abandon_42 : decode cX4_abandon 42 = .ok (.ireturn, 1) := by decide +kernel
theorem dX4_isReader_0 : decode cX4_isReader 0 = .ok (.iload_n 1, 1) := by decide +kernel
theorem dX4_isReader_1 : decode cX4_isReader 1 = .ok (.iconst 0, 1) := by decide +kernel
theorem dX4_isReader_2 : decode cX4_isReader 2 = .ok (.iconst 3, 1) := by decide +kernel
theorem dX4_isReader_3 : decode cX4_isReader 3 = .ok (.invokestatic 76, 3) := by decide +kernel
theorem dX4_isReader_6 : decode cX4_isReader 6 = .ok (.ifCond .eq 17, 3) := by decide +kernel
theorem dX4_isReader_9 : decode cX4_isReader 9 = .ok (.aload_n 0, 1) := by decide +kernel
theorem dX4_isReader_10 : decode cX4_isReader 10 = .ok (.getfield 40, 3) := by decide +kernel
theorem dX4_isReader_13 : decode cX4_isReader 13 = .ok (.iload_n 1, 1) := by decide +kernel
theorem dX4_isReader_14 : decode cX4_isReader 14 = .ok (.iaload, 1) := by decide +kernel
theorem dX4_isReader_15 : decode cX4_isReader 15 = .ok (.iconst (-1), 1) := by decide +kernel
theorem dX4_isReader_16 : decode cX4_isReader 16 = .ok (.if_icmp .eq 7, 3) := by decide +kernel
theorem dX4_isReader_19 : decode cX4_isReader 19 = .ok (.iconst 1, 1) := by decide +kernel
theorem dX4_isReader_20 : decode cX4_isReader 20 = .ok (.goto 4, 3) := by decide +kernel
theorem dX4_isReader_23 : decode cX4_isReader 23 = .ok (.iconst 0, 1) := by decide +kernel
theorem dX4_isReader_24 : decode cX4_isReader 24 = .ok (.ireturn, 1) := by decide +kernel
theorem dX4_openReader_0 : decode cX4_openReader 0 = .ok (.iconst 0, 1) := by decide +kernel
theorem dX4_openReader_1 : decode cX4_openReader 1 = .ok (.istore_n 1, 1) := by decide +kernel
theorem dX4_openReader_2 : decode cX4_openReader 2 = .ok (.iload_n 1, 1) := by decide +kernel
theorem dX4_openReader_3 : decode cX4_openReader 3 = .ok (.iconst 4, 1) := by decide +kernel
theorem dX4_openReader_4 : decode cX4_openReader 4 = .ok (.if_icmp .ge 19, 3) := by decide +kernel
theorem dX4_openReader_7 : decode cX4_openReader 7 = .ok (.aload_n 0, 1) := by decide +kernel
theorem dX4_openReader_8 : decode cX4_openReader 8 = .ok (.getfield 40, 3) := by decide +kernel
theorem dX4_openReader_11 : decode cX4_openReader 11 = .ok (.iload_n 1, 1) := by decide +kernel
theorem dX4_openReader_12 : decode cX4_openReader 12 = .ok (.iaload, 1) := by decide +kernel
theorem dX4_openReader_13 : decode cX4_openReader 13 = .ok (.iconst (-1), 1) := by decide +kernel
theorem dX4_openReader_14 : decode cX4_openReader 14 = .ok (.if_icmp .eq 9, 3) := by decide +kernel
theorem dX4_openReader_17 : decode cX4_openReader 17 = .ok (.iinc 1 1, 3) := by decide +kernel
theorem dX4_openReader_20 : decode cX4_openReader 20 = .ok (.goto (-18), 3) := by decide +kernel
theorem dX4_openReader_23 : decode cX4_openReader 23 = .ok (.aload_n 0, 1) := by decide +kernel
theorem dX4_openReader_24 : decode cX4_openReader 24 = .ok (.iload_n 1, 1) := by decide +kernel
theorem dX4_openReader_25 : decode cX4_openReader 25 = .ok (.iconst 4, 1) := by decide +kernel
theorem dX4_openReader_26 : decode cX4_openReader 26 = .ok (.if_icmp .ge 7, 3) := by decide +kernel
theorem dX4_openReader_29 : decode cX4_openReader 29 = .ok (.iconst 1, 1) := by decide +kernel
theorem dX4_openReader_30 : decode cX4_openReader 30 = .ok (.goto 4, 3) := by decide +kernel
theorem dX4_openReader_33 : decode cX4_openReader 33 = .ok (.iconst 0, 1) := by decide +kernel
theorem dX4_openReader_34 : decode cX4_openReader 34 = .ok (.iconst 1, 1) := by decide +kernel
theorem dX4_openReader_35 : decode cX4_openReader 35 = .ok (.iconst 1, 1) := by decide +kernel
theorem dX4_openReader_36 : decode cX4_openReader 36 = .ok (.invokevirtual 118, 3) := by decide +kernel
theorem dX4_openReader_39 : decode cX4_openReader 39 = .ok (.ifCond .ne 5, 3) := by decide +kernel
theorem dX4_openReader_42 : decode cX4_openReader 42 = .ok (.iconst 0, 1) := by decide +kernel
theorem dX4_openReader_43 : decode cX4_openReader 43 = .ok (.ireturn, 1) := by decide +kernel
theorem dX4_openReader_44 : decode cX4_openReader 44 = .ok (.aload_n 0, 1) := by decide +kernel
theorem dX4_openReader_45 : decode cX4_openReader 45 = .ok (.getfield 40, 3) := by decide +kernel
theorem dX4_openReader_48 : decode cX4_openReader 48 = .ok (.iload_n 1, 1) := by decide +kernel
theorem dX4_openReader_49 : decode cX4_openReader 49 = .ok (.aload_n 0, 1) := by decide +kernel
theorem dX4_openReader_50 : decode cX4_openReader 50 = .ok (.getfield 61, 3) := by decide +kernel
theorem dX4_openReader_53 : decode cX4_openReader 53 = .ok (.iastore, 1) := by decide +kernel
theorem dX4_openReader_54 : decode cX4_openReader 54 = .ok (.aload_n 0, 1) := by decide +kernel
theorem dX4_openReader_55 : decode cX4_openReader 55 = .ok (.getfield 43, 3) := by decide +kernel
theorem dX4_openReader_58 : decode cX4_openReader 58 = .ok (.iload_n 1, 1) := by decide +kernel
theorem dX4_openReader_59 : decode cX4_openReader 59 = .ok (.aload_n 0, 1) := by decide +kernel
theorem dX4_openReader_60 : decode cX4_openReader 60 = .ok (.getfield 122, 3) := by decide +kernel
theorem dX4_openReader_63 : decode cX4_openReader 63 = .ok (.iastore, 1) := by decide +kernel
theorem dX4_openReader_64 : decode cX4_openReader 64 = .ok (.iload_n 1, 1) := by decide +kernel
theorem dX4_openReader_65 : decode cX4_openReader 65 = .ok (.ireturn, 1) := by decide +kernel
theorem dX4_held_0 : decode cX4_held 0 = .ok (.aload_n 0, 1) := by decide +kernel
theorem dX4_held_1 : decode cX4_held 1 = .ok (.iconst (-1), 1) := by decide +kernel
theorem dX4_held_2 : decode cX4_held 2 = .ok (.invokevirtual 72, 3) := by decide +kernel
theorem dX4_held_5 : decode cX4_held 5 = .ok (.istore_n 2, 1) := by decide +kernel
theorem dX4_held_6 : decode cX4_held 6 = .ok (.iload_n 2, 1) := by decide +kernel
theorem dX4_held_7 : decode cX4_held 7 = .ok (.aload_n 0, 1) := by decide +kernel
theorem dX4_held_8 : decode cX4_held 8 = .ok (.iload_n 1, 1) := by decide +kernel
theorem dX4_held_9 : decode cX4_held 9 = .ok (.invokevirtual 72, 3) := by decide +kernel
theorem dX4_held_12 : decode cX4_held 12 = .ok (.isub, 1) := by decide +kernel
theorem dX4_held_13 : decode cX4_held 13 = .ok (.ireturn, 1) := by decide +kernel
theorem dX4_closeReader_0 : decode cX4_closeReader 0 = .ok (.aload_n 0, 1) := by decide +kernel
theorem dX4_closeReader_1 : decode cX4_closeReader 1 = .ok (.aload_n 0, 1) := by decide +kernel
theorem dX4_closeReader_2 : decode cX4_closeReader 2 = .ok (.iload_n 1, 1) := by decide +kernel
theorem dX4_closeReader_3 : decode cX4_closeReader 3 = .ok (.invokevirtual 163, 3) := by decide +kernel
theorem dX4_closeReader_6 : decode cX4_closeReader 6 = .ok (.iconst 1, 1) := by decide +kernel
theorem dX4_closeReader_7 : decode cX4_closeReader 7 = .ok (.iconst 1, 1) := by decide +kernel
theorem dX4_closeReader_8 : decode cX4_closeReader 8 = .ok (.invokevirtual 118, 3) := by decide +kernel
theorem dX4_closeReader_11 : decode cX4_closeReader 11 = .ok (.ifCond .ne 5, 3) := by decide +kernel
theorem dX4_closeReader_14 : decode cX4_closeReader 14 = .ok (.iconst 0, 1) := by decide +kernel
theorem dX4_closeReader_15 : decode cX4_closeReader 15 = .ok (.ireturn, 1) := by decide +kernel
theorem dX4_closeReader_16 : decode cX4_closeReader 16 = .ok (.aload_n 0, 1) := by decide +kernel
theorem dX4_closeReader_17 : decode cX4_closeReader 17 = .ok (.iload_n 1, 1) := by decide +kernel
theorem dX4_closeReader_18 : decode cX4_closeReader 18 = .ok (.invokevirtual 166, 3) := by decide +kernel
theorem dX4_closeReader_21 : decode cX4_closeReader 21 = .ok (.istore_n 2, 1) := by decide +kernel
theorem dX4_closeReader_22 : decode cX4_closeReader 22 = .ok (.aload_n 0, 1) := by decide +kernel
theorem dX4_closeReader_23 : decode cX4_closeReader 23 = .ok (.getfield 40, 3) := by decide +kernel
theorem dX4_closeReader_26 : decode cX4_closeReader 26 = .ok (.iload_n 1, 1) := by decide +kernel
theorem dX4_closeReader_27 : decode cX4_closeReader 27 = .ok (.iconst (-1), 1) := by decide +kernel
theorem dX4_closeReader_28 : decode cX4_closeReader 28 = .ok (.iastore, 1) := by decide +kernel
theorem dX4_closeReader_29 : decode cX4_closeReader 29 = .ok (.iload_n 2, 1) := by decide +kernel
theorem dX4_closeReader_30 : decode cX4_closeReader 30 = .ok (.ireturn, 1) := by decide +kernel
theorem dX4_readers_0 : decode cX4_readers 0 = .ok (.aload_n 0, 1) := by decide +kernel
theorem dX4_readers_1 : decode cX4_readers 1 = .ok (.iconst 0, 1) := by decide +kernel
theorem dX4_readers_2 : decode cX4_readers 2 = .ok (.putfield 55, 3) := by decide +kernel
theorem dX4_readers_5 : decode cX4_readers 5 = .ok (.iconst 0, 1) := by decide +kernel
theorem dX4_readers_6 : decode cX4_readers 6 = .ok (.istore_n 1, 1) := by decide +kernel
theorem dX4_readers_7 : decode cX4_readers 7 = .ok (.iconst 0, 1) := by decide +kernel
theorem dX4_readers_8 : decode cX4_readers 8 = .ok (.istore_n 2, 1) := by decide +kernel
theorem dX4_readers_9 : decode cX4_readers 9 = .ok (.iload_n 2, 1) := by decide +kernel
theorem dX4_readers_10 : decode cX4_readers 10 = .ok (.iconst 4, 1) := by decide +kernel
theorem dX4_readers_11 : decode cX4_readers 11 = .ok (.if_icmp .ge 27, 3) := by decide +kernel
theorem dX4_readers_14 : decode cX4_readers 14 = .ok (.iload_n 1, 1) := by decide +kernel
theorem dX4_readers_15 : decode cX4_readers 15 = .ok (.aload_n 0, 1) := by decide +kernel
theorem dX4_readers_16 : decode cX4_readers 16 = .ok (.getfield 40, 3) := by decide +kernel
theorem dX4_readers_19 : decode cX4_readers 19 = .ok (.iload_n 2, 1) := by decide +kernel
theorem dX4_readers_20 : decode cX4_readers 20 = .ok (.iaload, 1) := by decide +kernel
theorem dX4_readers_21 : decode cX4_readers 21 = .ok (.iconst (-1), 1) := by decide +kernel
theorem dX4_readers_22 : decode cX4_readers 22 = .ok (.if_icmp .ne 7, 3) := by decide +kernel
theorem dX4_readers_25 : decode cX4_readers 25 = .ok (.iconst 0, 1) := by decide +kernel
theorem dX4_readers_26 : decode cX4_readers 26 = .ok (.goto 4, 3) := by decide +kernel
theorem dX4_readers_29 : decode cX4_readers 29 = .ok (.iconst 1, 1) := by decide +kernel
theorem dX4_readers_30 : decode cX4_readers 30 = .ok (.iadd, 1) := by decide +kernel
theorem dX4_readers_31 : decode cX4_readers 31 = .ok (.istore_n 1, 1) := by decide +kernel
theorem dX4_readers_32 : decode cX4_readers 32 = .ok (.iinc 2 1, 3) := by decide +kernel
theorem dX4_readers_35 : decode cX4_readers 35 = .ok (.goto (-26), 3) := by decide +kernel
theorem dX4_readers_38 : decode cX4_readers 38 = .ok (.iload_n 1, 1) := by decide +kernel
theorem dX4_readers_39 : decode cX4_readers 39 = .ok (.ireturn, 1) := by decide +kernel
theorem dX4_heldBy_0 : decode cX4_heldBy 0 = .ok (.aload_n 0, 1) := by decide +kernel
theorem dX4_heldBy_1 : decode cX4_heldBy 1 = .ok (.aload_n 0, 1) := by decide +kernel
theorem dX4_heldBy_2 : decode cX4_heldBy 2 = .ok (.iload_n 1, 1) := by decide +kernel
theorem dX4_heldBy_3 : decode cX4_heldBy 3 = .ok (.invokevirtual 163, 3) := by decide +kernel
theorem dX4_heldBy_6 : decode cX4_heldBy 6 = .ok (.iconst 1, 1) := by decide +kernel
theorem dX4_heldBy_7 : decode cX4_heldBy 7 = .ok (.iconst 1, 1) := by decide +kernel
theorem dX4_heldBy_8 : decode cX4_heldBy 8 = .ok (.invokevirtual 118, 3) := by decide +kernel
theorem dX4_heldBy_11 : decode cX4_heldBy 11 = .ok (.ifCond .eq 11, 3) := by decide +kernel
theorem dX4_heldBy_14 : decode cX4_heldBy 14 = .ok (.aload_n 0, 1) := by decide +kernel
theorem dX4_heldBy_15 : decode cX4_heldBy 15 = .ok (.iload_n 1, 1) := by decide +kernel
theorem dX4_heldBy_16 : decode cX4_heldBy 16 = .ok (.invokevirtual 166, 3) := by decide +kernel
theorem dX4_heldBy_19 : decode cX4_heldBy 19 = .ok (.goto 4, 3) := by decide +kernel
theorem dX4_heldBy_22 : decode cX4_heldBy 22 = .ok (.iconst 0, 1) := by decide +kernel
theorem dX4_heldBy_23 : decode cX4_heldBy 23 = .ok (.ireturn, 1) := by decide +kernel
theorem dX4_isView_0 : decode cX4_isView 0 = .ok (.iload_n 1, 1) := by decide +kernel
theorem dX4_isView_1 : decode cX4_isView 1 = .ok (.iconst (-1), 1) := by decide +kernel
theorem dX4_isView_2 : decode cX4_isView 2 = .ok (.if_icmp .eq 11, 3) := by decide +kernel
theorem dX4_isView_5 : decode cX4_isView 5 = .ok (.aload_n 0, 1) := by decide +kernel
theorem dX4_isView_6 : decode cX4_isView 6 = .ok (.iload_n 1, 1) := by decide +kernel
theorem dX4_isView_7 : decode cX4_isView 7 = .ok (.invokevirtual 163, 3) := by decide +kernel
theorem dX4_isView_10 : decode cX4_isView 10 = .ok (.ifCond .eq 7, 3) := by decide +kernel
theorem dX4_isView_13 : decode cX4_isView 13 = .ok (.iconst 1, 1) := by decide +kernel
theorem dX4_isView_14 : decode cX4_isView 14 = .ok (.goto 4, 3) := by decide +kernel
theorem dX4_isView_17 : decode cX4_isView 17 = .ok (.iconst 0, 1) := by decide +kernel
theorem dX4_isView_18 : decode cX4_isView 18 = .ok (.ireturn, 1) := by decide +kernel
theorem dX4_top_0 : decode cX4_top 0 = .ok (.iload_n 1, 1) := by decide +kernel
theorem dX4_top_1 : decode cX4_top 1 = .ok (.ifCond .lt 12, 3) := by decide +kernel
theorem dX4_top_4 : decode cX4_top 4 = .ok (.aload_n 0, 1) := by decide +kernel
theorem dX4_top_5 : decode cX4_top 5 = .ok (.getfield 40, 3) := by decide +kernel
theorem dX4_top_8 : decode cX4_top 8 = .ok (.iload_n 1, 1) := by decide +kernel
theorem dX4_top_9 : decode cX4_top 9 = .ok (.iaload, 1) := by decide +kernel
theorem dX4_top_10 : decode cX4_top 10 = .ok (.goto 22, 3) := by decide +kernel
theorem dX4_top_13 : decode cX4_top 13 = .ok (.aload_n 0, 1) := by decide +kernel
theorem dX4_top_14 : decode cX4_top 14 = .ok (.getfield 32, 3) := by decide +kernel
theorem dX4_top_17 : decode cX4_top 17 = .ok (.iconst (-1), 1) := by decide +kernel
theorem dX4_top_18 : decode cX4_top 18 = .ok (.if_icmp .eq 10, 3) := by decide +kernel
theorem dX4_top_21 : decode cX4_top 21 = .ok (.aload_n 0, 1) := by decide +kernel
theorem dX4_top_22 : decode cX4_top 22 = .ok (.getfield 32, 3) := by decide +kernel
theorem dX4_top_25 : decode cX4_top 25 = .ok (.goto 7, 3) := by decide +kernel
theorem dX4_top_28 : decode cX4_top 28 = .ok (.aload_n 0, 1) := by decide +kernel
theorem dX4_top_29 : decode cX4_top 29 = .ok (.getfield 61, 3) := by decide +kernel
theorem dX4_top_32 : decode cX4_top 32 = .ok (.ireturn, 1) := by decide +kernel
theorem dX4_below_0 : decode cX4_below 0 = .ok (.iconst 0, 1) := by decide +kernel
theorem dX4_below_1 : decode cX4_below 1 = .ok (.istore_n 3, 1) := by decide +kernel
theorem dX4_below_2 : decode cX4_below 2 = .ok (.iconst 1, 1) := by decide +kernel
theorem dX4_below_3 : decode cX4_below 3 = .ok (.istore 4, 2) := by decide +kernel
theorem dX4_below_5 : decode cX4_below 5 = .ok (.aload_n 0, 1) := by decide +kernel
theorem dX4_below_6 : decode cX4_below 6 = .ok (.getfield 29, 3) := by decide +kernel
theorem dX4_below_9 : decode cX4_below 9 = .ok (.iconst 0, 1) := by decide +kernel
theorem dX4_below_10 : decode cX4_below 10 = .ok (.iload_n 1, 1) := by decide +kernel
theorem dX4_below_11 : decode cX4_below 11 = .ok (.iastore, 1) := by decide +kernel
theorem dX4_below_12 : decode cX4_below 12 = .ok (.iload 4, 2) := by decide +kernel
theorem dX4_below_14 : decode cX4_below 14 = .ok (.ifCond .le 92, 3) := by decide +kernel
theorem dX4_below_17 : decode cX4_below 17 = .ok (.iinc 4 (-1), 3) := by decide +kernel
theorem dX4_below_20 : decode cX4_below 20 = .ok (.aload_n 0, 1) := by decide +kernel
theorem dX4_below_21 : decode cX4_below 21 = .ok (.getfield 29, 3) := by decide +kernel
theorem dX4_below_24 : decode cX4_below 24 = .ok (.iload 4, 2) := by decide +kernel
theorem dX4_below_26 : decode cX4_below 26 = .ok (.iaload, 1) := by decide +kernel
theorem dX4_below_27 : decode cX4_below 27 = .ok (.istore 5, 2) := by decide +kernel
theorem dX4_below_29 : decode cX4_below 29 = .ok (.iconst 0, 1) := by decide +kernel
theorem dX4_below_30 : decode cX4_below 30 = .ok (.istore 6, 2) := by decide +kernel
theorem dX4_below_32 : decode cX4_below 32 = .ok (.iload 6, 2) := by decide +kernel
theorem dX4_below_34 : decode cX4_below 34 = .ok (.aload_n 0, 1) := by decide +kernel
theorem dX4_below_35 : decode cX4_below 35 = .ok (.getfield 7, 3) := by decide +kernel
theorem dX4_below_38 : decode cX4_below 38 = .ok (.iload 5, 2) := by decide +kernel
theorem dX4_below_40 : decode cX4_below 40 = .ok (.iaload, 1) := by decide +kernel
theorem dX4_below_41 : decode cX4_below 41 = .ok (.if_icmp .ge 62, 3) := by decide +kernel
theorem dX4_below_44 : decode cX4_below 44 = .ok (.aload_n 0, 1) := by decide +kernel
theorem dX4_below_45 : decode cX4_below 45 = .ok (.getfield 17, 3) := by decide +kernel
theorem dX4_below_48 : decode cX4_below 48 = .ok (.iconst 5, 1) := by decide +kernel
theorem dX4_below_49 : decode cX4_below 49 = .ok (.iload 5, 2) := by decide +kernel
theorem dX4_below_51 : decode cX4_below 51 = .ok (.imul, 1) := by decide +kernel
theorem dX4_below_52 : decode cX4_below 52 = .ok (.iload 6, 2) := by decide +kernel
theorem dX4_below_54 : decode cX4_below 54 = .ok (.iadd, 1) := by decide +kernel
theorem dX4_below_55 : decode cX4_below 55 = .ok (.iaload, 1) := by decide +kernel
theorem dX4_below_56 : decode cX4_below 56 = .ok (.istore 7, 2) := by decide +kernel
theorem dX4_below_58 : decode cX4_below 58 = .ok (.aload_n 0, 1) := by decide +kernel
theorem dX4_below_59 : decode cX4_below 59 = .ok (.getfield 13, 3) := by decide +kernel
theorem dX4_below_62 : decode cX4_below 62 = .ok (.iload 5, 2) := by decide +kernel
theorem dX4_below_64 : decode cX4_below 64 = .ok (.baload, 1) := by decide +kernel
theorem dX4_below_65 : decode cX4_below 65 = .ok (.ifCond .eq 18, 3) := by decide +kernel
theorem dX4_below_68 : decode cX4_below 68 = .ok (.aload_n 0, 1) := by decide +kernel
theorem dX4_below_69 : decode cX4_below 69 = .ok (.getfield 29, 3) := by decide +kernel
theorem dX4_below_72 : decode cX4_below 72 = .ok (.iload 4, 2) := by decide +kernel
theorem dX4_below_74 : decode cX4_below 74 = .ok (.iload 7, 2) := by decide +kernel
theorem dX4_below_76 : decode cX4_below 76 = .ok (.iastore, 1) := by decide +kernel
theorem dX4_below_77 : decode cX4_below 77 = .ok (.iinc 4 1, 3) := by decide +kernel
theorem dX4_below_80 : decode cX4_below 80 = .ok (.goto 17, 3) := by decide +kernel
theorem dX4_below_83 : decode cX4_below 83 = .ok (.iload_n 3, 1) := by decide +kernel
theorem dX4_below_84 : decode cX4_below 84 = .ok (.iload 7, 2) := by decide +kernel
theorem dX4_below_86 : decode cX4_below 86 = .ok (.iload_n 2, 1) := by decide +kernel
theorem dX4_below_87 : decode cX4_below 87 = .ok (.if_icmp .ge 7, 3) := by decide +kernel
theorem dX4_below_90 : decode cX4_below 90 = .ok (.iconst 1, 1) := by decide +kernel
theorem dX4_below_91 : decode cX4_below 91 = .ok (.goto 4, 3) := by decide +kernel
theorem dX4_below_94 : decode cX4_below 94 = .ok (.iconst 0, 1) := by decide +kernel
theorem dX4_below_95 : decode cX4_below 95 = .ok (.iadd, 1) := by decide +kernel
theorem dX4_below_96 : decode cX4_below 96 = .ok (.istore_n 3, 1) := by decide +kernel
theorem dX4_below_97 : decode cX4_below 97 = .ok (.iinc 6 1, 3) := by decide +kernel
theorem dX4_below_100 : decode cX4_below 100 = .ok (.goto (-68), 3) := by decide +kernel
theorem dX4_below_103 : decode cX4_below 103 = .ok (.goto (-91), 3) := by decide +kernel
theorem dX4_below_106 : decode cX4_below 106 = .ok (.iload_n 3, 1) := by decide +kernel
theorem dX4_below_107 : decode cX4_below 107 = .ok (.ireturn, 1) := by decide +kernel
theorem dX4_keys_0 : decode cX4_keys 0 = .ok (.aload_n 0, 1) := by decide +kernel
theorem dX4_keys_1 : decode cX4_keys 1 = .ok (.iload_n 1, 1) := by decide +kernel
theorem dX4_keys_2 : decode cX4_keys 2 = .ok (.bipush 100, 2) := by decide +kernel
theorem dX4_keys_4 : decode cX4_keys 4 = .ok (.invokevirtual 169, 3) := by decide +kernel
theorem dX4_keys_7 : decode cX4_keys 7 = .ok (.ireturn, 1) := by decide +kernel
theorem dX4_epochOf_0 : decode cX4_epochOf 0 = .ok (.aload_n 0, 1) := by decide +kernel
theorem dX4_epochOf_1 : decode cX4_epochOf 1 = .ok (.aload_n 0, 1) := by decide +kernel
theorem dX4_epochOf_2 : decode cX4_epochOf 2 = .ok (.iload_n 1, 1) := by decide +kernel
theorem dX4_epochOf_3 : decode cX4_epochOf 3 = .ok (.invokevirtual 172, 3) := by decide +kernel
theorem dX4_epochOf_6 : decode cX4_epochOf 6 = .ok (.iconst 1, 1) := by decide +kernel
theorem dX4_epochOf_7 : decode cX4_epochOf 7 = .ok (.iconst 1, 1) := by decide +kernel
theorem dX4_epochOf_8 : decode cX4_epochOf 8 = .ok (.invokevirtual 118, 3) := by decide +kernel
theorem dX4_epochOf_11 : decode cX4_epochOf 11 = .ok (.ifCond .ne 5, 3) := by decide +kernel
theorem dX4_epochOf_14 : decode cX4_epochOf 14 = .ok (.iconst 0, 1) := by decide +kernel
theorem dX4_epochOf_15 : decode cX4_epochOf 15 = .ok (.ireturn, 1) := by decide +kernel
theorem dX4_epochOf_16 : decode cX4_epochOf 16 = .ok (.iload_n 1, 1) := by decide +kernel
theorem dX4_epochOf_17 : decode cX4_epochOf 17 = .ok (.ifCond .lt 12, 3) := by decide +kernel
theorem dX4_epochOf_20 : decode cX4_epochOf 20 = .ok (.aload_n 0, 1) := by decide +kernel
theorem dX4_epochOf_21 : decode cX4_epochOf 21 = .ok (.getfield 43, 3) := by decide +kernel
theorem dX4_epochOf_24 : decode cX4_epochOf 24 = .ok (.iload_n 1, 1) := by decide +kernel
theorem dX4_epochOf_25 : decode cX4_epochOf 25 = .ok (.iaload, 1) := by decide +kernel
theorem dX4_epochOf_26 : decode cX4_epochOf 26 = .ok (.goto 24, 3) := by decide +kernel
theorem dX4_epochOf_29 : decode cX4_epochOf 29 = .ok (.aload_n 0, 1) := by decide +kernel
theorem dX4_epochOf_30 : decode cX4_epochOf 30 = .ok (.getfield 32, 3) := by decide +kernel
theorem dX4_epochOf_33 : decode cX4_epochOf 33 = .ok (.iconst (-1), 1) := by decide +kernel
theorem dX4_epochOf_34 : decode cX4_epochOf 34 = .ok (.if_icmp .eq 12, 3) := by decide +kernel
theorem dX4_epochOf_37 : decode cX4_epochOf 37 = .ok (.aload_n 0, 1) := by decide +kernel
theorem dX4_epochOf_38 : decode cX4_epochOf 38 = .ok (.getfield 122, 3) := by decide +kernel
theorem dX4_epochOf_41 : decode cX4_epochOf 41 = .ok (.iconst 1, 1) := by decide +kernel
theorem dX4_epochOf_42 : decode cX4_epochOf 42 = .ok (.iadd, 1) := by decide +kernel
theorem dX4_epochOf_43 : decode cX4_epochOf 43 = .ok (.goto 7, 3) := by decide +kernel
theorem dX4_epochOf_46 : decode cX4_epochOf 46 = .ok (.aload_n 0, 1) := by decide +kernel
theorem dX4_epochOf_47 : decode cX4_epochOf 47 = .ok (.getfield 122, 3) := by decide +kernel
theorem dX4_epochOf_50 : decode cX4_epochOf 50 = .ok (.ireturn, 1) := by decide +kernel
theorem dX4_get_0 : decode cX4_get 0 = .ok (.aload_n 0, 1) := by decide +kernel
theorem dX4_get_1 : decode cX4_get 1 = .ok (.iload_n 1, 1) := by decide +kernel
theorem dX4_get_2 : decode cX4_get 2 = .ok (.invokevirtual 172, 3) := by decide +kernel
theorem dX4_get_5 : decode cX4_get 5 = .ok (.ifCond .eq 17, 3) := by decide +kernel
theorem dX4_get_8 : decode cX4_get 8 = .ok (.iload_n 2, 1) := by decide +kernel
theorem dX4_get_9 : decode cX4_get 9 = .ok (.iconst 0, 1) := by decide +kernel
theorem dX4_get_10 : decode cX4_get 10 = .ok (.bipush 99, 2) := by decide +kernel
theorem dX4_get_12 : decode cX4_get 12 = .ok (.invokestatic 76, 3) := by decide +kernel
theorem dX4_get_15 : decode cX4_get 15 = .ok (.ifCond .eq 7, 3) := by decide +kernel
theorem dX4_get_18 : decode cX4_get 18 = .ok (.iconst 1, 1) := by decide +kernel
theorem dX4_get_19 : decode cX4_get 19 = .ok (.goto 4, 3) := by decide +kernel
theorem dX4_get_22 : decode cX4_get 22 = .ok (.iconst 0, 1) := by decide +kernel
theorem dX4_get_23 : decode cX4_get 23 = .ok (.istore_n 3, 1) := by decide +kernel
theorem dX4_get_24 : decode cX4_get 24 = .ok (.iconst 0, 1) := by decide +kernel
theorem dX4_get_25 : decode cX4_get 25 = .ok (.istore 4, 2) := by decide +kernel
theorem dX4_get_27 : decode cX4_get 27 = .ok (.iload_n 3, 1) := by decide +kernel
theorem dX4_get_28 : decode cX4_get 28 = .ok (.ifCond .eq 29, 3) := by decide +kernel
theorem dX4_get_31 : decode cX4_get 31 = .ok (.aload_n 0, 1) := by decide +kernel
theorem dX4_get_32 : decode cX4_get 32 = .ok (.aload_n 0, 1) := by decide +kernel
theorem dX4_get_33 : decode cX4_get 33 = .ok (.iload_n 1, 1) := by decide +kernel
theorem dX4_get_34 : decode cX4_get 34 = .ok (.invokevirtual 175, 3) := by decide +kernel
theorem dX4_get_37 : decode cX4_get 37 = .ok (.iload_n 2, 1) := by decide +kernel
theorem dX4_get_38 : decode cX4_get 38 = .ok (.invokevirtual 125, 3) := by decide +kernel
theorem dX4_get_41 : decode cX4_get 41 = .ok (.aload_n 0, 1) := by decide +kernel
theorem dX4_get_42 : decode cX4_get 42 = .ok (.aload_n 0, 1) := by decide +kernel
theorem dX4_get_43 : decode cX4_get 43 = .ok (.getfield 46, 3) := by decide +kernel
theorem dX4_get_46 : decode cX4_get 46 = .ok (.aload_n 0, 1) := by decide +kernel
theorem dX4_get_47 : decode cX4_get 47 = .ok (.getfield 91, 3) := by decide +kernel
theorem dX4_get_50 : decode cX4_get 50 = .ok (.iaload, 1) := by decide +kernel
theorem dX4_get_51 : decode cX4_get 51 = .ok (.iload_n 2, 1) := by decide +kernel
theorem dX4_get_52 : decode cX4_get 52 = .ok (.invokevirtual 131, 3) := by decide +kernel
theorem dX4_get_55 : decode cX4_get 55 = .ok (.istore 4, 2) := by decide +kernel
theorem dX4_get_57 : decode cX4_get 57 = .ok (.aload_n 0, 1) := by decide +kernel
theorem dX4_get_58 : decode cX4_get 58 = .ok (.aload_n 0, 1) := by decide +kernel
theorem dX4_get_59 : decode cX4_get 59 = .ok (.iload_n 1, 1) := by decide +kernel
theorem dX4_get_60 : decode cX4_get 60 = .ok (.invokevirtual 172, 3) := by decide +kernel
theorem dX4_get_63 : decode cX4_get 63 = .ok (.iload_n 2, 1) := by decide +kernel
theorem dX4_get_64 : decode cX4_get 64 = .ok (.iconst 0, 1) := by decide +kernel
theorem dX4_get_65 : decode cX4_get 65 = .ok (.bipush 99, 2) := by decide +kernel
theorem dX4_get_67 : decode cX4_get 67 = .ok (.invokestatic 76, 3) := by decide +kernel
theorem dX4_get_70 : decode cX4_get 70 = .ok (.iload_n 3, 1) := by decide +kernel
theorem dX4_get_71 : decode cX4_get 71 = .ok (.ifCond .eq 26, 3) := by decide +kernel
theorem dX4_get_74 : decode cX4_get 74 = .ok (.aload_n 0, 1) := by decide +kernel
theorem dX4_get_75 : decode cX4_get 75 = .ok (.aload_n 0, 1) := by decide +kernel
theorem dX4_get_76 : decode cX4_get 76 = .ok (.getfield 46, 3) := by decide +kernel
theorem dX4_get_79 : decode cX4_get 79 = .ok (.aload_n 0, 1) := by decide +kernel
theorem dX4_get_80 : decode cX4_get 80 = .ok (.getfield 91, 3) := by decide +kernel
theorem dX4_get_83 : decode cX4_get 83 = .ok (.iaload, 1) := by decide +kernel
theorem dX4_get_84 : decode cX4_get 84 = .ok (.iload 4, 2) := by decide +kernel
theorem dX4_get_86 : decode cX4_get 86 = .ok (.iload_n 2, 1) := by decide +kernel
theorem dX4_get_87 : decode cX4_get 87 = .ok (.invokevirtual 134, 3) := by decide +kernel
theorem dX4_get_90 : decode cX4_get 90 = .ok (.ifCond .eq 7, 3) := by decide +kernel
theorem dX4_get_93 : decode cX4_get 93 = .ok (.iconst 1, 1) := by decide +kernel
theorem dX4_get_94 : decode cX4_get 94 = .ok (.goto 4, 3) := by decide +kernel
theorem dX4_get_97 : decode cX4_get 97 = .ok (.iconst 0, 1) := by decide +kernel
theorem dX4_get_98 : decode cX4_get 98 = .ok (.invokevirtual 118, 3) := by decide +kernel
theorem dX4_get_101 : decode cX4_get 101 = .ok (.istore 5, 2) := by decide +kernel
theorem dX4_get_103 : decode cX4_get 103 = .ok (.iload 5, 2) := by decide +kernel
theorem dX4_get_105 : decode cX4_get 105 = .ok (.ifCond .eq 25, 3) := by decide +kernel
theorem dX4_get_108 : decode cX4_get 108 = .ok (.aload_n 0, 1) := by decide +kernel
theorem dX4_get_109 : decode cX4_get 109 = .ok (.getfield 20, 3) := by decide +kernel
theorem dX4_get_112 : decode cX4_get 112 = .ok (.iconst 5, 1) := by decide +kernel
theorem dX4_get_113 : decode cX4_get 113 = .ok (.aload_n 0, 1) := by decide +kernel
theorem dX4_get_114 : decode cX4_get 114 = .ok (.getfield 46, 3) := by decide +kernel
theorem dX4_get_117 : decode cX4_get 117 = .ok (.aload_n 0, 1) := by decide +kernel
theorem dX4_get_118 : decode cX4_get 118 = .ok (.getfield 91, 3) := by decide +kernel
theorem dX4_get_121 : decode cX4_get 121 = .ok (.iaload, 1) := by decide +kernel
theorem dX4_get_122 : decode cX4_get 122 = .ok (.imul, 1) := by decide +kernel
theorem dX4_get_123 : decode cX4_get 123 = .ok (.iload 4, 2) := by decide +kernel
theorem dX4_get_125 : decode cX4_get 125 = .ok (.iadd, 1) := by decide +kernel
theorem dX4_get_126 : decode cX4_get 126 = .ok (.iaload, 1) := by decide +kernel
theorem dX4_get_127 : decode cX4_get 127 = .ok (.goto 4, 3) := by decide +kernel
theorem dX4_get_130 : decode cX4_get 130 = .ok (.iconst 0, 1) := by decide +kernel
theorem dX4_get_131 : decode cX4_get 131 = .ok (.ireturn, 1) := by decide +kernel
theorem dX4_next_0 : decode cX4_next 0 = .ok (.aload_n 0, 1) := by decide +kernel
theorem dX4_next_1 : decode cX4_next 1 = .ok (.aload_n 0, 1) := by decide +kernel
theorem dX4_next_2 : decode cX4_next 2 = .ok (.iload_n 1, 1) := by decide +kernel
theorem dX4_next_3 : decode cX4_next 3 = .ok (.invokevirtual 172, 3) := by decide +kernel
theorem dX4_next_6 : decode cX4_next 6 = .ok (.iconst 1, 1) := by decide +kernel
theorem dX4_next_7 : decode cX4_next 7 = .ok (.iconst 1, 1) := by decide +kernel
theorem dX4_next_8 : decode cX4_next 8 = .ok (.invokevirtual 118, 3) := by decide +kernel
theorem dX4_next_11 : decode cX4_next 11 = .ok (.ifCond .ne 5, 3) := by decide +kernel
theorem dX4_next_14 : decode cX4_next 14 = .ok (.iconst 0, 1) := by decide +kernel
theorem dX4_next_15 : decode cX4_next 15 = .ok (.ireturn, 1) := by decide +kernel
theorem dX4_next_16 : decode cX4_next 16 = .ok (.iload_n 2, 1) := by decide +kernel
theorem dX4_next_17 : decode cX4_next 17 = .ok (.ifCond .ge 7, 3) := by decide +kernel
theorem dX4_next_20 : decode cX4_next 20 = .ok (.iconst 0, 1) := by decide +kernel
theorem dX4_next_21 : decode cX4_next 21 = .ok (.goto 4, 3) := by decide +kernel
theorem dX4_next_24 : decode cX4_next 24 = .ok (.iload_n 2, 1) := by decide +kernel
theorem dX4_next_25 : decode cX4_next 25 = .ok (.istore_n 3, 1) := by decide +kernel
theorem dX4_next_26 : decode cX4_next 26 = .ok (.iload_n 3, 1) := by decide +kernel
theorem dX4_next_27 : decode cX4_next 27 = .ok (.bipush 100, 2) := by decide +kernel
theorem dX4_next_29 : decode cX4_next 29 = .ok (.if_icmp .ge 52, 3) := by decide +kernel
theorem dX4_next_32 : decode cX4_next 32 = .ok (.aload_n 0, 1) := by decide +kernel
theorem dX4_next_33 : decode cX4_next 33 = .ok (.aload_n 0, 1) := by decide +kernel
theorem dX4_next_34 : decode cX4_next 34 = .ok (.iload_n 1, 1) := by decide +kernel
theorem dX4_next_35 : decode cX4_next 35 = .ok (.invokevirtual 175, 3) := by decide +kernel
theorem dX4_next_38 : decode cX4_next 38 = .ok (.iload_n 3, 1) := by decide +kernel
theorem dX4_next_39 : decode cX4_next 39 = .ok (.invokevirtual 125, 3) := by decide +kernel
theorem dX4_next_42 : decode cX4_next 42 = .ok (.aload_n 0, 1) := by decide +kernel
theorem dX4_next_43 : decode cX4_next 43 = .ok (.aload_n 0, 1) := by decide +kernel
theorem dX4_next_44 : decode cX4_next 44 = .ok (.getfield 46, 3) := by decide +kernel
theorem dX4_next_47 : decode cX4_next 47 = .ok (.aload_n 0, 1) := by decide +kernel
theorem dX4_next_48 : decode cX4_next 48 = .ok (.getfield 91, 3) := by decide +kernel
theorem dX4_next_51 : decode cX4_next 51 = .ok (.iaload, 1) := by decide +kernel
theorem dX4_next_52 : decode cX4_next 52 = .ok (.aload_n 0, 1) := by decide +kernel
theorem dX4_next_53 : decode cX4_next 53 = .ok (.aload_n 0, 1) := by decide +kernel
theorem dX4_next_54 : decode cX4_next 54 = .ok (.getfield 46, 3) := by decide +kernel
theorem dX4_next_57 : decode cX4_next 57 = .ok (.aload_n 0, 1) := by decide +kernel
theorem dX4_next_58 : decode cX4_next 58 = .ok (.getfield 91, 3) := by decide +kernel
theorem dX4_next_61 : decode cX4_next 61 = .ok (.iaload, 1) := by decide +kernel
theorem dX4_next_62 : decode cX4_next 62 = .ok (.iload_n 3, 1) := by decide +kernel
theorem dX4_next_63 : decode cX4_next 63 = .ok (.invokevirtual 131, 3) := by decide +kernel
theorem dX4_next_66 : decode cX4_next 66 = .ok (.iload_n 3, 1) := by decide +kernel
theorem dX4_next_67 : decode cX4_next 67 = .ok (.invokevirtual 134, 3) := by decide +kernel
theorem dX4_next_70 : decode cX4_next 70 = .ok (.ifCond .eq 5, 3) := by decide +kernel
theorem dX4_next_73 : decode cX4_next 73 = .ok (.iload_n 3, 1) := by decide +kernel
theorem dX4_next_74 : decode cX4_next 74 = .ok (.ireturn, 1) := by decide +kernel
theorem dX4_next_75 : decode cX4_next 75 = .ok (.iinc 3 1, 3) := by decide +kernel
theorem dX4_next_78 : decode cX4_next 78 = .ok (.goto (-52), 3) := by decide +kernel
theorem dX4_next_81 : decode cX4_next 81 = .ok (.iconst (-1), 1) := by decide +kernel
theorem dX4_next_82 : decode cX4_next 82 = .ok (.ireturn, 1) := by decide +kernel
theorem dX4_rank_0 : decode cX4_rank 0 = .ok (.aload_n 0, 1) := by decide +kernel
theorem dX4_rank_1 : decode cX4_rank 1 = .ok (.aload_n 0, 1) := by decide +kernel
theorem dX4_rank_2 : decode cX4_rank 2 = .ok (.iload_n 1, 1) := by decide +kernel
theorem dX4_rank_3 : decode cX4_rank 3 = .ok (.invokevirtual 172, 3) := by decide +kernel
theorem dX4_rank_6 : decode cX4_rank 6 = .ok (.iconst 1, 1) := by decide +kernel
theorem dX4_rank_7 : decode cX4_rank 7 = .ok (.iconst 1, 1) := by decide +kernel
theorem dX4_rank_8 : decode cX4_rank 8 = .ok (.invokevirtual 118, 3) := by decide +kernel
theorem dX4_rank_11 : decode cX4_rank 11 = .ok (.ifCond .eq 16, 3) := by decide +kernel
theorem dX4_rank_14 : decode cX4_rank 14 = .ok (.aload_n 0, 1) := by decide +kernel
theorem dX4_rank_15 : decode cX4_rank 15 = .ok (.aload_n 0, 1) := by decide +kernel
theorem dX4_rank_16 : decode cX4_rank 16 = .ok (.iload_n 1, 1) := by decide +kernel
theorem dX4_rank_17 : decode cX4_rank 17 = .ok (.invokevirtual 175, 3) := by decide +kernel
theorem dX4_rank_20 : decode cX4_rank 20 = .ok (.iload_n 2, 1) := by decide +kernel
theorem dX4_rank_21 : decode cX4_rank 21 = .ok (.invokevirtual 169, 3) := by decide +kernel
theorem dX4_rank_24 : decode cX4_rank 24 = .ok (.goto 4, 3) := by decide +kernel
theorem dX4_rank_27 : decode cX4_rank 27 = .ok (.iconst 0, 1) := by decide +kernel
theorem dX4_rank_28 : decode cX4_rank 28 = .ok (.ireturn, 1) := by decide +kernel
theorem dX4_size_0 : decode cX4_size 0 = .ok (.aload_n 0, 1) := by decide +kernel
theorem dX4_size_1 : decode cX4_size 1 = .ok (.aload_n 0, 1) := by decide +kernel
theorem dX4_size_2 : decode cX4_size 2 = .ok (.iload_n 1, 1) := by decide +kernel
theorem dX4_size_3 : decode cX4_size 3 = .ok (.invokevirtual 172, 3) := by decide +kernel
theorem dX4_size_6 : decode cX4_size 6 = .ok (.iconst 1, 1) := by decide +kernel
theorem dX4_size_7 : decode cX4_size 7 = .ok (.iconst 1, 1) := by decide +kernel
theorem dX4_size_8 : decode cX4_size 8 = .ok (.invokevirtual 118, 3) := by decide +kernel
theorem dX4_size_11 : decode cX4_size 11 = .ok (.ifCond .eq 15, 3) := by decide +kernel
theorem dX4_size_14 : decode cX4_size 14 = .ok (.aload_n 0, 1) := by decide +kernel
theorem dX4_size_15 : decode cX4_size 15 = .ok (.aload_n 0, 1) := by decide +kernel
theorem dX4_size_16 : decode cX4_size 16 = .ok (.iload_n 1, 1) := by decide +kernel
theorem dX4_size_17 : decode cX4_size 17 = .ok (.invokevirtual 175, 3) := by decide +kernel
theorem dX4_size_20 : decode cX4_size 20 = .ok (.invokevirtual 147, 3) := by decide +kernel
theorem dX4_size_23 : decode cX4_size 23 = .ok (.goto 4, 3) := by decide +kernel
theorem dX4_size_26 : decode cX4_size 26 = .ok (.iconst 0, 1) := by decide +kernel
theorem dX4_size_27 : decode cX4_size 27 = .ok (.ireturn, 1) := by decide +kernel
theorem dX4_depth_0 : decode cX4_depth 0 = .ok (.aload_n 0, 1) := by decide +kernel
theorem dX4_depth_1 : decode cX4_depth 1 = .ok (.aload_n 0, 1) := by decide +kernel
theorem dX4_depth_2 : decode cX4_depth 2 = .ok (.iload_n 1, 1) := by decide +kernel
theorem dX4_depth_3 : decode cX4_depth 3 = .ok (.invokevirtual 172, 3) := by decide +kernel
theorem dX4_depth_6 : decode cX4_depth 6 = .ok (.iconst 1, 1) := by decide +kernel
theorem dX4_depth_7 : decode cX4_depth 7 = .ok (.iconst 1, 1) := by decide +kernel
theorem dX4_depth_8 : decode cX4_depth 8 = .ok (.invokevirtual 118, 3) := by decide +kernel
theorem dX4_depth_11 : decode cX4_depth 11 = .ok (.ifCond .ne 5, 3) := by decide +kernel
theorem dX4_depth_14 : decode cX4_depth 14 = .ok (.iconst 0, 1) := by decide +kernel
theorem dX4_depth_15 : decode cX4_depth 15 = .ok (.ireturn, 1) := by decide +kernel
theorem dX4_depth_16 : decode cX4_depth 16 = .ok (.aload_n 0, 1) := by decide +kernel
theorem dX4_depth_17 : decode cX4_depth 17 = .ok (.aload_n 0, 1) := by decide +kernel
theorem dX4_depth_18 : decode cX4_depth 18 = .ok (.iload_n 1, 1) := by decide +kernel
theorem dX4_depth_19 : decode cX4_depth 19 = .ok (.invokevirtual 175, 3) := by decide +kernel
theorem dX4_depth_22 : decode cX4_depth 22 = .ok (.iconst 0, 1) := by decide +kernel
theorem dX4_depth_23 : decode cX4_depth 23 = .ok (.invokevirtual 125, 3) := by decide +kernel
theorem dX4_depth_26 : decode cX4_depth 26 = .ok (.aload_n 0, 1) := by decide +kernel
theorem dX4_depth_27 : decode cX4_depth 27 = .ok (.getfield 91, 3) := by decide +kernel
theorem dX4_depth_30 : decode cX4_depth 30 = .ok (.iconst 1, 1) := by decide +kernel
theorem dX4_depth_31 : decode cX4_depth 31 = .ok (.iadd, 1) := by decide +kernel
theorem dX4_depth_32 : decode cX4_depth 32 = .ok (.ireturn, 1) := by decide +kernel
theorem dX4_rootOf_0 : decode cX4_rootOf 0 = .ok (.aload_n 0, 1) := by decide +kernel
theorem dX4_rootOf_1 : decode cX4_rootOf 1 = .ok (.aload_n 0, 1) := by decide +kernel
theorem dX4_rootOf_2 : decode cX4_rootOf 2 = .ok (.iload_n 1, 1) := by decide +kernel
theorem dX4_rootOf_3 : decode cX4_rootOf 3 = .ok (.invokevirtual 172, 3) := by decide +kernel
theorem dX4_rootOf_6 : decode cX4_rootOf 6 = .ok (.iconst 1, 1) := by decide +kernel
theorem dX4_rootOf_7 : decode cX4_rootOf 7 = .ok (.iconst 1, 1) := by decide +kernel
theorem dX4_rootOf_8 : decode cX4_rootOf 8 = .ok (.invokevirtual 118, 3) := by decide +kernel
theorem dX4_rootOf_11 : decode cX4_rootOf 11 = .ok (.ifCond .eq 11, 3) := by decide +kernel
theorem dX4_rootOf_14 : decode cX4_rootOf 14 = .ok (.aload_n 0, 1) := by decide +kernel
theorem dX4_rootOf_15 : decode cX4_rootOf 15 = .ok (.iload_n 1, 1) := by decide +kernel
theorem dX4_rootOf_16 : decode cX4_rootOf 16 = .ok (.invokevirtual 175, 3) := by decide +kernel
theorem dX4_rootOf_19 : decode cX4_rootOf 19 = .ok (.goto 4, 3) := by decide +kernel
theorem dX4_rootOf_22 : decode cX4_rootOf 22 = .ok (.iconst 0, 1) := by decide +kernel
theorem dX4_rootOf_23 : decode cX4_rootOf 23 = .ok (.ireturn, 1) := by decide +kernel
theorem dX4_shared_0 : decode cX4_shared 0 = .ok (.iconst 0, 1) := by decide +kernel
theorem dX4_shared_1 : decode cX4_shared 1 = .ok (.istore_n 2, 1) := by decide +kernel
theorem dX4_shared_2 : decode cX4_shared 2 = .ok (.iconst 1, 1) := by decide +kernel
theorem dX4_shared_3 : decode cX4_shared 3 = .ok (.istore_n 3, 1) := by decide +kernel
theorem dX4_shared_4 : decode cX4_shared 4 = .ok (.aload_n 0, 1) := by decide +kernel
theorem dX4_shared_5 : decode cX4_shared 5 = .ok (.getfield 29, 3) := by decide +kernel
theorem dX4_shared_8 : decode cX4_shared 8 = .ok (.iconst 0, 1) := by decide +kernel
theorem dX4_shared_9 : decode cX4_shared 9 = .ok (.iload_n 1, 1) := by decide +kernel
theorem dX4_shared_10 : decode cX4_shared 10 = .ok (.iastore, 1) := by decide +kernel
theorem dX4_shared_11 : decode cX4_shared 11 = .ok (.iload_n 3, 1) := by decide +kernel
theorem dX4_shared_12 : decode cX4_shared 12 = .ok (.ifCond .le 87, 3) := by decide +kernel
theorem dX4_shared_15 : decode cX4_shared 15 = .ok (.iinc 3 (-1), 3) := by decide +kernel
theorem dX4_shared_18 : decode cX4_shared 18 = .ok (.aload_n 0, 1) := by decide +kernel
theorem dX4_shared_19 : decode cX4_shared 19 = .ok (.getfield 29, 3) := by decide +kernel
theorem dX4_shared_22 : decode cX4_shared 22 = .ok (.iload_n 3, 1) := by decide +kernel
theorem dX4_shared_23 : decode cX4_shared 23 = .ok (.iaload, 1) := by decide +kernel
theorem dX4_shared_24 : decode cX4_shared 24 = .ok (.istore 4, 2) := by decide +kernel
theorem dX4_shared_26 : decode cX4_shared 26 = .ok (.iload_n 2, 1) := by decide +kernel
theorem dX4_shared_27 : decode cX4_shared 27 = .ok (.aload_n 0, 1) := by decide +kernel
theorem dX4_shared_28 : decode cX4_shared 28 = .ok (.getfield 26, 3) := by decide +kernel
theorem dX4_shared_31 : decode cX4_shared 31 = .ok (.iload 4, 2) := by decide +kernel
theorem dX4_shared_33 : decode cX4_shared 33 = .ok (.baload, 1) := by decide +kernel
theorem dX4_shared_34 : decode cX4_shared 34 = .ok (.ifCond .eq 7, 3) := by decide +kernel
theorem dX4_shared_37 : decode cX4_shared 37 = .ok (.iconst 1, 1) := by decide +kernel
theorem dX4_shared_38 : decode cX4_shared 38 = .ok (.goto 4, 3) := by decide +kernel
theorem dX4_shared_41 : decode cX4_shared 41 = .ok (.iconst 0, 1) := by decide +kernel
theorem dX4_shared_42 : decode cX4_shared 42 = .ok (.iadd, 1) := by decide +kernel
theorem dX4_shared_43 : decode cX4_shared 43 = .ok (.istore_n 2, 1) := by decide +kernel
theorem dX4_shared_44 : decode cX4_shared 44 = .ok (.iconst 0, 1) := by decide +kernel
theorem dX4_shared_45 : decode cX4_shared 45 = .ok (.istore 5, 2) := by decide +kernel
theorem dX4_shared_47 : decode cX4_shared 47 = .ok (.iload 5, 2) := by decide +kernel
theorem dX4_shared_49 : decode cX4_shared 49 = .ok (.aload_n 0, 1) := by decide +kernel
theorem dX4_shared_50 : decode cX4_shared 50 = .ok (.getfield 7, 3) := by decide +kernel
theorem dX4_shared_53 : decode cX4_shared 53 = .ok (.iload 4, 2) := by decide +kernel
theorem dX4_shared_55 : decode cX4_shared 55 = .ok (.iaload, 1) := by decide +kernel
theorem dX4_shared_56 : decode cX4_shared 56 = .ok (.if_icmp .ge 40, 3) := by decide +kernel
theorem dX4_shared_59 : decode cX4_shared 59 = .ok (.aload_n 0, 1) := by decide +kernel
theorem dX4_shared_60 : decode cX4_shared 60 = .ok (.getfield 13, 3) := by decide +kernel
theorem dX4_shared_63 : decode cX4_shared 63 = .ok (.iload 4, 2) := by decide +kernel
theorem dX4_shared_65 : decode cX4_shared 65 = .ok (.baload, 1) := by decide +kernel
theorem dX4_shared_66 : decode cX4_shared 66 = .ok (.ifCond .eq 30, 3) := by decide +kernel
theorem dX4_shared_69 : decode cX4_shared 69 = .ok (.aload_n 0, 1) := by decide +kernel
theorem dX4_shared_70 : decode cX4_shared 70 = .ok (.getfield 29, 3) := by decide +kernel
theorem dX4_shared_73 : decode cX4_shared 73 = .ok (.iload_n 3, 1) := by decide +kernel
theorem dX4_shared_74 : decode cX4_shared 74 = .ok (.aload_n 0, 1) := by decide +kernel
theorem dX4_shared_75 : decode cX4_shared 75 = .ok (.getfield 17, 3) := by decide +kernel
theorem dX4_shared_78 : decode cX4_shared 78 = .ok (.iconst 5, 1) := by decide +kernel
theorem dX4_shared_79 : decode cX4_shared 79 = .ok (.iload 4, 2) := by decide +kernel
theorem dX4_shared_81 : decode cX4_shared 81 = .ok (.imul, 1) := by decide +kernel
theorem dX4_shared_82 : decode cX4_shared 82 = .ok (.iload 5, 2) := by decide +kernel
theorem dX4_shared_84 : decode cX4_shared 84 = .ok (.iadd, 1) := by decide +kernel
theorem dX4_shared_85 : decode cX4_shared 85 = .ok (.iaload, 1) := by decide +kernel
theorem dX4_shared_86 : decode cX4_shared 86 = .ok (.iastore, 1) := by decide +kernel
theorem dX4_shared_87 : decode cX4_shared 87 = .ok (.iinc 3 1, 3) := by decide +kernel
theorem dX4_shared_90 : decode cX4_shared 90 = .ok (.iinc 5 1, 3) := by decide +kernel
theorem dX4_shared_93 : decode cX4_shared 93 = .ok (.goto (-46), 3) := by decide +kernel
theorem dX4_shared_96 : decode cX4_shared 96 = .ok (.goto (-85), 3) := by decide +kernel
theorem dX4_shared_99 : decode cX4_shared 99 = .ok (.iload_n 2, 1) := by decide +kernel
theorem dX4_shared_100 : decode cX4_shared 100 = .ok (.ireturn, 1) := by decide +kernel
theorem dX4_sharedPages_0 : decode cX4_sharedPages 0 = .ok (.aload_n 0, 1) := by decide +kernel
theorem dX4_sharedPages_1 : decode cX4_sharedPages 1 = .ok (.aload_n 0, 1) := by decide +kernel
theorem dX4_sharedPages_2 : decode cX4_sharedPages 2 = .ok (.iload_n 1, 1) := by decide +kernel
theorem dX4_sharedPages_3 : decode cX4_sharedPages 3 = .ok (.invokevirtual 172, 3) := by decide +kernel
theorem dX4_sharedPages_6 : decode cX4_sharedPages 6 = .ok (.ifCond .eq 15, 3) := by decide +kernel
theorem dX4_sharedPages_9 : decode cX4_sharedPages 9 = .ok (.aload_n 0, 1) := by decide +kernel
theorem dX4_sharedPages_10 : decode cX4_sharedPages 10 = .ok (.iload_n 2, 1) := by decide +kernel
theorem dX4_sharedPages_11 : decode cX4_sharedPages 11 = .ok (.invokevirtual 172, 3) := by decide +kernel
theorem dX4_sharedPages_14 : decode cX4_sharedPages 14 = .ok (.ifCond .eq 7, 3) := by decide +kernel
theorem dX4_sharedPages_17 : decode cX4_sharedPages 17 = .ok (.iconst 1, 1) := by decide +kernel
theorem dX4_sharedPages_18 : decode cX4_sharedPages 18 = .ok (.goto 4, 3) := by decide +kernel
theorem dX4_sharedPages_21 : decode cX4_sharedPages 21 = .ok (.iconst 0, 1) := by decide +kernel
theorem dX4_sharedPages_22 : decode cX4_sharedPages 22 = .ok (.iconst 1, 1) := by decide +kernel
theorem dX4_sharedPages_23 : decode cX4_sharedPages 23 = .ok (.iconst 1, 1) := by decide +kernel
theorem dX4_sharedPages_24 : decode cX4_sharedPages 24 = .ok (.invokevirtual 118, 3) := by decide +kernel
theorem dX4_sharedPages_27 : decode cX4_sharedPages 27 = .ok (.ifCond .ne 5, 3) := by decide +kernel
theorem dX4_sharedPages_30 : decode cX4_sharedPages 30 = .ok (.iconst 0, 1) := by decide +kernel
theorem dX4_sharedPages_31 : decode cX4_sharedPages 31 = .ok (.ireturn, 1) := by decide +kernel
theorem dX4_sharedPages_32 : decode cX4_sharedPages 32 = .ok (.aload_n 0, 1) := by decide +kernel
theorem dX4_sharedPages_33 : decode cX4_sharedPages 33 = .ok (.invokevirtual 58, 3) := by decide +kernel
theorem dX4_sharedPages_36 : decode cX4_sharedPages 36 = .ok (.aload_n 0, 1) := by decide +kernel
theorem dX4_sharedPages_37 : decode cX4_sharedPages 37 = .ok (.aload_n 0, 1) := by decide +kernel
theorem dX4_sharedPages_38 : decode cX4_sharedPages 38 = .ok (.iload_n 1, 1) := by decide +kernel
theorem dX4_sharedPages_39 : decode cX4_sharedPages 39 = .ok (.invokevirtual 175, 3) := by decide +kernel
theorem dX4_sharedPages_42 : decode cX4_sharedPages 42 = .ok (.invokevirtual 64, 3) := by decide +kernel
theorem dX4_sharedPages_45 : decode cX4_sharedPages 45 = .ok (.aload_n 0, 1) := by decide +kernel
theorem dX4_sharedPages_46 : decode cX4_sharedPages 46 = .ok (.aload_n 0, 1) := by decide +kernel
theorem dX4_sharedPages_47 : decode cX4_sharedPages 47 = .ok (.iload_n 2, 1) := by decide +kernel
theorem dX4_sharedPages_48 : decode cX4_sharedPages 48 = .ok (.invokevirtual 175, 3) := by decide +kernel
theorem dX4_sharedPages_51 : decode cX4_sharedPages 51 = .ok (.invokevirtual 178, 3) := by decide +kernel
theorem dX4_sharedPages_54 : decode cX4_sharedPages 54 = .ok (.ireturn, 1) := by decide +kernel
theorem dX4_isFree_0 : decode cX4_isFree 0 = .ok (.aload_n 0, 1) := by decide +kernel
theorem dX4_isFree_1 : decode cX4_isFree 1 = .ok (.iload_n 1, 1) := by decide +kernel
theorem dX4_isFree_2 : decode cX4_isFree 2 = .ok (.ifCond .lt 7, 3) := by decide +kernel
theorem dX4_isFree_5 : decode cX4_isFree 5 = .ok (.iconst 1, 1) := by decide +kernel
theorem dX4_isFree_6 : decode cX4_isFree 6 = .ok (.goto 4, 3) := by decide +kernel
theorem dX4_isFree_9 : decode cX4_isFree 9 = .ok (.iconst 0, 1) := by decide +kernel
theorem dX4_isFree_10 : decode cX4_isFree 10 = .ok (.iconst 1, 1) := by decide +kernel
theorem dX4_isFree_11 : decode cX4_isFree 11 = .ok (.iconst 1, 1) := by decide +kernel
theorem dX4_isFree_12 : decode cX4_isFree 12 = .ok (.invokevirtual 118, 3) := by decide +kernel
theorem dX4_isFree_15 : decode cX4_isFree 15 = .ok (.ifCond .eq 15, 3) := by decide +kernel
theorem dX4_isFree_18 : decode cX4_isFree 18 = .ok (.aload_n 0, 1) := by decide +kernel
theorem dX4_isFree_19 : decode cX4_isFree 19 = .ok (.iload_n 1, 1) := by decide +kernel
theorem dX4_isFree_20 : decode cX4_isFree 20 = .ok (.invokevirtual 181, 3) := by decide +kernel
theorem dX4_isFree_23 : decode cX4_isFree 23 = .ok (.ifCond .ne 7, 3) := by decide +kernel
theorem dX4_isFree_26 : decode cX4_isFree 26 = .ok (.iconst 1, 1) := by decide +kernel
theorem dX4_isFree_27 : decode cX4_isFree 27 = .ok (.goto 4, 3) := by decide +kernel
theorem dX4_isFree_30 : decode cX4_isFree 30 = .ok (.iconst 0, 1) := by decide +kernel
theorem dX4_isFree_31 : decode cX4_isFree 31 = .ok (.ireturn, 1) := by decide +kernel
theorem dX4_pagesInUse_0 : decode cX4_pagesInUse 0 = .ok (.aload_n 0, 1) := by decide +kernel
theorem dX4_pagesInUse_1 : decode cX4_pagesInUse 1 = .ok (.iconst 0, 1) := by decide +kernel
theorem dX4_pagesInUse_2 : decode cX4_pagesInUse 2 = .ok (.putfield 55, 3) := by decide +kernel
theorem dX4_pagesInUse_5 : decode cX4_pagesInUse 5 = .ok (.aload_n 0, 1) := by decide +kernel
theorem dX4_pagesInUse_6 : decode cX4_pagesInUse 6 = .ok (.iconst (-1), 1) := by decide +kernel
theorem dX4_pagesInUse_7 : decode cX4_pagesInUse 7 = .ok (.invokevirtual 72, 3) := by decide +kernel
theorem dX4_pagesInUse_10 : decode cX4_pagesInUse 10 = .ok (.ireturn, 1) := by decide +kernel
theorem dX4_leastFree_0 : decode cX4_leastFree 0 = .ok (.aload_n 0, 1) := by decide +kernel
theorem dX4_leastFree_1 : decode cX4_leastFree 1 = .ok (.iconst 0, 1) := by decide +kernel
theorem dX4_leastFree_2 : decode cX4_leastFree 2 = .ok (.putfield 55, 3) := by decide +kernel
theorem dX4_leastFree_5 : decode cX4_leastFree 5 = .ok (.aload_n 0, 1) := by decide +kernel
theorem dX4_leastFree_6 : decode cX4_leastFree 6 = .ok (.iconst (-1), 1) := by decide +kernel
theorem dX4_leastFree_7 : decode cX4_leastFree 7 = .ok (.invokevirtual 72, 3) := by decide +kernel
theorem dX4_leastFree_10 : decode cX4_leastFree 10 = .ok (.pop, 1) := by decide +kernel
theorem dX4_leastFree_11 : decode cX4_leastFree 11 = .ok (.aload_n 0, 1) := by decide +kernel
theorem dX4_leastFree_12 : decode cX4_leastFree 12 = .ok (.invokevirtual 80, 3) := by decide +kernel
theorem dX4_leastFree_15 : decode cX4_leastFree 15 = .ok (.ireturn, 1) := by decide +kernel
theorem dX4_entries_0 : decode cX4_entries 0 = .ok (.aload_n 0, 1) := by decide +kernel
theorem dX4_entries_1 : decode cX4_entries 1 = .ok (.aload_n 0, 1) := by decide +kernel
theorem dX4_entries_2 : decode cX4_entries 2 = .ok (.iload_n 1, 1) := by decide +kernel
theorem dX4_entries_3 : decode cX4_entries 3 = .ok (.invokevirtual 181, 3) := by decide +kernel
theorem dX4_entries_6 : decode cX4_entries 6 = .ok (.iconst 1, 1) := by decide +kernel
theorem dX4_entries_7 : decode cX4_entries 7 = .ok (.iconst 1, 1) := by decide +kernel
theorem dX4_entries_8 : decode cX4_entries 8 = .ok (.invokevirtual 118, 3) := by decide +kernel
theorem dX4_entries_11 : decode cX4_entries 11 = .ok (.ifCond .eq 12, 3) := by decide +kernel
theorem dX4_entries_14 : decode cX4_entries 14 = .ok (.aload_n 0, 1) := by decide +kernel
theorem dX4_entries_15 : decode cX4_entries 15 = .ok (.getfield 7, 3) := by decide +kernel
theorem dX4_entries_18 : decode cX4_entries 18 = .ok (.iload_n 1, 1) := by decide +kernel
theorem dX4_entries_19 : decode cX4_entries 19 = .ok (.iaload, 1) := by decide +kernel
theorem dX4_entries_20 : decode cX4_entries 20 = .ok (.goto 4, 3) := by decide +kernel
theorem dX4_entries_23 : decode cX4_entries 23 = .ok (.iconst 0, 1) := by decide +kernel
theorem dX4_entries_24 : decode cX4_entries 24 = .ok (.ireturn, 1) := by decide +kernel
theorem dX4_isEntry_0 : decode cX4_isEntry 0 = .ok (.aload_n 0, 1) := by decide +kernel
theorem dX4_isEntry_1 : decode cX4_isEntry 1 = .ok (.iload_n 1, 1) := by decide +kernel
theorem dX4_isEntry_2 : decode cX4_isEntry 2 = .ok (.invokevirtual 181, 3) := by decide +kernel
theorem dX4_isEntry_5 : decode cX4_isEntry 5 = .ok (.ifCond .eq 23, 3) := by decide +kernel
theorem dX4_isEntry_8 : decode cX4_isEntry 8 = .ok (.iload_n 2, 1) := by decide +kernel
theorem dX4_isEntry_9 : decode cX4_isEntry 9 = .ok (.iconst 0, 1) := by decide +kernel
theorem dX4_isEntry_10 : decode cX4_isEntry 10 = .ok (.aload_n 0, 1) := by decide +kernel
theorem dX4_isEntry_11 : decode cX4_isEntry 11 = .ok (.getfield 7, 3) := by decide +kernel
theorem dX4_isEntry_14 : decode cX4_isEntry 14 = .ok (.iload_n 1, 1) := by decide +kernel
theorem dX4_isEntry_15 : decode cX4_isEntry 15 = .ok (.iaload, 1) := by decide +kernel
theorem dX4_isEntry_16 : decode cX4_isEntry 16 = .ok (.iconst 1, 1) := by decide +kernel
theorem dX4_isEntry_17 : decode cX4_isEntry 17 = .ok (.isub, 1) := by decide +kernel
theorem dX4_isEntry_18 : decode cX4_isEntry 18 = .ok (.invokestatic 76, 3) := by decide +kernel
theorem dX4_isEntry_21 : decode cX4_isEntry 21 = .ok (.ifCond .eq 7, 3) := by decide +kernel
theorem dX4_isEntry_24 : decode cX4_isEntry 24 = .ok (.iconst 1, 1) := by decide +kernel
theorem dX4_isEntry_25 : decode cX4_isEntry 25 = .ok (.goto 4, 3) := by decide +kernel
theorem dX4_isEntry_28 : decode cX4_isEntry 28 = .ok (.iconst 0, 1) := by decide +kernel
theorem dX4_isEntry_29 : decode cX4_isEntry 29 = .ok (.ireturn, 1) := by decide +kernel
theorem dX4_keyAt_0 : decode cX4_keyAt 0 = .ok (.aload_n 0, 1) := by decide +kernel
theorem dX4_keyAt_1 : decode cX4_keyAt 1 = .ok (.aload_n 0, 1) := by decide +kernel
theorem dX4_keyAt_2 : decode cX4_keyAt 2 = .ok (.iload_n 1, 1) := by decide +kernel
theorem dX4_keyAt_3 : decode cX4_keyAt 3 = .ok (.iload_n 2, 1) := by decide +kernel
theorem dX4_keyAt_4 : decode cX4_keyAt 4 = .ok (.invokevirtual 184, 3) := by decide +kernel
theorem dX4_keyAt_7 : decode cX4_keyAt 7 = .ok (.iconst 1, 1) := by decide +kernel
theorem dX4_keyAt_8 : decode cX4_keyAt 8 = .ok (.iconst 1, 1) := by decide +kernel
theorem dX4_keyAt_9 : decode cX4_keyAt 9 = .ok (.invokevirtual 118, 3) := by decide +kernel
theorem dX4_keyAt_12 : decode cX4_keyAt 12 = .ok (.ifCond .eq 12, 3) := by decide +kernel
theorem dX4_keyAt_15 : decode cX4_keyAt 15 = .ok (.aload_n 0, 1) := by decide +kernel
theorem dX4_keyAt_16 : decode cX4_keyAt 16 = .ok (.iload_n 1, 1) := by decide +kernel
theorem dX4_keyAt_17 : decode cX4_keyAt 17 = .ok (.iload_n 2, 1) := by decide +kernel
theorem dX4_keyAt_18 : decode cX4_keyAt 18 = .ok (.invokevirtual 94, 3) := by decide +kernel
theorem dX4_keyAt_21 : decode cX4_keyAt 21 = .ok (.goto 4, 3) := by decide +kernel
theorem dX4_keyAt_24 : decode cX4_keyAt 24 = .ok (.iconst 0, 1) := by decide +kernel
theorem dX4_keyAt_25 : decode cX4_keyAt 25 = .ok (.ireturn, 1) := by decide +kernel
theorem dX4_pageAt_0 : decode cX4_pageAt 0 = .ok (.aload_n 0, 1) := by decide +kernel
theorem dX4_pageAt_1 : decode cX4_pageAt 1 = .ok (.aload_n 0, 1) := by decide +kernel
theorem dX4_pageAt_2 : decode cX4_pageAt 2 = .ok (.iload_n 1, 1) := by decide +kernel
theorem dX4_pageAt_3 : decode cX4_pageAt 3 = .ok (.iload_n 2, 1) := by decide +kernel
theorem dX4_pageAt_4 : decode cX4_pageAt 4 = .ok (.invokevirtual 184, 3) := by decide +kernel
theorem dX4_pageAt_7 : decode cX4_pageAt 7 = .ok (.iconst 1, 1) := by decide +kernel
theorem dX4_pageAt_8 : decode cX4_pageAt 8 = .ok (.iconst 1, 1) := by decide +kernel
theorem dX4_pageAt_9 : decode cX4_pageAt 9 = .ok (.invokevirtual 118, 3) := by decide +kernel
theorem dX4_pageAt_12 : decode cX4_pageAt 12 = .ok (.ifCond .ne 5, 3) := by decide +kernel
theorem dX4_pageAt_15 : decode cX4_pageAt 15 = .ok (.iconst 0, 1) := by decide +kernel
theorem dX4_pageAt_16 : decode cX4_pageAt 16 = .ok (.ireturn, 1) := by decide +kernel
theorem dX4_pageAt_17 : decode cX4_pageAt 17 = .ok (.aload_n 0, 1) := by decide +kernel
theorem dX4_pageAt_18 : decode cX4_pageAt 18 = .ok (.getfield 13, 3) := by decide +kernel
theorem dX4_pageAt_21 : decode cX4_pageAt 21 = .ok (.iload_n 1, 1) := by decide +kernel
theorem dX4_pageAt_22 : decode cX4_pageAt 22 = .ok (.baload, 1) := by decide +kernel
theorem dX4_pageAt_23 : decode cX4_pageAt 23 = .ok (.ifCond .eq 16, 3) := by decide +kernel
theorem dX4_pageAt_26 : decode cX4_pageAt 26 = .ok (.aload_n 0, 1) := by decide +kernel
theorem dX4_pageAt_27 : decode cX4_pageAt 27 = .ok (.getfield 17, 3) := by decide +kernel
theorem dX4_pageAt_30 : decode cX4_pageAt 30 = .ok (.iconst 5, 1) := by decide +kernel
theorem dX4_pageAt_31 : decode cX4_pageAt 31 = .ok (.iload_n 1, 1) := by decide +kernel
theorem dX4_pageAt_32 : decode cX4_pageAt 32 = .ok (.imul, 1) := by decide +kernel
theorem dX4_pageAt_33 : decode cX4_pageAt 33 = .ok (.iload_n 2, 1) := by decide +kernel
theorem dX4_pageAt_34 : decode cX4_pageAt 34 = .ok (.iadd, 1) := by decide +kernel
theorem dX4_pageAt_35 : decode cX4_pageAt 35 = .ok (.iaload, 1) := by decide +kernel
theorem dX4_pageAt_36 : decode cX4_pageAt 36 = .ok (.goto 4, 3) := by decide +kernel
theorem dX4_pageAt_39 : decode cX4_pageAt 39 = .ok (.iconst (-1), 1) := by decide +kernel
theorem dX4_pageAt_40 : decode cX4_pageAt 40 = .ok (.ireturn, 1) := by decide +kernel
theorem dX4_whole_0 : decode cX4_whole 0 = .ok (.iconst 4, 1) := by decide +kernel
theorem dX4_whole_1 : decode cX4_whole 1 = .ok (.iload_n 1, 1) := by decide +kernel
theorem dX4_whole_2 : decode cX4_whole 2 = .ok (.imul, 1) := by decide +kernel
theorem dX4_whole_3 : decode cX4_whole 3 = .ok (.istore_n 2, 1) := by decide +kernel
theorem dX4_whole_4 : decode cX4_whole 4 = .ok (.aload_n 0, 1) := by decide +kernel
theorem dX4_whole_5 : decode cX4_whole 5 = .ok (.getfield 36, 3) := by decide +kernel
theorem dX4_whole_8 : decode cX4_whole 8 = .ok (.iload_n 2, 1) := by decide +kernel
theorem dX4_whole_9 : decode cX4_whole 9 = .ok (.iconst 3, 1) := by decide +kernel
theorem dX4_whole_10 : decode cX4_whole 10 = .ok (.iadd, 1) := by decide +kernel
theorem dX4_whole_11 : decode cX4_whole 11 = .ok (.laload, 1) := by decide +kernel
theorem dX4_whole_12 : decode cX4_whole 12 = .ok (.ldc2_w 143, 3) := by decide +kernel
theorem dX4_whole_15 : decode cX4_whole 15 = .ok (.aload_n 0, 1) := by decide +kernel
theorem dX4_whole_16 : decode cX4_whole 16 = .ok (.getfield 36, 3) := by decide +kernel
theorem dX4_whole_19 : decode cX4_whole 19 = .ok (.iload_n 2, 1) := by decide +kernel
theorem dX4_whole_20 : decode cX4_whole 20 = .ok (.laload, 1) := by decide +kernel
theorem dX4_whole_21 : decode cX4_whole 21 = .ok (.lmul, 1) := by decide +kernel
theorem dX4_whole_22 : decode cX4_whole 22 = .ok (.ldc2_w 145, 3) := by decide +kernel
theorem dX4_whole_25 : decode cX4_whole 25 = .ok (.aload_n 0, 1) := by decide +kernel
theorem dX4_whole_26 : decode cX4_whole 26 = .ok (.getfield 36, 3) := by decide +kernel
theorem dX4_whole_29 : decode cX4_whole 29 = .ok (.iload_n 2, 1) := by decide +kernel
theorem dX4_whole_30 : decode cX4_whole 30 = .ok (.iconst 1, 1) := by decide +kernel
theorem dX4_whole_31 : decode cX4_whole 31 = .ok (.iadd, 1) := by decide +kernel
theorem dX4_whole_32 : decode cX4_whole 32 = .ok (.laload, 1) := by decide +kernel
theorem dX4_whole_33 : decode cX4_whole 33 = .ok (.lmul, 1) := by decide +kernel
theorem dX4_whole_34 : decode cX4_whole 34 = .ok (.ladd, 1) := by decide +kernel
theorem dX4_whole_35 : decode cX4_whole 35 = .ok (.aload_n 0, 1) := by decide +kernel
theorem dX4_whole_36 : decode cX4_whole 36 = .ok (.getfield 36, 3) := by decide +kernel
theorem dX4_whole_39 : decode cX4_whole 39 = .ok (.iload_n 2, 1) := by decide +kernel
theorem dX4_whole_40 : decode cX4_whole 40 = .ok (.iconst 2, 1) := by decide +kernel
theorem dX4_whole_41 : decode cX4_whole 41 = .ok (.iadd, 1) := by decide +kernel
theorem dX4_whole_42 : decode cX4_whole 42 = .ok (.laload, 1) := by decide +kernel
theorem dX4_whole_43 : decode cX4_whole 43 = .ok (.ladd, 1) := by decide +kernel
theorem dX4_whole_44 : decode cX4_whole 44 = .ok (.lcmp, 1) := by decide +kernel
theorem dX4_whole_45 : decode cX4_whole 45 = .ok (.ifCond .ne 7, 3) := by decide +kernel
theorem dX4_whole_48 : decode cX4_whole 48 = .ok (.iconst 1, 1) := by decide +kernel
theorem dX4_whole_49 : decode cX4_whole 49 = .ok (.goto 4, 3) := by decide +kernel
theorem dX4_whole_52 : decode cX4_whole 52 = .ok (.iconst 0, 1) := by decide +kernel
theorem dX4_whole_53 : decode cX4_whole 53 = .ok (.ireturn, 1) := by decide +kernel
theorem dX4_currentSlot_0 : decode cX4_currentSlot 0 = .ok (.aload_n 0, 1) := by decide +kernel
theorem dX4_currentSlot_1 : decode cX4_currentSlot 1 = .ok (.iconst 0, 1) := by decide +kernel
theorem dX4_currentSlot_2 : decode cX4_currentSlot 2 = .ok (.putfield 55, 3) := by decide +kernel
theorem dX4_currentSlot_5 : decode cX4_currentSlot 5 = .ok (.aload_n 0, 1) := by decide +kernel
theorem dX4_currentSlot_6 : decode cX4_currentSlot 6 = .ok (.getfield 150, 3) := by decide +kernel
theorem dX4_currentSlot_9 : decode cX4_currentSlot 9 = .ok (.ireturn, 1) := by decide +kernel
theorem dX4_slotWord_0 : decode cX4_slotWord 0 = .ok (.aload_n 0, 1) := by decide +kernel
theorem dX4_slotWord_1 : decode cX4_slotWord 1 = .ok (.iload_n 1, 1) := by decide +kernel
theorem dX4_slotWord_2 : decode cX4_slotWord 2 = .ok (.iconst 0, 1) := by decide +kernel
theorem dX4_slotWord_3 : decode cX4_slotWord 3 = .ok (.iconst 1, 1) := by decide +kernel
theorem dX4_slotWord_4 : decode cX4_slotWord 4 = .ok (.invokestatic 76, 3) := by decide +kernel
theorem dX4_slotWord_7 : decode cX4_slotWord 7 = .ok (.ifCond .eq 16, 3) := by decide +kernel
theorem dX4_slotWord_10 : decode cX4_slotWord 10 = .ok (.iload_n 2, 1) := by decide +kernel
theorem dX4_slotWord_11 : decode cX4_slotWord 11 = .ok (.iconst 0, 1) := by decide +kernel
theorem dX4_slotWord_12 : decode cX4_slotWord 12 = .ok (.iconst 3, 1) := by decide +kernel
theorem dX4_slotWord_13 : decode cX4_slotWord 13 = .ok (.invokestatic 76, 3) := by decide +kernel
theorem dX4_slotWord_16 : decode cX4_slotWord 16 = .ok (.ifCond .eq 7, 3) := by decide +kernel
theorem dX4_slotWord_19 : decode cX4_slotWord 19 = .ok (.iconst 1, 1) := by decide +kernel
theorem dX4_slotWord_20 : decode cX4_slotWord 20 = .ok (.goto 4, 3) := by decide +kernel
theorem dX4_slotWord_23 : decode cX4_slotWord 23 = .ok (.iconst 0, 1) := by decide +kernel
theorem dX4_slotWord_24 : decode cX4_slotWord 24 = .ok (.iconst 1, 1) := by decide +kernel
theorem dX4_slotWord_25 : decode cX4_slotWord 25 = .ok (.iconst 1, 1) := by decide +kernel
theorem dX4_slotWord_26 : decode cX4_slotWord 26 = .ok (.invokevirtual 118, 3) := by decide +kernel
theorem dX4_slotWord_29 : decode cX4_slotWord 29 = .ok (.ifCond .eq 16, 3) := by decide +kernel
theorem dX4_slotWord_32 : decode cX4_slotWord 32 = .ok (.aload_n 0, 1) := by decide +kernel
theorem dX4_slotWord_33 : decode cX4_slotWord 33 = .ok (.getfield 36, 3) := by decide +kernel
theorem dX4_slotWord_36 : decode cX4_slotWord 36 = .ok (.iconst 4, 1) := by decide +kernel
theorem dX4_slotWord_37 : decode cX4_slotWord 37 = .ok (.iload_n 1, 1) := by decide +kernel
theorem dX4_slotWord_38 : decode cX4_slotWord 38 = .ok (.imul, 1) := by decide +kernel
theorem dX4_slotWord_39 : decode cX4_slotWord 39 = .ok (.iload_n 2, 1) := by decide +kernel
theorem dX4_slotWord_40 : decode cX4_slotWord 40 = .ok (.iadd, 1) := by decide +kernel
theorem dX4_slotWord_41 : decode cX4_slotWord 41 = .ok (.laload, 1) := by decide +kernel
theorem dX4_slotWord_42 : decode cX4_slotWord 42 = .ok (.goto 4, 3) := by decide +kernel
theorem dX4_slotWord_45 : decode cX4_slotWord 45 = .ok (.lconst 0, 1) := by decide +kernel
theorem dX4_slotWord_46 : decode cX4_slotWord 46 = .ok (.lreturn, 1) := by decide +kernel
theorem dX4_isWhole_0 : decode cX4_isWhole 0 = .ok (.aload_n 0, 1) := by decide +kernel
theorem dX4_isWhole_1 : decode cX4_isWhole 1 = .ok (.iload_n 1, 1) := by decide +kernel
theorem dX4_isWhole_2 : decode cX4_isWhole 2 = .ok (.iconst 0, 1) := by decide +kernel
theorem dX4_isWhole_3 : decode cX4_isWhole 3 = .ok (.iconst 1, 1) := by decide +kernel
theorem dX4_isWhole_4 : decode cX4_isWhole 4 = .ok (.invokestatic 76, 3) := by decide +kernel
theorem dX4_isWhole_7 : decode cX4_isWhole 7 = .ok (.iconst 1, 1) := by decide +kernel
theorem dX4_isWhole_8 : decode cX4_isWhole 8 = .ok (.iconst 1, 1) := by decide +kernel
theorem dX4_isWhole_9 : decode cX4_isWhole 9 = .ok (.invokevirtual 118, 3) := by decide +kernel
theorem dX4_isWhole_12 : decode cX4_isWhole 12 = .ok (.ifCond .eq 15, 3) := by decide +kernel
theorem dX4_isWhole_15 : decode cX4_isWhole 15 = .ok (.aload_n 0, 1) := by decide +kernel
theorem dX4_isWhole_16 : decode cX4_isWhole 16 = .ok (.iload_n 1, 1) := by decide +kernel
theorem dX4_isWhole_17 : decode cX4_isWhole 17 = .ok (.invokevirtual 68, 3) := by decide +kernel
theorem dX4_isWhole_20 : decode cX4_isWhole 20 = .ok (.ifCond .eq 7, 3) := by decide +kernel
theorem dX4_isWhole_23 : decode cX4_isWhole 23 = .ok (.iconst 1, 1) := by decide +kernel
theorem dX4_isWhole_24 : decode cX4_isWhole 24 = .ok (.goto 4, 3) := by decide +kernel
theorem dX4_isWhole_27 : decode cX4_isWhole 27 = .ok (.iconst 0, 1) := by decide +kernel
theorem dX4_isWhole_28 : decode cX4_isWhole 28 = .ok (.ireturn, 1) := by decide +kernel
theorem dX4_tear_0 : decode cX4_tear 0 = .ok (.iload_n 1, 1) := by decide +kernel
theorem dX4_tear_1 : decode cX4_tear 1 = .ok (.iconst 0, 1) := by decide +kernel
theorem dX4_tear_2 : decode cX4_tear 2 = .ok (.iconst 1, 1) := by decide +kernel
theorem dX4_tear_3 : decode cX4_tear 3 = .ok (.invokestatic 76, 3) := by decide +kernel
theorem dX4_tear_6 : decode cX4_tear 6 = .ok (.istore_n 2, 1) := by decide +kernel
theorem dX4_tear_7 : decode cX4_tear 7 = .ok (.aload_n 0, 1) := by decide +kernel
theorem dX4_tear_8 : decode cX4_tear 8 = .ok (.iload_n 2, 1) := by decide +kernel
theorem dX4_tear_9 : decode cX4_tear 9 = .ok (.iload_n 2, 1) := by decide +kernel
theorem dX4_tear_10 : decode cX4_tear 10 = .ok (.ifCond .eq 17, 3) := by decide +kernel
theorem dX4_tear_13 : decode cX4_tear 13 = .ok (.aload_n 0, 1) := by decide +kernel
theorem dX4_tear_14 : decode cX4_tear 14 = .ok (.iconst 1, 1) := by decide +kernel
theorem dX4_tear_15 : decode cX4_tear 15 = .ok (.iload_n 1, 1) := by decide +kernel
theorem dX4_tear_16 : decode cX4_tear 16 = .ok (.isub, 1) := by decide +kernel
theorem dX4_tear_17 : decode cX4_tear 17 = .ok (.invokevirtual 68, 3) := by decide +kernel
theorem dX4_tear_20 : decode cX4_tear 20 = .ok (.ifCond .eq 7, 3) := by decide +kernel
theorem dX4_tear_23 : decode cX4_tear 23 = .ok (.iconst 1, 1) := by decide +kernel
theorem dX4_tear_24 : decode cX4_tear 24 = .ok (.goto 4, 3) := by decide +kernel
theorem dX4_tear_27 : decode cX4_tear 27 = .ok (.iconst 0, 1) := by decide +kernel
theorem dX4_tear_28 : decode cX4_tear 28 = .ok (.iconst 1, 1) := by decide +kernel
theorem dX4_tear_29 : decode cX4_tear 29 = .ok (.invokevirtual 118, 3) := by decide +kernel
theorem dX4_tear_32 : decode cX4_tear 32 = .ok (.ifCond .ne 5, 3) := by decide +kernel
theorem dX4_tear_35 : decode cX4_tear 35 = .ok (.iconst 0, 1) := by decide +kernel
theorem dX4_tear_36 : decode cX4_tear 36 = .ok (.ireturn, 1) := by decide +kernel
theorem dX4_tear_37 : decode cX4_tear 37 = .ok (.aload_n 0, 1) := by decide +kernel
theorem dX4_tear_38 : decode cX4_tear 38 = .ok (.iconst (-1), 1) := by decide +kernel
theorem dX4_tear_39 : decode cX4_tear 39 = .ok (.invokevirtual 72, 3) := by decide +kernel
theorem dX4_tear_42 : decode cX4_tear 42 = .ok (.istore_n 3, 1) := by decide +kernel
theorem dX4_tear_43 : decode cX4_tear 43 = .ok (.aload_n 0, 1) := by decide +kernel
theorem dX4_tear_44 : decode cX4_tear 44 = .ok (.getfield 36, 3) := by decide +kernel
theorem dX4_tear_47 : decode cX4_tear 47 = .ok (.iconst 4, 1) := by decide +kernel
theorem dX4_tear_48 : decode cX4_tear 48 = .ok (.iload_n 1, 1) := by decide +kernel
theorem dX4_tear_49 : decode cX4_tear 49 = .ok (.imul, 1) := by decide +kernel
theorem dX4_tear_50 : decode cX4_tear 50 = .ok (.iconst 3, 1) := by decide +kernel
theorem dX4_tear_51 : decode cX4_tear 51 = .ok (.iadd, 1) := by decide +kernel
theorem dX4_tear_52 : decode cX4_tear 52 = .ok (.ldc2_w 188, 3) := by decide +kernel
theorem dX4_tear_55 : decode cX4_tear 55 = .ok (.lastore, 1) := by decide +kernel
theorem dX4_tear_56 : decode cX4_tear 56 = .ok (.iload_n 3, 1) := by decide +kernel
theorem dX4_tear_57 : decode cX4_tear 57 = .ok (.aload_n 0, 1) := by decide +kernel
theorem dX4_tear_58 : decode cX4_tear 58 = .ok (.iconst (-1), 1) := by decide +kernel
theorem dX4_tear_59 : decode cX4_tear 59 = .ok (.invokevirtual 72, 3) := by decide +kernel
theorem dX4_tear_62 : decode cX4_tear 62 = .ok (.isub, 1) := by decide +kernel
theorem dX4_tear_63 : decode cX4_tear 63 = .ok (.ireturn, 1) := by decide +kernel
theorem dX4_restarts_0 : decode cX4_restarts 0 = .ok (.aload_n 0, 1) := by decide +kernel
theorem dX4_restarts_1 : decode cX4_restarts 1 = .ok (.iconst (-1), 1) := by decide +kernel
theorem dX4_restarts_2 : decode cX4_restarts 2 = .ok (.putfield 32, 3) := by decide +kernel
theorem dX4_restarts_5 : decode cX4_restarts 5 = .ok (.aload_n 0, 1) := by decide +kernel
theorem dX4_restarts_6 : decode cX4_restarts 6 = .ok (.invokevirtual 52, 3) := by decide +kernel
theorem dX4_restarts_9 : decode cX4_restarts 9 = .ok (.aload_n 0, 1) := by decide +kernel
theorem dX4_restarts_10 : decode cX4_restarts 10 = .ok (.iconst 0, 1) := by decide +kernel
theorem dX4_restarts_11 : decode cX4_restarts 11 = .ok (.invokevirtual 68, 3) := by decide +kernel
theorem dX4_restarts_14 : decode cX4_restarts 14 = .ok (.ifCond .eq 31, 3) := by decide +kernel
theorem dX4_restarts_17 : decode cX4_restarts 17 = .ok (.aload_n 0, 1) := by decide +kernel
theorem dX4_restarts_18 : decode cX4_restarts 18 = .ok (.iconst 1, 1) := by decide +kernel
theorem dX4_restarts_19 : decode cX4_restarts 19 = .ok (.invokevirtual 68, 3) := by decide +kernel
theorem dX4_restarts_22 : decode cX4_restarts 22 = .ok (.ifCond .eq 19, 3) := by decide +kernel
theorem dX4_restarts_25 : decode cX4_restarts 25 = .ok (.aload_n 0, 1) := by decide +kernel
theorem dX4_restarts_26 : decode cX4_restarts 26 = .ok (.getfield 36, 3) := by decide +kernel
theorem dX4_restarts_29 : decode cX4_restarts 29 = .ok (.iconst 0, 1) := by decide +kernel
theorem dX4_restarts_30 : decode cX4_restarts 30 = .ok (.laload, 1) := by decide +kernel
theorem dX4_restarts_31 : decode cX4_restarts 31 = .ok (.aload_n 0, 1) := by decide +kernel
theorem dX4_restarts_32 : decode cX4_restarts 32 = .ok (.getfield 36, 3) := by decide +kernel
theorem dX4_restarts_35 : decode cX4_restarts 35 = .ok (.iconst 4, 1) := by decide +kernel
theorem dX4_restarts_36 : decode cX4_restarts 36 = .ok (.laload, 1) := by decide +kernel
theorem dX4_restarts_37 : decode cX4_restarts 37 = .ok (.lcmp, 1) := by decide +kernel
theorem dX4_restarts_38 : decode cX4_restarts 38 = .ok (.ifCond .lt 7, 3) := by decide +kernel
theorem dX4_restarts_41 : decode cX4_restarts 41 = .ok (.iconst 1, 1) := by decide +kernel
theorem dX4_restarts_42 : decode cX4_restarts 42 = .ok (.goto 4, 3) := by decide +kernel
theorem dX4_restarts_45 : decode cX4_restarts 45 = .ok (.iconst 0, 1) := by decide +kernel
theorem dX4_restarts_46 : decode cX4_restarts 46 = .ok (.istore_n 1, 1) := by decide +kernel
theorem dX4_restarts_47 : decode cX4_restarts 47 = .ok (.aload_n 0, 1) := by decide +kernel
theorem dX4_restarts_48 : decode cX4_restarts 48 = .ok (.iload_n 1, 1) := by decide +kernel
theorem dX4_restarts_49 : decode cX4_restarts 49 = .ok (.ifCond .eq 7, 3) := by decide +kernel
theorem dX4_restarts_52 : decode cX4_restarts 52 = .ok (.iconst 0, 1) := by decide +kernel
theorem dX4_restarts_53 : decode cX4_restarts 53 = .ok (.goto 4, 3) := by decide +kernel
theorem dX4_restarts_56 : decode cX4_restarts 56 = .ok (.iconst 1, 1) := by decide +kernel
theorem dX4_restarts_57 : decode cX4_restarts 57 = .ok (.invokevirtual 160, 3) := by decide +kernel
theorem dX4_restarts_60 : decode cX4_restarts 60 = .ok (.ireturn, 1) := by decide +kernel
theorem dX4_crash_0 : decode cX4_crash 0 = .ok (.aload_n 0, 1) := by decide +kernel
theorem dX4_crash_1 : decode cX4_crash 1 = .ok (.iconst 0, 1) := by decide +kernel
theorem dX4_crash_2 : decode cX4_crash 2 = .ok (.putfield 55, 3) := by decide +kernel
theorem dX4_crash_5 : decode cX4_crash 5 = .ok (.aload_n 0, 1) := by decide +kernel
theorem dX4_crash_6 : decode cX4_crash 6 = .ok (.invokevirtual 190, 3) := by decide +kernel
theorem dX4_crash_9 : decode cX4_crash 9 = .ok (.ireturn, 1) := by decide +kernel
theorem dX4_crashInCommit_0 : decode cX4_crashInCommit 0 = .ok (.iload_n 1, 1) := by decide +kernel
theorem dX4_crashInCommit_1 : decode cX4_crashInCommit 1 = .ok (.iconst 1, 1) := by decide +kernel
theorem dX4_crashInCommit_2 : decode cX4_crashInCommit 2 = .ok (.iconst 3, 1) := by decide +kernel
theorem dX4_crashInCommit_3 : decode cX4_crashInCommit 3 = .ok (.invokestatic 76, 3) := by decide +kernel
theorem dX4_crashInCommit_6 : decode cX4_crashInCommit 6 = .ok (.istore_n 2, 1) := by decide +kernel
theorem dX4_crashInCommit_7 : decode cX4_crashInCommit 7 = .ok (.aload_n 0, 1) := by decide +kernel
theorem dX4_crashInCommit_8 : decode cX4_crashInCommit 8 = .ok (.iload_n 1, 1) := by decide +kernel
theorem dX4_crashInCommit_9 : decode cX4_crashInCommit 9 = .ok (.iconst 0, 1) := by decide +kernel
theorem dX4_crashInCommit_10 : decode cX4_crashInCommit 10 = .ok (.iconst 4, 1) := by decide +kernel
theorem dX4_crashInCommit_11 : decode cX4_crashInCommit 11 = .ok (.invokestatic 76, 3) := by decide +kernel
theorem dX4_crashInCommit_14 : decode cX4_crashInCommit 14 = .ok (.aload_n 0, 1) := by decide +kernel
theorem dX4_crashInCommit_15 : decode cX4_crashInCommit 15 = .ok (.getfield 32, 3) := by decide +kernel
theorem dX4_crashInCommit_18 : decode cX4_crashInCommit 18 = .ok (.iconst (-1), 1) := by decide +kernel
theorem dX4_crashInCommit_19 : decode cX4_crashInCommit 19 = .ok (.if_icmp .eq 22, 3) := by decide +kernel
theorem dX4_crashInCommit_22 : decode cX4_crashInCommit 22 = .ok (.iload_n 2, 1) := by decide +kernel
theorem dX4_crashInCommit_23 : decode cX4_crashInCommit 23 = .ok (.ifCond .eq 14, 3) := by decide +kernel
theorem dX4_crashInCommit_26 : decode cX4_crashInCommit 26 = .ok (.aload_n 0, 1) := by decide +kernel
theorem dX4_crashInCommit_27 : decode cX4_crashInCommit 27 = .ok (.aload_n 0, 1) := by decide +kernel
theorem dX4_crashInCommit_28 : decode cX4_crashInCommit 28 = .ok (.getfield 150, 3) := by decide +kernel
theorem dX4_crashInCommit_31 : decode cX4_crashInCommit 31 = .ok (.invokevirtual 68, 3) := by decide +kernel
theorem dX4_crashInCommit_34 : decode cX4_crashInCommit 34 = .ok (.ifCond .eq 7, 3) := by decide +kernel
theorem dX4_crashInCommit_37 : decode cX4_crashInCommit 37 = .ok (.iconst 1, 1) := by decide +kernel
theorem dX4_crashInCommit_38 : decode cX4_crashInCommit 38 = .ok (.goto 4, 3) := by decide +kernel
theorem dX4_crashInCommit_41 : decode cX4_crashInCommit 41 = .ok (.iconst 0, 1) := by decide +kernel
theorem dX4_crashInCommit_42 : decode cX4_crashInCommit 42 = .ok (.iconst 1, 1) := by decide +kernel
theorem dX4_crashInCommit_43 : decode cX4_crashInCommit 43 = .ok (.invokevirtual 118, 3) := by decide +kernel
theorem dX4_crashInCommit_46 : decode cX4_crashInCommit 46 = .ok (.ifCond .ne 5, 3) := by decide +kernel
theorem dX4_crashInCommit_49 : decode cX4_crashInCommit 49 = .ok (.iconst 0, 1) := by decide +kernel
theorem dX4_crashInCommit_50 : decode cX4_crashInCommit 50 = .ok (.ireturn, 1) := by decide +kernel
theorem dX4_crashInCommit_51 : decode cX4_crashInCommit 51 = .ok (.aload_n 0, 1) := by decide +kernel
theorem dX4_crashInCommit_52 : decode cX4_crashInCommit 52 = .ok (.iload_n 1, 1) := by decide +kernel
theorem dX4_crashInCommit_53 : decode cX4_crashInCommit 53 = .ok (.invokevirtual 157, 3) := by decide +kernel
theorem dX4_crashInCommit_56 : decode cX4_crashInCommit 56 = .ok (.aload_n 0, 1) := by decide +kernel
theorem dX4_crashInCommit_57 : decode cX4_crashInCommit 57 = .ok (.invokevirtual 190, 3) := by decide +kernel
theorem dX4_crashInCommit_60 : decode cX4_crashInCommit 60 = .ok (.ireturn, 1) := by decide +kernel
