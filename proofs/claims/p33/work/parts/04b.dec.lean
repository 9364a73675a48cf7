/-! decode rows, out of claim/NAMES.whole.lean.txt -/
theorem dX3_init_0 : decode cX3_init 0 = .ok (.aload_n 0, 1) := by decide +kernel
theorem dX3_init_1 : decode cX3_init 1 = .ok (.invokespecial 3, 3) := by decide +kernel
theorem dX3_init_4 : decode cX3_init 4 = .ok (.aload_n 0, 1) := by decide +kernel
theorem dX3_init_5 : decode cX3_init 5 = .ok (.new 9, 3) := by decide +kernel
theorem dX3_init_8 : decode cX3_init 8 = .ok (.dup, 1) := by decide +kernel
theorem dX3_init_9 : decode cX3_init 9 = .ok (.invokespecial 11, 3) := by decide +kernel
theorem dX3_init_12 : decode cX3_init 12 = .ok (.putfield 12, 3) := by decide +kernel
theorem dX3_init_15 : decode cX3_init 15 = .ok (.aload_n 0, 1) := by decide +kernel
theorem dX3_init_16 : decode cX3_init 16 = .ok (.new 16, 3) := by decide +kernel
theorem dX3_init_19 : decode cX3_init 19 = .ok (.dup, 1) := by decide +kernel
theorem dX3_init_20 : decode cX3_init 20 = .ok (.invokespecial 18, 3) := by decide +kernel
theorem dX3_init_23 : decode cX3_init 23 = .ok (.putfield 19, 3) := by decide +kernel
theorem dX3_init_26 : decode cX3_init 26 = .ok (.aload_n 0, 1) := by decide +kernel
theorem dX3_init_27 : decode cX3_init 27 = .ok (.new 16, 3) := by decide +kernel
theorem dX3_init_30 : decode cX3_init 30 = .ok (.dup, 1) := by decide +kernel
theorem dX3_init_31 : decode cX3_init 31 = .ok (.invokespecial 18, 3) := by decide +kernel
theorem dX3_init_34 : decode cX3_init 34 = .ok (.putfield 23, 3) := by decide +kernel
theorem dX3_init_37 : decode cX3_init 37 = .ok (.aload_n 0, 1) := by decide +kernel
theorem dX3_init_38 : decode cX3_init 38 = .ok (.new 26, 3) := by decide +kernel
theorem dX3_init_41 : decode cX3_init 41 = .ok (.dup, 1) := by decide +kernel
theorem dX3_init_42 : decode cX3_init 42 = .ok (.aload_n 0, 1) := by decide +kernel
theorem dX3_init_43 : decode cX3_init 43 = .ok (.getfield 12, 3) := by decide +kernel
theorem dX3_init_46 : decode cX3_init 46 = .ok (.aload_n 0, 1) := by decide +kernel
theorem dX3_init_47 : decode cX3_init 47 = .ok (.getfield 23, 3) := by decide +kernel
theorem dX3_init_50 : decode cX3_init 50 = .ok (.invokespecial 28, 3) := by decide +kernel
theorem dX3_init_53 : decode cX3_init 53 = .ok (.putfield 31, 3) := by decide +kernel
theorem dX3_init_56 : decode cX3_init 56 = .ok (.aload_n 0, 1) := by decide +kernel
theorem dX3_init_57 : decode cX3_init 57 = .ok (.iconst 4, 1) := by decide +kernel
theorem dX3_init_58 : decode cX3_init 58 = .ok (.anewarray 16, 3) := by decide +kernel
theorem dX3_init_61 : decode cX3_init 61 = .ok (.putfield 35, 3) := by decide +kernel
theorem dX3_init_64 : decode cX3_init 64 = .ok (.iconst 0, 1) := by decide +kernel
theorem dX3_init_65 : decode cX3_init 65 = .ok (.istore_n 1, 1) := by decide +kernel
theorem dX3_init_66 : decode cX3_init 66 = .ok (.iload_n 1, 1) := by decide +kernel
theorem dX3_init_67 : decode cX3_init 67 = .ok (.iconst 4, 1) := by decide +kernel
theorem dX3_init_68 : decode cX3_init 68 = .ok (.if_icmp .ge 22, 3) := by decide +kernel
theorem dX3_init_71 : decode cX3_init 71 = .ok (.aload_n 0, 1) := by decide +kernel
theorem dX3_init_72 : decode cX3_init 72 = .ok (.getfield 35, 3) := by decide +kernel
theorem dX3_init_75 : decode cX3_init 75 = .ok (.iload_n 1, 1) := by decide +kernel
theorem dX3_init_76 : decode cX3_init 76 = .ok (.new 16, 3) := by decide +kernel
theorem dX3_init_79 : decode cX3_init 79 = .ok (.dup, 1) := by decide +kernel
theorem dX3_init_80 : decode cX3_init 80 = .ok (.invokespecial 18, 3) := by decide +kernel
theorem dX3_init_83 : decode cX3_init 83 = .ok (.aastore, 1) := by decide +kernel
theorem dX3_init_84 : decode cX3_init 84 = .ok (.iinc 1 1, 3) := by decide +kernel
theorem dX3_init_87 : decode cX3_init 87 = .ok (.goto (-21), 3) := by decide +kernel
theorem dX3_init_90 : decode cX3_init 90 = .ok (.aload_n 0, 1) := by decide +kernel
theorem dX3_init_91 : decode cX3_init 91 = .ok (.bipush 8, 2) := by decide +kernel
theorem dX3_init_93 : decode cX3_init 93 = .ok (.newarray .long, 2) := by decide +kernel
theorem dX3_init_95 : decode cX3_init 95 = .ok (.putfield 39, 3) := by decide +kernel
theorem dX3_init_98 : decode cX3_init 98 = .ok (.aload_n 0, 1) := by decide +kernel
theorem dX3_init_99 : decode cX3_init 99 = .ok (.iconst 0, 1) := by decide +kernel
theorem dX3_init_100 : decode cX3_init 100 = .ok (.putfield 43, 3) := by decide +kernel
theorem dX3_init_103 : decode cX3_init 103 = .ok (.aload_n 0, 1) := by decide +kernel
theorem dX3_init_104 : decode cX3_init 104 = .ok (.getfield 12, 3) := by decide +kernel
theorem dX3_init_107 : decode cX3_init 107 = .ok (.aload_n 0, 1) := by decide +kernel
theorem dX3_init_108 : decode cX3_init 108 = .ok (.getfield 12, 3) := by decide +kernel
theorem dX3_init_111 : decode cX3_init 111 = .ok (.getfield 47, 3) := by decide +kernel
theorem dX3_init_114 : decode cX3_init 114 = .ok (.aload_n 0, 1) := by decide +kernel
theorem dX3_init_115 : decode cX3_init 115 = .ok (.getfield 19, 3) := by decide +kernel
theorem dX3_init_118 : decode cX3_init 118 = .ok (.getfield 51, 3) := by decide +kernel
theorem dX3_init_121 : decode cX3_init 121 = .ok (.invokevirtual 54, 3) := by decide +kernel
theorem dX3_init_124 : decode cX3_init 124 = .ok (.return_, 1) := by decide +kernel
theorem dX3_beginBatch_0 : decode cX3_beginBatch 0 = .ok (.aload_n 0, 1) := by decide +kernel
theorem dX3_beginBatch_1 : decode cX3_beginBatch 1 = .ok (.getfield 23, 3) := by decide +kernel
theorem dX3_beginBatch_4 : decode cX3_beginBatch 4 = .ok (.getfield 58, 3) := by decide +kernel
theorem dX3_beginBatch_7 : decode cX3_beginBatch 7 = .ok (.ifCond .eq 13, 3) := by decide +kernel
theorem dX3_beginBatch_10 : decode cX3_beginBatch 10 = .ok (.new 62, 3) := by decide +kernel
theorem dX3_beginBatch_13 : decode cX3_beginBatch 13 = .ok (.dup, 1) := by decide +kernel
theorem dX3_beginBatch_14 : decode cX3_beginBatch 14 = .ok (.ldc 64, 2) := by decide +kernel
theorem dX3_beginBatch_16 : decode cX3_beginBatch 16 = .ok (.invokespecial 66, 3) := by decide +kernel
theorem dX3_beginBatch_19 : decode cX3_beginBatch 19 = .ok (.athrow, 1) := by decide +kernel
theorem dX3_beginBatch_20 : decode cX3_beginBatch 20 = .ok (.aload_n 0, 1) := by decide +kernel
theorem dX3_beginBatch_21 : decode cX3_beginBatch 21 = .ok (.getfield 23, 3) := by decide +kernel
theorem dX3_beginBatch_24 : decode cX3_beginBatch 24 = .ok (.aload_n 0, 1) := by decide +kernel
theorem dX3_beginBatch_25 : decode cX3_beginBatch 25 = .ok (.getfield 19, 3) := by decide +kernel
theorem dX3_beginBatch_28 : decode cX3_beginBatch 28 = .ok (.invokevirtual 69, 3) := by decide +kernel
theorem dX3_beginBatch_31 : decode cX3_beginBatch 31 = .ok (.aload_n 0, 1) := by decide +kernel
theorem dX3_beginBatch_32 : decode cX3_beginBatch 32 = .ok (.getfield 23, 3) := by decide +kernel
theorem dX3_beginBatch_35 : decode cX3_beginBatch 35 = .ok (.aload_n 0, 1) := by decide +kernel
theorem dX3_beginBatch_36 : decode cX3_beginBatch 36 = .ok (.getfield 19, 3) := by decide +kernel
theorem dX3_beginBatch_39 : decode cX3_beginBatch 39 = .ok (.getfield 73, 3) := by decide +kernel
theorem dX3_beginBatch_42 : decode cX3_beginBatch 42 = .ok (.iconst 1, 1) := by decide +kernel
theorem dX3_beginBatch_43 : decode cX3_beginBatch 43 = .ok (.iadd, 1) := by decide +kernel
theorem dX3_beginBatch_44 : decode cX3_beginBatch 44 = .ok (.putfield 73, 3) := by decide +kernel
theorem dX3_beginBatch_47 : decode cX3_beginBatch 47 = .ok (.aload_n 0, 1) := by decide +kernel
theorem dX3_beginBatch_48 : decode cX3_beginBatch 48 = .ok (.getfield 23, 3) := by decide +kernel
theorem dX3_beginBatch_51 : decode cX3_beginBatch 51 = .ok (.getfield 73, 3) := by decide +kernel
theorem dX3_beginBatch_54 : decode cX3_beginBatch 54 = .ok (.ireturn, 1) := by decide +kernel
theorem dX3_hasBatch_0 : decode cX3_hasBatch 0 = .ok (.aload_n 0, 1) := by decide +kernel
theorem dX3_hasBatch_1 : decode cX3_hasBatch 1 = .ok (.getfield 23, 3) := by decide +kernel
theorem dX3_hasBatch_4 : decode cX3_hasBatch 4 = .ok (.getfield 58, 3) := by decide +kernel
theorem dX3_hasBatch_7 : decode cX3_hasBatch 7 = .ok (.ireturn, 1) := by decide +kernel
theorem dX3_put_0 : decode cX3_put 0 = .ok (.iload_n 1, 1) := by decide +kernel
theorem dX3_put_1 : decode cX3_put 1 = .ok (.invokestatic 76, 3) := by decide +kernel
theorem dX3_put_4 : decode cX3_put 4 = .ok (.aload_n 0, 1) := by decide +kernel
theorem dX3_put_5 : decode cX3_put 5 = .ok (.invokevirtual 80, 3) := by decide +kernel
theorem dX3_put_8 : decode cX3_put 8 = .ok (.aload_n 0, 1) := by decide +kernel
theorem dX3_put_9 : decode cX3_put 9 = .ok (.getfield 31, 3) := by decide +kernel
theorem dX3_put_12 : decode cX3_put 12 = .ok (.iload_n 1, 1) := by decide +kernel
theorem dX3_put_13 : decode cX3_put 13 = .ok (.iload_n 2, 1) := by decide +kernel
theorem dX3_put_14 : decode cX3_put 14 = .ok (.invokevirtual 83, 3) := by decide +kernel
theorem dX3_put_17 : decode cX3_put 17 = .ok (.ireturn, 1) := by decide +kernel
theorem dX3_delete_0 : decode cX3_delete 0 = .ok (.iload_n 1, 1) := by decide +kernel
theorem dX3_delete_1 : decode cX3_delete 1 = .ok (.invokestatic 76, 3) := by decide +kernel
theorem dX3_delete_4 : decode cX3_delete 4 = .ok (.aload_n 0, 1) := by decide +kernel
theorem dX3_delete_5 : decode cX3_delete 5 = .ok (.invokevirtual 80, 3) := by decide +kernel
theorem dX3_delete_8 : decode cX3_delete 8 = .ok (.aload_n 0, 1) := by decide +kernel
theorem dX3_delete_9 : decode cX3_delete 9 = .ok (.aload_n 0, 1) := by decide +kernel
theorem dX3_delete_10 : decode cX3_delete 10 = .ok (.getfield 23, 3) := by decide +kernel
theorem dX3_delete_13 : decode cX3_delete 13 = .ok (.iload_n 1, 1) := by decide +kernel
theorem dX3_delete_14 : decode cX3_delete 14 = .ok (.invokevirtual 87, 3) := by decide +kernel
theorem dX3_delete_17 : decode cX3_delete 17 = .ok (.istore_n 2, 1) := by decide +kernel
theorem dX3_delete_18 : decode cX3_delete 18 = .ok (.aload_n 0, 1) := by decide +kernel
theorem dX3_delete_19 : decode cX3_delete 19 = .ok (.getfield 31, 3) := by decide +kernel
theorem dX3_delete_22 : decode cX3_delete 22 = .ok (.iload_n 1, 1) := by decide +kernel
theorem dX3_delete_23 : decode cX3_delete 23 = .ok (.invokevirtual 91, 3) := by decide +kernel
theorem dX3_delete_26 : decode cX3_delete 26 = .ok (.iload_n 2, 1) := by decide +kernel
theorem dX3_delete_27 : decode cX3_delete 27 = .ok (.ireturn, 1) := by decide +kernel
theorem dX3_commit_0 : decode cX3_commit 0 = .ok (.aload_n 0, 1) := by decide +kernel
theorem dX3_commit_1 : decode cX3_commit 1 = .ok (.invokevirtual 80, 3) := by decide +kernel
theorem dX3_commit_4 : decode cX3_commit 4 = .ok (.aload_n 0, 1) := by decide +kernel
theorem dX3_commit_5 : decode cX3_commit 5 = .ok (.getfield 43, 3) := by decide +kernel
theorem dX3_commit_8 : decode cX3_commit 8 = .ok (.invokestatic 94, 3) := by decide +kernel
theorem dX3_commit_11 : decode cX3_commit 11 = .ok (.istore_n 1, 1) := by decide +kernel
theorem dX3_commit_12 : decode cX3_commit 12 = .ok (.aload_n 0, 1) := by decide +kernel
theorem dX3_commit_13 : decode cX3_commit 13 = .ok (.iload_n 1, 1) := by decide +kernel
theorem dX3_commit_14 : decode cX3_commit 14 = .ok (.iconst 4, 1) := by decide +kernel
theorem dX3_commit_15 : decode cX3_commit 15 = .ok (.invokevirtual 98, 3) := by decide +kernel
theorem dX3_commit_18 : decode cX3_commit 18 = .ok (.aload_n 0, 1) := by decide +kernel
theorem dX3_commit_19 : decode cX3_commit 19 = .ok (.iload_n 1, 1) := by decide +kernel
theorem dX3_commit_20 : decode cX3_commit 20 = .ok (.putfield 43, 3) := by decide +kernel
theorem dX3_commit_23 : decode cX3_commit 23 = .ok (.aload_n 0, 1) := by decide +kernel
theorem dX3_commit_24 : decode cX3_commit 24 = .ok (.getfield 19, 3) := by decide +kernel
theorem dX3_commit_27 : decode cX3_commit 27 = .ok (.aload_n 0, 1) := by decide +kernel
theorem dX3_commit_28 : decode cX3_commit 28 = .ok (.getfield 23, 3) := by decide +kernel
theorem dX3_commit_31 : decode cX3_commit 31 = .ok (.invokevirtual 69, 3) := by decide +kernel
theorem dX3_commit_34 : decode cX3_commit 34 = .ok (.aload_n 0, 1) := by decide +kernel
theorem dX3_commit_35 : decode cX3_commit 35 = .ok (.invokevirtual 102, 3) := by decide +kernel
theorem dX3_commit_38 : decode cX3_commit 38 = .ok (.aload_n 0, 1) := by decide +kernel
theorem dX3_commit_39 : decode cX3_commit 39 = .ok (.getfield 19, 3) := by decide +kernel
theorem dX3_commit_42 : decode cX3_commit 42 = .ok (.getfield 73, 3) := by decide +kernel
theorem dX3_commit_45 : decode cX3_commit 45 = .ok (.ireturn, 1) := by decide +kernel
theorem dX3_abandon_0 : decode cX3_abandon 0 = .ok (.aload_n 0, 1) := by decide +kernel
theorem dX3_abandon_1 : decode cX3_abandon 1 = .ok (.invokevirtual 80, 3) := by decide +kernel
theorem dX3_abandon_4 : decode cX3_abandon 4 = .ok (.aload_n 0, 1) := by decide +kernel
theorem dX3_abandon_5 : decode cX3_abandon 5 = .ok (.invokevirtual 105, 3) := by decide +kernel
theorem dX3_abandon_8 : decode cX3_abandon 8 = .ok (.istore_n 1, 1) := by decide +kernel
theorem dX3_abandon_9 : decode cX3_abandon 9 = .ok (.aload_n 0, 1) := by decide +kernel
theorem dX3_abandon_10 : decode cX3_abandon 10 = .ok (.invokevirtual 102, 3) := by decide +kernel
theorem dX3_abandon_13 : decode cX3_abandon 13 = .ok (.iload_n 1, 1) := by decide +kernel
theorem dX3_abandon_14 : decode cX3_abandon 14 = .ok (.aload_n 0, 1) := by decide +kernel
theorem dX3_abandon_15 : decode cX3_abandon 15 = .ok (.invokevirtual 105, 3) := by decide +kernel
theorem dX3_abandon_18 : decode cX3_abandon 18 = .ok (.isub, 1) := by decide +kernel
theorem dX3_abandon_19 : decode cX3_abandon 19 = .ok (.ireturn, 1) := by decide +kernel
theorem dX3_openReader_0 : decode cX3_openReader 0 = .ok (.iconst 0, 1) := by decide +kernel
theorem dX3_openReader_1 : decode cX3_openReader 1 = .ok (.istore_n 1, 1) := by decide +kernel
theorem dX3_openReader_2 : decode cX3_openReader 2 = .ok (.iload_n 1, 1) := by decide +kernel
theorem dX3_openReader_3 : decode cX3_openReader 3 = .ok (.iconst 4, 1) := by decide +kernel
theorem dX3_openReader_4 : decode cX3_openReader 4 = .ok (.if_icmp .ge 32, 3) := by decide +kernel
theorem dX3_openReader_7 : decode cX3_openReader 7 = .ok (.aload_n 0, 1) := by decide +kernel
theorem dX3_openReader_8 : decode cX3_openReader 8 = .ok (.iload_n 1, 1) := by decide +kernel
theorem dX3_openReader_9 : decode cX3_openReader 9 = .ok (.invokevirtual 109, 3) := by decide +kernel
theorem dX3_openReader_12 : decode cX3_openReader 12 = .ok (.ifCond .ne 18, 3) := by decide +kernel
theorem dX3_openReader_15 : decode cX3_openReader 15 = .ok (.aload_n 0, 1) := by decide +kernel
theorem dX3_openReader_16 : decode cX3_openReader 16 = .ok (.getfield 35, 3) := by decide +kernel
theorem dX3_openReader_19 : decode cX3_openReader 19 = .ok (.iload_n 1, 1) := by decide +kernel
theorem dX3_openReader_20 : decode cX3_openReader 20 = .ok (.aaload, 1) := by decide +kernel
theorem dX3_openReader_21 : decode cX3_openReader 21 = .ok (.aload_n 0, 1) := by decide +kernel
theorem dX3_openReader_22 : decode cX3_openReader 22 = .ok (.getfield 19, 3) := by decide +kernel
theorem dX3_openReader_25 : decode cX3_openReader 25 = .ok (.invokevirtual 69, 3) := by decide +kernel
theorem dX3_openReader_28 : decode cX3_openReader 28 = .ok (.iload_n 1, 1) := by decide +kernel
theorem dX3_openReader_29 : decode cX3_openReader 29 = .ok (.ireturn, 1) := by decide +kernel
theorem dX3_openReader_30 : decode cX3_openReader 30 = .ok (.iinc 1 1, 3) := by decide +kernel
theorem dX3_openReader_33 : decode cX3_openReader 33 = .ok (.goto (-31), 3) := by decide +kernel
theorem dX3_openReader_36 : decode cX3_openReader 36 = .ok (.new 62, 3) := by decide +kernel
theorem dX3_openReader_39 : decode cX3_openReader 39 = .ok (.dup, 1) := by decide +kernel
theorem dX3_openReader_40 : decode cX3_openReader 40 = .ok (.ldc 113, 2) := by decide +kernel
theorem dX3_openReader_42 : decode cX3_openReader 42 = .ok (.invokespecial 66, 3) := by decide +kernel
theorem dX3_openReader_45 : decode cX3_openReader 45 = .ok (.athrow, 1) := by decide +kernel
theorem dX3_closeReader_0 : decode cX3_closeReader 0 = .ok (.aload_n 0, 1) := by decide +kernel
theorem dX3_closeReader_1 : decode cX3_closeReader 1 = .ok (.iload_n 1, 1) := by decide +kernel
theorem dX3_closeReader_2 : decode cX3_closeReader 2 = .ok (.invokevirtual 115, 3) := by decide +kernel
theorem dX3_closeReader_5 : decode cX3_closeReader 5 = .ok (.aload_n 0, 1) := by decide +kernel
theorem dX3_closeReader_6 : decode cX3_closeReader 6 = .ok (.invokevirtual 105, 3) := by decide +kernel
theorem dX3_closeReader_9 : decode cX3_closeReader 9 = .ok (.istore_n 2, 1) := by decide +kernel
theorem dX3_closeReader_10 : decode cX3_closeReader 10 = .ok (.aload_n 0, 1) := by decide +kernel
theorem dX3_closeReader_11 : decode cX3_closeReader 11 = .ok (.getfield 35, 3) := by decide +kernel
theorem dX3_closeReader_14 : decode cX3_closeReader 14 = .ok (.iload_n 1, 1) := by decide +kernel
theorem dX3_closeReader_15 : decode cX3_closeReader 15 = .ok (.aaload, 1) := by decide +kernel
theorem dX3_closeReader_16 : decode cX3_closeReader 16 = .ok (.iconst 0, 1) := by decide +kernel
theorem dX3_closeReader_17 : decode cX3_closeReader 17 = .ok (.putfield 58, 3) := by decide +kernel
theorem dX3_closeReader_20 : decode cX3_closeReader 20 = .ok (.aload_n 0, 1) := by decide +kernel
theorem dX3_closeReader_21 : decode cX3_closeReader 21 = .ok (.aload_n 0, 1) := by decide +kernel
theorem dX3_closeReader_22 : decode cX3_closeReader 22 = .ok (.getfield 12, 3) := by decide +kernel
theorem dX3_closeReader_25 : decode cX3_closeReader 25 = .ok (.getfield 47, 3) := by decide +kernel
theorem dX3_closeReader_28 : decode cX3_closeReader 28 = .ok (.iconst (-1), 1) := by decide +kernel
theorem dX3_closeReader_29 : decode cX3_closeReader 29 = .ok (.invokevirtual 118, 3) := by decide +kernel
theorem dX3_closeReader_32 : decode cX3_closeReader 32 = .ok (.iload_n 2, 1) := by decide +kernel
theorem dX3_closeReader_33 : decode cX3_closeReader 33 = .ok (.aload_n 0, 1) := by decide +kernel
theorem dX3_closeReader_34 : decode cX3_closeReader 34 = .ok (.invokevirtual 105, 3) := by decide +kernel
theorem dX3_closeReader_37 : decode cX3_closeReader 37 = .ok (.isub, 1) := by decide +kernel
theorem dX3_closeReader_38 : decode cX3_closeReader 38 = .ok (.ireturn, 1) := by decide +kernel
theorem dX3_readers_0 : decode cX3_readers 0 = .ok (.iconst 0, 1) := by decide +kernel
theorem dX3_readers_1 : decode cX3_readers 1 = .ok (.istore_n 1, 1) := by decide +kernel
theorem dX3_readers_2 : decode cX3_readers 2 = .ok (.iconst 0, 1) := by decide +kernel
theorem dX3_readers_3 : decode cX3_readers 3 = .ok (.istore_n 2, 1) := by decide +kernel
theorem dX3_readers_4 : decode cX3_readers 4 = .ok (.iload_n 2, 1) := by decide +kernel
theorem dX3_readers_5 : decode cX3_readers 5 = .ok (.iconst 4, 1) := by decide +kernel
theorem dX3_readers_6 : decode cX3_readers 6 = .ok (.if_icmp .ge 20, 3) := by decide +kernel
theorem dX3_readers_9 : decode cX3_readers 9 = .ok (.aload_n 0, 1) := by decide +kernel
theorem dX3_readers_10 : decode cX3_readers 10 = .ok (.iload_n 2, 1) := by decide +kernel
theorem dX3_readers_11 : decode cX3_readers 11 = .ok (.invokevirtual 109, 3) := by decide +kernel
theorem dX3_readers_14 : decode cX3_readers 14 = .ok (.ifCond .eq 6, 3) := by decide +kernel
theorem dX3_readers_17 : decode cX3_readers 17 = .ok (.iinc 1 1, 3) := by decide +kernel
theorem dX3_readers_20 : decode cX3_readers 20 = .ok (.iinc 2 1, 3) := by decide +kernel
theorem dX3_readers_23 : decode cX3_readers 23 = .ok (.goto (-19), 3) := by decide +kernel
theorem dX3_readers_26 : decode cX3_readers 26 = .ok (.iload_n 1, 1) := by decide +kernel
theorem dX3_readers_27 : decode cX3_readers 27 = .ok (.ireturn, 1) := by decide +kernel
theorem dX3_heldBy_0 : decode cX3_heldBy 0 = .ok (.aload_n 0, 1) := by decide +kernel
theorem dX3_heldBy_1 : decode cX3_heldBy 1 = .ok (.iload_n 1, 1) := by decide +kernel
theorem dX3_heldBy_2 : decode cX3_heldBy 2 = .ok (.invokevirtual 115, 3) := by decide +kernel
theorem dX3_heldBy_5 : decode cX3_heldBy 5 = .ok (.aload_n 0, 1) := by decide +kernel
theorem dX3_heldBy_6 : decode cX3_heldBy 6 = .ok (.aload_n 0, 1) := by decide +kernel
theorem dX3_heldBy_7 : decode cX3_heldBy 7 = .ok (.getfield 12, 3) := by decide +kernel
theorem dX3_heldBy_10 : decode cX3_heldBy 10 = .ok (.getfield 121, 3) := by decide +kernel
theorem dX3_heldBy_13 : decode cX3_heldBy 13 = .ok (.iload_n 1, 1) := by decide +kernel
theorem dX3_heldBy_14 : decode cX3_heldBy 14 = .ok (.invokevirtual 118, 3) := by decide +kernel
theorem dX3_heldBy_17 : decode cX3_heldBy 17 = .ok (.iconst 0, 1) := by decide +kernel
theorem dX3_heldBy_18 : decode cX3_heldBy 18 = .ok (.istore_n 2, 1) := by decide +kernel
theorem dX3_heldBy_19 : decode cX3_heldBy 19 = .ok (.iconst 0, 1) := by decide +kernel
theorem dX3_heldBy_20 : decode cX3_heldBy 20 = .ok (.istore_n 3, 1) := by decide +kernel
theorem dX3_heldBy_21 : decode cX3_heldBy 21 = .ok (.iload_n 3, 1) := by decide +kernel
theorem dX3_heldBy_22 : decode cX3_heldBy 22 = .ok (.sipush 800, 3) := by decide +kernel
theorem dX3_heldBy_25 : decode cX3_heldBy 25 = .ok (.if_icmp .ge 36, 3) := by decide +kernel
theorem dX3_heldBy_28 : decode cX3_heldBy 28 = .ok (.aload_n 0, 1) := by decide +kernel
theorem dX3_heldBy_29 : decode cX3_heldBy 29 = .ok (.getfield 12, 3) := by decide +kernel
theorem dX3_heldBy_32 : decode cX3_heldBy 32 = .ok (.getfield 47, 3) := by decide +kernel
theorem dX3_heldBy_35 : decode cX3_heldBy 35 = .ok (.iload_n 3, 1) := by decide +kernel
theorem dX3_heldBy_36 : decode cX3_heldBy 36 = .ok (.baload, 1) := by decide +kernel
theorem dX3_heldBy_37 : decode cX3_heldBy 37 = .ok (.ifCond .eq 18, 3) := by decide +kernel
theorem dX3_heldBy_40 : decode cX3_heldBy 40 = .ok (.aload_n 0, 1) := by decide +kernel
theorem dX3_heldBy_41 : decode cX3_heldBy 41 = .ok (.getfield 12, 3) := by decide +kernel
theorem dX3_heldBy_44 : decode cX3_heldBy 44 = .ok (.getfield 121, 3) := by decide +kernel
theorem dX3_heldBy_47 : decode cX3_heldBy 47 = .ok (.iload_n 3, 1) := by decide +kernel
theorem dX3_heldBy_48 : decode cX3_heldBy 48 = .ok (.baload, 1) := by decide +kernel
theorem dX3_heldBy_49 : decode cX3_heldBy 49 = .ok (.ifCond .ne 6, 3) := by decide +kernel
theorem dX3_heldBy_52 : decode cX3_heldBy 52 = .ok (.iinc 2 1, 3) := by decide +kernel
theorem dX3_heldBy_55 : decode cX3_heldBy 55 = .ok (.iinc 3 1, 3) := by decide +kernel
theorem dX3_heldBy_58 : decode cX3_heldBy 58 = .ok (.goto (-37), 3) := by decide +kernel
theorem dX3_heldBy_61 : decode cX3_heldBy 61 = .ok (.iload_n 2, 1) := by decide +kernel
theorem dX3_heldBy_62 : decode cX3_heldBy 62 = .ok (.ireturn, 1) := by decide +kernel
theorem dX3_epochOf_0 : decode cX3_epochOf 0 = .ok (.aload_n 0, 1) := by decide +kernel
theorem dX3_epochOf_1 : decode cX3_epochOf 1 = .ok (.iload_n 1, 1) := by decide +kernel
theorem dX3_epochOf_2 : decode cX3_epochOf 2 = .ok (.invokevirtual 124, 3) := by decide +kernel
theorem dX3_epochOf_5 : decode cX3_epochOf 5 = .ok (.getfield 73, 3) := by decide +kernel
theorem dX3_epochOf_8 : decode cX3_epochOf 8 = .ok (.ireturn, 1) := by decide +kernel
theorem dX3_get_0 : decode cX3_get 0 = .ok (.aload_n 0, 1) := by decide +kernel
theorem dX3_get_1 : decode cX3_get 1 = .ok (.iload_n 1, 1) := by decide +kernel
theorem dX3_get_2 : decode cX3_get 2 = .ok (.invokevirtual 124, 3) := by decide +kernel
theorem dX3_get_5 : decode cX3_get 5 = .ok (.astore_n 3, 1) := by decide +kernel
theorem dX3_get_6 : decode cX3_get 6 = .ok (.iload_n 2, 1) := by decide +kernel
theorem dX3_get_7 : decode cX3_get 7 = .ok (.invokestatic 76, 3) := by decide +kernel
theorem dX3_get_10 : decode cX3_get 10 = .ok (.aload_n 0, 1) := by decide +kernel
theorem dX3_get_11 : decode cX3_get 11 = .ok (.aload_n 3, 1) := by decide +kernel
theorem dX3_get_12 : decode cX3_get 12 = .ok (.iload_n 2, 1) := by decide +kernel
theorem dX3_get_13 : decode cX3_get 13 = .ok (.invokevirtual 87, 3) := by decide +kernel
theorem dX3_get_16 : decode cX3_get 16 = .ok (.ireturn, 1) := by decide +kernel
theorem dX3_next_0 : decode cX3_next 0 = .ok (.aload_n 0, 1) := by decide +kernel
theorem dX3_next_1 : decode cX3_next 1 = .ok (.getfield 12, 3) := by decide +kernel
theorem dX3_next_4 : decode cX3_next 4 = .ok (.aload_n 0, 1) := by decide +kernel
theorem dX3_next_5 : decode cX3_next 5 = .ok (.iload_n 1, 1) := by decide +kernel
theorem dX3_next_6 : decode cX3_next 6 = .ok (.invokevirtual 124, 3) := by decide +kernel
theorem dX3_next_9 : decode cX3_next 9 = .ok (.getfield 51, 3) := by decide +kernel
theorem dX3_next_12 : decode cX3_next 12 = .ok (.iload_n 2, 1) := by decide +kernel
theorem dX3_next_13 : decode cX3_next 13 = .ok (.invokevirtual 128, 3) := by decide +kernel
theorem dX3_next_16 : decode cX3_next 16 = .ok (.ireturn, 1) := by decide +kernel
theorem dX3_rank_0 : decode cX3_rank 0 = .ok (.aload_n 0, 1) := by decide +kernel
theorem dX3_rank_1 : decode cX3_rank 1 = .ok (.getfield 12, 3) := by decide +kernel
theorem dX3_rank_4 : decode cX3_rank 4 = .ok (.aload_n 0, 1) := by decide +kernel
theorem dX3_rank_5 : decode cX3_rank 5 = .ok (.iload_n 1, 1) := by decide +kernel
theorem dX3_rank_6 : decode cX3_rank 6 = .ok (.invokevirtual 124, 3) := by decide +kernel
theorem dX3_rank_9 : decode cX3_rank 9 = .ok (.getfield 51, 3) := by decide +kernel
theorem dX3_rank_12 : decode cX3_rank 12 = .ok (.iload_n 2, 1) := by decide +kernel
theorem dX3_rank_13 : decode cX3_rank 13 = .ok (.invokevirtual 132, 3) := by decide +kernel
theorem dX3_rank_16 : decode cX3_rank 16 = .ok (.ireturn, 1) := by decide +kernel
theorem dX3_size_0 : decode cX3_size 0 = .ok (.aload_n 0, 1) := by decide +kernel
theorem dX3_size_1 : decode cX3_size 1 = .ok (.iload_n 1, 1) := by decide +kernel
theorem dX3_size_2 : decode cX3_size 2 = .ok (.invokevirtual 124, 3) := by decide +kernel
theorem dX3_size_5 : decode cX3_size 5 = .ok (.getfield 135, 3) := by decide +kernel
theorem dX3_size_8 : decode cX3_size 8 = .ok (.ireturn, 1) := by decide +kernel
theorem dX3_depth_0 : decode cX3_depth 0 = .ok (.aload_n 0, 1) := by decide +kernel
theorem dX3_depth_1 : decode cX3_depth 1 = .ok (.getfield 12, 3) := by decide +kernel
theorem dX3_depth_4 : decode cX3_depth 4 = .ok (.aload_n 0, 1) := by decide +kernel
theorem dX3_depth_5 : decode cX3_depth 5 = .ok (.iload_n 1, 1) := by decide +kernel
theorem dX3_depth_6 : decode cX3_depth 6 = .ok (.invokevirtual 124, 3) := by decide +kernel
theorem dX3_depth_9 : decode cX3_depth 9 = .ok (.getfield 51, 3) := by decide +kernel
theorem dX3_depth_12 : decode cX3_depth 12 = .ok (.invokevirtual 138, 3) := by decide +kernel
theorem dX3_depth_15 : decode cX3_depth 15 = .ok (.ireturn, 1) := by decide +kernel
theorem dX3_rootOf_0 : decode cX3_rootOf 0 = .ok (.aload_n 0, 1) := by decide +kernel
theorem dX3_rootOf_1 : decode cX3_rootOf 1 = .ok (.iload_n 1, 1) := by decide +kernel
theorem dX3_rootOf_2 : decode cX3_rootOf 2 = .ok (.invokevirtual 124, 3) := by decide +kernel
theorem dX3_rootOf_5 : decode cX3_rootOf 5 = .ok (.getfield 51, 3) := by decide +kernel
theorem dX3_rootOf_8 : decode cX3_rootOf 8 = .ok (.ireturn, 1) := by decide +kernel
theorem dX3_sharedPages_0 : decode cX3_sharedPages 0 = .ok (.aload_n 0, 1) := by decide +kernel
theorem dX3_sharedPages_1 : decode cX3_sharedPages 1 = .ok (.iload_n 1, 1) := by decide +kernel
theorem dX3_sharedPages_2 : decode cX3_sharedPages 2 = .ok (.invokevirtual 124, 3) := by decide +kernel
theorem dX3_sharedPages_5 : decode cX3_sharedPages 5 = .ok (.getfield 51, 3) := by decide +kernel
theorem dX3_sharedPages_8 : decode cX3_sharedPages 8 = .ok (.istore_n 3, 1) := by decide +kernel
theorem dX3_sharedPages_9 : decode cX3_sharedPages 9 = .ok (.aload_n 0, 1) := by decide +kernel
theorem dX3_sharedPages_10 : decode cX3_sharedPages 10 = .ok (.iload_n 2, 1) := by decide +kernel
theorem dX3_sharedPages_11 : decode cX3_sharedPages 11 = .ok (.invokevirtual 124, 3) := by decide +kernel
theorem dX3_sharedPages_14 : decode cX3_sharedPages 14 = .ok (.getfield 51, 3) := by decide +kernel
theorem dX3_sharedPages_17 : decode cX3_sharedPages 17 = .ok (.istore 4, 2) := by decide +kernel
theorem dX3_sharedPages_19 : decode cX3_sharedPages 19 = .ok (.aload_n 0, 1) := by decide +kernel
theorem dX3_sharedPages_20 : decode cX3_sharedPages 20 = .ok (.getfield 12, 3) := by decide +kernel
theorem dX3_sharedPages_23 : decode cX3_sharedPages 23 = .ok (.getfield 121, 3) := by decide +kernel
theorem dX3_sharedPages_26 : decode cX3_sharedPages 26 = .ok (.invokestatic 141, 3) := by decide +kernel
theorem dX3_sharedPages_29 : decode cX3_sharedPages 29 = .ok (.aload_n 0, 1) := by decide +kernel
theorem dX3_sharedPages_30 : decode cX3_sharedPages 30 = .ok (.getfield 12, 3) := by decide +kernel
theorem dX3_sharedPages_33 : decode cX3_sharedPages 33 = .ok (.aload_n 0, 1) := by decide +kernel
theorem dX3_sharedPages_34 : decode cX3_sharedPages 34 = .ok (.getfield 12, 3) := by decide +kernel
theorem dX3_sharedPages_37 : decode cX3_sharedPages 37 = .ok (.getfield 121, 3) := by decide +kernel
theorem dX3_sharedPages_40 : decode cX3_sharedPages 40 = .ok (.iload_n 3, 1) := by decide +kernel
theorem dX3_sharedPages_41 : decode cX3_sharedPages 41 = .ok (.invokevirtual 54, 3) := by decide +kernel
theorem dX3_sharedPages_44 : decode cX3_sharedPages 44 = .ok (.aload_n 0, 1) := by decide +kernel
theorem dX3_sharedPages_45 : decode cX3_sharedPages 45 = .ok (.getfield 12, 3) := by decide +kernel
theorem dX3_sharedPages_48 : decode cX3_sharedPages 48 = .ok (.iload 4, 2) := by decide +kernel
theorem dX3_sharedPages_50 : decode cX3_sharedPages 50 = .ok (.invokevirtual 145, 3) := by decide +kernel
theorem dX3_sharedPages_53 : decode cX3_sharedPages 53 = .ok (.ireturn, 1) := by decide +kernel
theorem dX3_isFree_0 : decode cX3_isFree 0 = .ok (.iload_n 1, 1) := by decide +kernel
theorem dX3_isFree_1 : decode cX3_isFree 1 = .ok (.ifCond .ge 13, 3) := by decide +kernel
theorem dX3_isFree_4 : decode cX3_isFree 4 = .ok (.new 148, 3) := by decide +kernel
theorem dX3_isFree_7 : decode cX3_isFree 7 = .ok (.dup, 1) := by decide +kernel
theorem dX3_isFree_8 : decode cX3_isFree 8 = .ok (.ldc 150, 2) := by decide +kernel
theorem dX3_isFree_10 : decode cX3_isFree 10 = .ok (.invokespecial 152, 3) := by decide +kernel
theorem dX3_isFree_13 : decode cX3_isFree 13 = .ok (.athrow, 1) := by decide +kernel
theorem dX3_isFree_14 : decode cX3_isFree 14 = .ok (.aload_n 0, 1) := by decide +kernel
theorem dX3_isFree_15 : decode cX3_isFree 15 = .ok (.getfield 12, 3) := by decide +kernel
theorem dX3_isFree_18 : decode cX3_isFree 18 = .ok (.iload_n 1, 1) := by decide +kernel
theorem dX3_isFree_19 : decode cX3_isFree 19 = .ok (.invokevirtual 153, 3) := by decide +kernel
theorem dX3_isFree_22 : decode cX3_isFree 22 = .ok (.ireturn, 1) := by decide +kernel
theorem dX3_pagesInUse_0 : decode cX3_pagesInUse 0 = .ok (.iconst 0, 1) := by decide +kernel
theorem dX3_pagesInUse_1 : decode cX3_pagesInUse 1 = .ok (.istore_n 1, 1) := by decide +kernel
theorem dX3_pagesInUse_2 : decode cX3_pagesInUse 2 = .ok (.iconst 0, 1) := by decide +kernel
theorem dX3_pagesInUse_3 : decode cX3_pagesInUse 3 = .ok (.istore_n 2, 1) := by decide +kernel
theorem dX3_pagesInUse_4 : decode cX3_pagesInUse 4 = .ok (.iload_n 2, 1) := by decide +kernel
theorem dX3_pagesInUse_5 : decode cX3_pagesInUse 5 = .ok (.sipush 800, 3) := by decide +kernel
theorem dX3_pagesInUse_8 : decode cX3_pagesInUse 8 = .ok (.if_icmp .ge 23, 3) := by decide +kernel
theorem dX3_pagesInUse_11 : decode cX3_pagesInUse 11 = .ok (.aload_n 0, 1) := by decide +kernel
theorem dX3_pagesInUse_12 : decode cX3_pagesInUse 12 = .ok (.getfield 12, 3) := by decide +kernel
theorem dX3_pagesInUse_15 : decode cX3_pagesInUse 15 = .ok (.iload_n 2, 1) := by decide +kernel
theorem dX3_pagesInUse_16 : decode cX3_pagesInUse 16 = .ok (.invokevirtual 153, 3) := by decide +kernel
theorem dX3_pagesInUse_19 : decode cX3_pagesInUse 19 = .ok (.ifCond .ne 6, 3) := by decide +kernel
theorem dX3_pagesInUse_22 : decode cX3_pagesInUse 22 = .ok (.iinc 1 1, 3) := by decide +kernel
theorem dX3_pagesInUse_25 : decode cX3_pagesInUse 25 = .ok (.iinc 2 1, 3) := by decide +kernel
theorem dX3_pagesInUse_28 : decode cX3_pagesInUse 28 = .ok (.goto (-24), 3) := by decide +kernel
theorem dX3_pagesInUse_31 : decode cX3_pagesInUse 31 = .ok (.iload_n 1, 1) := by decide +kernel
theorem dX3_pagesInUse_32 : decode cX3_pagesInUse 32 = .ok (.ireturn, 1) := by decide +kernel
theorem dX3_leastFree_0 : decode cX3_leastFree 0 = .ok (.aload_n 0, 1) := by decide +kernel
theorem dX3_leastFree_1 : decode cX3_leastFree 1 = .ok (.getfield 12, 3) := by decide +kernel
theorem dX3_leastFree_4 : decode cX3_leastFree 4 = .ok (.invokevirtual 156, 3) := by decide +kernel
theorem dX3_leastFree_7 : decode cX3_leastFree 7 = .ok (.ireturn, 1) := by decide +kernel
theorem dX3_entries_0 : decode cX3_entries 0 = .ok (.aload_n 0, 1) := by decide +kernel
theorem dX3_entries_1 : decode cX3_entries 1 = .ok (.iload_n 1, 1) := by decide +kernel
theorem dX3_entries_2 : decode cX3_entries 2 = .ok (.invokevirtual 159, 3) := by decide +kernel
theorem dX3_entries_5 : decode cX3_entries 5 = .ok (.aload_n 0, 1) := by decide +kernel
theorem dX3_entries_6 : decode cX3_entries 6 = .ok (.getfield 12, 3) := by decide +kernel
theorem dX3_entries_9 : decode cX3_entries 9 = .ok (.iload_n 1, 1) := by decide +kernel
theorem dX3_entries_10 : decode cX3_entries 10 = .ok (.invokevirtual 162, 3) := by decide +kernel
theorem dX3_entries_13 : decode cX3_entries 13 = .ok (.ireturn, 1) := by decide +kernel
theorem dX3_keyAt_0 : decode cX3_keyAt 0 = .ok (.aload_n 0, 1) := by decide +kernel
theorem dX3_keyAt_1 : decode cX3_keyAt 1 = .ok (.iload_n 1, 1) := by decide +kernel
theorem dX3_keyAt_2 : decode cX3_keyAt 2 = .ok (.iload_n 2, 1) := by decide +kernel
theorem dX3_keyAt_3 : decode cX3_keyAt 3 = .ok (.invokevirtual 165, 3) := by decide +kernel
theorem dX3_keyAt_6 : decode cX3_keyAt 6 = .ok (.aload_n 0, 1) := by decide +kernel
theorem dX3_keyAt_7 : decode cX3_keyAt 7 = .ok (.getfield 12, 3) := by decide +kernel
theorem dX3_keyAt_10 : decode cX3_keyAt 10 = .ok (.iload_n 1, 1) := by decide +kernel
theorem dX3_keyAt_11 : decode cX3_keyAt 11 = .ok (.iload_n 2, 1) := by decide +kernel
theorem dX3_keyAt_12 : decode cX3_keyAt 12 = .ok (.invokevirtual 168, 3) := by decide +kernel
theorem dX3_keyAt_15 : decode cX3_keyAt 15 = .ok (.ireturn, 1) := by decide +kernel
theorem dX3_pageAt_0 : decode cX3_pageAt 0 = .ok (.aload_n 0, 1) := by decide +kernel
theorem dX3_pageAt_1 : decode cX3_pageAt 1 = .ok (.iload_n 1, 1) := by decide +kernel
theorem dX3_pageAt_2 : decode cX3_pageAt 2 = .ok (.iload_n 2, 1) := by decide +kernel
theorem dX3_pageAt_3 : decode cX3_pageAt 3 = .ok (.invokevirtual 165, 3) := by decide +kernel
theorem dX3_pageAt_6 : decode cX3_pageAt 6 = .ok (.aload_n 0, 1) := by decide +kernel
theorem dX3_pageAt_7 : decode cX3_pageAt 7 = .ok (.getfield 12, 3) := by decide +kernel
theorem dX3_pageAt_10 : decode cX3_pageAt 10 = .ok (.iload_n 1, 1) := by decide +kernel
theorem dX3_pageAt_11 : decode cX3_pageAt 11 = .ok (.invokevirtual 171, 3) := by decide +kernel
theorem dX3_pageAt_14 : decode cX3_pageAt 14 = .ok (.ifCond .eq 7, 3) := by decide +kernel
theorem dX3_pageAt_17 : decode cX3_pageAt 17 = .ok (.iconst (-1), 1) := by decide +kernel
theorem dX3_pageAt_18 : decode cX3_pageAt 18 = .ok (.goto 12, 3) := by decide +kernel
theorem dX3_pageAt_21 : decode cX3_pageAt 21 = .ok (.aload_n 0, 1) := by decide +kernel
theorem dX3_pageAt_22 : decode cX3_pageAt 22 = .ok (.getfield 12, 3) := by decide +kernel
theorem dX3_pageAt_25 : decode cX3_pageAt 25 = .ok (.iload_n 1, 1) := by decide +kernel
theorem dX3_pageAt_26 : decode cX3_pageAt 26 = .ok (.iload_n 2, 1) := by decide +kernel
theorem dX3_pageAt_27 : decode cX3_pageAt 27 = .ok (.invokevirtual 174, 3) := by decide +kernel
theorem dX3_pageAt_30 : decode cX3_pageAt 30 = .ok (.ireturn, 1) := by decide +kernel
theorem dX3_currentSlot_0 : decode cX3_currentSlot 0 = .ok (.aload_n 0, 1) := by decide +kernel
theorem dX3_currentSlot_1 : decode cX3_currentSlot 1 = .ok (.getfield 43, 3) := by decide +kernel
theorem dX3_currentSlot_4 : decode cX3_currentSlot 4 = .ok (.ireturn, 1) := by decide +kernel
theorem dX3_slotWord_0 : decode cX3_slotWord 0 = .ok (.iload_n 1, 1) := by decide +kernel
theorem dX3_slotWord_1 : decode cX3_slotWord 1 = .ok (.invokestatic 177, 3) := by decide +kernel
theorem dX3_slotWord_4 : decode cX3_slotWord 4 = .ok (.iload_n 2, 1) := by decide +kernel
theorem dX3_slotWord_5 : decode cX3_slotWord 5 = .ok (.ifCond .lt 8, 3) := by decide +kernel
theorem dX3_slotWord_8 : decode cX3_slotWord 8 = .ok (.iload_n 2, 1) := by decide +kernel
theorem dX3_slotWord_9 : decode cX3_slotWord 9 = .ok (.iconst 4, 1) := by decide +kernel
theorem dX3_slotWord_10 : decode cX3_slotWord 10 = .ok (.if_icmp .lt 13, 3) := by decide +kernel
theorem dX3_slotWord_13 : decode cX3_slotWord 13 = .ok (.new 148, 3) := by decide +kernel
theorem dX3_slotWord_16 : decode cX3_slotWord 16 = .ok (.dup, 1) := by decide +kernel
theorem dX3_slotWord_17 : decode cX3_slotWord 17 = .ok (.ldc 180, 2) := by decide +kernel
theorem dX3_slotWord_19 : decode cX3_slotWord 19 = .ok (.invokespecial 152, 3) := by decide +kernel
theorem dX3_slotWord_22 : decode cX3_slotWord 22 = .ok (.athrow, 1) := by decide +kernel
theorem dX3_slotWord_23 : decode cX3_slotWord 23 = .ok (.aload_n 0, 1) := by decide +kernel
theorem dX3_slotWord_24 : decode cX3_slotWord 24 = .ok (.iload_n 1, 1) := by decide +kernel
theorem dX3_slotWord_25 : decode cX3_slotWord 25 = .ok (.iload_n 2, 1) := by decide +kernel
theorem dX3_slotWord_26 : decode cX3_slotWord 26 = .ok (.invokevirtual 182, 3) := by decide +kernel
theorem dX3_slotWord_29 : decode cX3_slotWord 29 = .ok (.lreturn, 1) := by decide +kernel
theorem dX3_isWhole_0 : decode cX3_isWhole 0 = .ok (.iload_n 1, 1) := by decide +kernel
theorem dX3_isWhole_1 : decode cX3_isWhole 1 = .ok (.invokestatic 177, 3) := by decide +kernel
theorem dX3_isWhole_4 : decode cX3_isWhole 4 = .ok (.aload_n 0, 1) := by decide +kernel
theorem dX3_isWhole_5 : decode cX3_isWhole 5 = .ok (.iload_n 1, 1) := by decide +kernel
theorem dX3_isWhole_6 : decode cX3_isWhole 6 = .ok (.invokevirtual 186, 3) := by decide +kernel
theorem dX3_isWhole_9 : decode cX3_isWhole 9 = .ok (.ireturn, 1) := by decide +kernel
theorem dX3_tear_0 : decode cX3_tear 0 = .ok (.iload_n 1, 1) := by decide +kernel
theorem dX3_tear_1 : decode cX3_tear 1 = .ok (.invokestatic 177, 3) := by decide +kernel
theorem dX3_tear_4 : decode cX3_tear 4 = .ok (.aload_n 0, 1) := by decide +kernel
theorem dX3_tear_5 : decode cX3_tear 5 = .ok (.iload_n 1, 1) := by decide +kernel
theorem dX3_tear_6 : decode cX3_tear 6 = .ok (.invokestatic 94, 3) := by decide +kernel
theorem dX3_tear_9 : decode cX3_tear 9 = .ok (.invokevirtual 186, 3) := by decide +kernel
theorem dX3_tear_12 : decode cX3_tear 12 = .ok (.ifCond .ne 13, 3) := by decide +kernel
theorem dX3_tear_15 : decode cX3_tear 15 = .ok (.new 62, 3) := by decide +kernel
theorem dX3_tear_18 : decode cX3_tear 18 = .ok (.dup, 1) := by decide +kernel
theorem dX3_tear_19 : decode cX3_tear 19 = .ok (.ldc 189, 2) := by decide +kernel
theorem dX3_tear_21 : decode cX3_tear 21 = .ok (.invokespecial 66, 3) := by decide +kernel
theorem dX3_tear_24 : decode cX3_tear 24 = .ok (.athrow, 1) := by decide +kernel
theorem dX3_tear_25 : decode cX3_tear 25 = .ok (.aload_n 0, 1) := by decide +kernel
theorem dX3_tear_26 : decode cX3_tear 26 = .ok (.invokevirtual 105, 3) := by decide +kernel
theorem dX3_tear_29 : decode cX3_tear 29 = .ok (.istore_n 2, 1) := by decide +kernel
theorem dX3_tear_30 : decode cX3_tear 30 = .ok (.aload_n 0, 1) := by decide +kernel
theorem dX3_tear_31 : decode cX3_tear 31 = .ok (.getfield 39, 3) := by decide +kernel
theorem dX3_tear_34 : decode cX3_tear 34 = .ok (.iload_n 1, 1) := by decide +kernel
theorem dX3_tear_35 : decode cX3_tear 35 = .ok (.iconst 4, 1) := by decide +kernel
theorem dX3_tear_36 : decode cX3_tear 36 = .ok (.imul, 1) := by decide +kernel
theorem dX3_tear_37 : decode cX3_tear 37 = .ok (.iconst 3, 1) := by decide +kernel
theorem dX3_tear_38 : decode cX3_tear 38 = .ok (.iadd, 1) := by decide +kernel
theorem dX3_tear_39 : decode cX3_tear 39 = .ok (.ldc2_w 191, 3) := by decide +kernel
theorem dX3_tear_42 : decode cX3_tear 42 = .ok (.lastore, 1) := by decide +kernel
theorem dX3_tear_43 : decode cX3_tear 43 = .ok (.aload_n 0, 1) := by decide +kernel
theorem dX3_tear_44 : decode cX3_tear 44 = .ok (.aload_n 0, 1) := by decide +kernel
theorem dX3_tear_45 : decode cX3_tear 45 = .ok (.getfield 12, 3) := by decide +kernel
theorem dX3_tear_48 : decode cX3_tear 48 = .ok (.getfield 47, 3) := by decide +kernel
theorem dX3_tear_51 : decode cX3_tear 51 = .ok (.iconst (-1), 1) := by decide +kernel
theorem dX3_tear_52 : decode cX3_tear 52 = .ok (.invokevirtual 118, 3) := by decide +kernel
theorem dX3_tear_55 : decode cX3_tear 55 = .ok (.iload_n 2, 1) := by decide +kernel
theorem dX3_tear_56 : decode cX3_tear 56 = .ok (.aload_n 0, 1) := by decide +kernel
theorem dX3_tear_57 : decode cX3_tear 57 = .ok (.invokevirtual 105, 3) := by decide +kernel
theorem dX3_tear_60 : decode cX3_tear 60 = .ok (.isub, 1) := by decide +kernel
theorem dX3_tear_61 : decode cX3_tear 61 = .ok (.ireturn, 1) := by decide +kernel
theorem dX3_crash_0 : decode cX3_crash 0 = .ok (.iconst 0, 1) := by decide +kernel
theorem dX3_crash_1 : decode cX3_crash 1 = .ok (.istore_n 1, 1) := by decide +kernel
theorem dX3_crash_2 : decode cX3_crash 2 = .ok (.iload_n 1, 1) := by decide +kernel
theorem dX3_crash_3 : decode cX3_crash 3 = .ok (.iconst 4, 1) := by decide +kernel
theorem dX3_crash_4 : decode cX3_crash 4 = .ok (.if_icmp .ge 19, 3) := by decide +kernel
theorem dX3_crash_7 : decode cX3_crash 7 = .ok (.aload_n 0, 1) := by decide +kernel
theorem dX3_crash_8 : decode cX3_crash 8 = .ok (.getfield 35, 3) := by decide +kernel
theorem dX3_crash_11 : decode cX3_crash 11 = .ok (.iload_n 1, 1) := by decide +kernel
theorem dX3_crash_12 : decode cX3_crash 12 = .ok (.aaload, 1) := by decide +kernel
theorem dX3_crash_13 : decode cX3_crash 13 = .ok (.iconst 0, 1) := by decide +kernel
theorem dX3_crash_14 : decode cX3_crash 14 = .ok (.putfield 58, 3) := by decide +kernel
theorem dX3_crash_17 : decode cX3_crash 17 = .ok (.iinc 1 1, 3) := by decide +kernel
theorem dX3_crash_20 : decode cX3_crash 20 = .ok (.goto (-18), 3) := by decide +kernel
theorem dX3_crash_23 : decode cX3_crash 23 = .ok (.aload_n 0, 1) := by decide +kernel
theorem dX3_crash_24 : decode cX3_crash 24 = .ok (.aload_n 0, 1) := by decide +kernel
theorem dX3_crash_25 : decode cX3_crash 25 = .ok (.invokevirtual 193, 3) := by decide +kernel
theorem dX3_crash_28 : decode cX3_crash 28 = .ok (.putfield 43, 3) := by decide +kernel
theorem dX3_crash_31 : decode cX3_crash 31 = .ok (.aload_n 0, 1) := by decide +kernel
theorem dX3_crash_32 : decode cX3_crash 32 = .ok (.getfield 19, 3) := by decide +kernel
theorem dX3_crash_35 : decode cX3_crash 35 = .ok (.aload_n 0, 1) := by decide +kernel
theorem dX3_crash_36 : decode cX3_crash 36 = .ok (.aload_n 0, 1) := by decide +kernel
theorem dX3_crash_37 : decode cX3_crash 37 = .ok (.getfield 43, 3) := by decide +kernel
theorem dX3_crash_40 : decode cX3_crash 40 = .ok (.iconst 0, 1) := by decide +kernel
theorem dX3_crash_41 : decode cX3_crash 41 = .ok (.invokevirtual 182, 3) := by decide +kernel
theorem dX3_crash_44 : decode cX3_crash 44 = .ok (.l2i, 1) := by decide +kernel
theorem dX3_crash_45 : decode cX3_crash 45 = .ok (.putfield 73, 3) := by decide +kernel
theorem dX3_crash_48 : decode cX3_crash 48 = .ok (.aload_n 0, 1) := by decide +kernel
theorem dX3_crash_49 : decode cX3_crash 49 = .ok (.getfield 19, 3) := by decide +kernel
theorem dX3_crash_52 : decode cX3_crash 52 = .ok (.aload_n 0, 1) := by decide +kernel
theorem dX3_crash_53 : decode cX3_crash 53 = .ok (.aload_n 0, 1) := by decide +kernel
theorem dX3_crash_54 : decode cX3_crash 54 = .ok (.getfield 43, 3) := by decide +kernel
theorem dX3_crash_57 : decode cX3_crash 57 = .ok (.iconst 1, 1) := by decide +kernel
theorem dX3_crash_58 : decode cX3_crash 58 = .ok (.invokevirtual 182, 3) := by decide +kernel
theorem dX3_crash_61 : decode cX3_crash 61 = .ok (.l2i, 1) := by decide +kernel
theorem dX3_crash_62 : decode cX3_crash 62 = .ok (.putfield 51, 3) := by decide +kernel
theorem dX3_crash_65 : decode cX3_crash 65 = .ok (.aload_n 0, 1) := by decide +kernel
theorem dX3_crash_66 : decode cX3_crash 66 = .ok (.getfield 19, 3) := by decide +kernel
theorem dX3_crash_69 : decode cX3_crash 69 = .ok (.aload_n 0, 1) := by decide +kernel
theorem dX3_crash_70 : decode cX3_crash 70 = .ok (.aload_n 0, 1) := by decide +kernel
theorem dX3_crash_71 : decode cX3_crash 71 = .ok (.getfield 43, 3) := by decide +kernel
theorem dX3_crash_74 : decode cX3_crash 74 = .ok (.iconst 2, 1) := by decide +kernel
theorem dX3_crash_75 : decode cX3_crash 75 = .ok (.invokevirtual 182, 3) := by decide +kernel
theorem dX3_crash_78 : decode cX3_crash 78 = .ok (.l2i, 1) := by decide +kernel
theorem dX3_crash_79 : decode cX3_crash 79 = .ok (.putfield 135, 3) := by decide +kernel
theorem dX3_crash_82 : decode cX3_crash 82 = .ok (.aload_n 0, 1) := by decide +kernel
theorem dX3_crash_83 : decode cX3_crash 83 = .ok (.invokevirtual 102, 3) := by decide +kernel
theorem dX3_crash_86 : decode cX3_crash 86 = .ok (.aload_n 0, 1) := by decide +kernel
theorem dX3_crash_87 : decode cX3_crash 87 = .ok (.getfield 19, 3) := by decide +kernel
theorem dX3_crash_90 : decode cX3_crash 90 = .ok (.getfield 73, 3) := by decide +kernel
theorem dX3_crash_93 : decode cX3_crash 93 = .ok (.ireturn, 1) := by decide +kernel
theorem dX3_crashInCommit_0 : decode cX3_crashInCommit 0 = .ok (.iload_n 1, 1) := by decide +kernel
theorem dX3_crashInCommit_1 : decode cX3_crashInCommit 1 = .ok (.ifCond .lt 8, 3) := by decide +kernel
theorem dX3_crashInCommit_4 : decode cX3_crashInCommit 4 = .ok (.iload_n 1, 1) := by decide +kernel
theorem dX3_crashInCommit_5 : decode cX3_crashInCommit 5 = .ok (.iconst 4, 1) := by decide +kernel
theorem dX3_crashInCommit_6 : decode cX3_crashInCommit 6 = .ok (.if_icmp .le 13, 3) := by decide +kernel
theorem dX3_crashInCommit_9 : decode cX3_crashInCommit 9 = .ok (.new 196, 3) := by decide +kernel
theorem dX3_crashInCommit_12 : decode cX3_crashInCommit 12 = .ok (.dup, 1) := by decide +kernel
theorem dX3_crashInCommit_13 : decode cX3_crashInCommit 13 = .ok (.ldc 198, 2) := by decide +kernel
theorem dX3_crashInCommit_15 : decode cX3_crashInCommit 15 = .ok (.invokespecial 200, 3) := by decide +kernel
theorem dX3_crashInCommit_18 : decode cX3_crashInCommit 18 = .ok (.athrow, 1) := by decide +kernel
theorem dX3_crashInCommit_19 : decode cX3_crashInCommit 19 = .ok (.aload_n 0, 1) := by decide +kernel
theorem dX3_crashInCommit_20 : decode cX3_crashInCommit 20 = .ok (.invokevirtual 80, 3) := by decide +kernel
theorem dX3_crashInCommit_23 : decode cX3_crashInCommit 23 = .ok (.iload_n 1, 1) := by decide +kernel
theorem dX3_crashInCommit_24 : decode cX3_crashInCommit 24 = .ok (.ifCond .le 29, 3) := by decide +kernel
theorem dX3_crashInCommit_27 : decode cX3_crashInCommit 27 = .ok (.iload_n 1, 1) := by decide +kernel
theorem dX3_crashInCommit_28 : decode cX3_crashInCommit 28 = .ok (.iconst 4, 1) := by decide +kernel
theorem dX3_crashInCommit_29 : decode cX3_crashInCommit 29 = .ok (.if_icmp .ge 24, 3) := by decide +kernel
theorem dX3_crashInCommit_32 : decode cX3_crashInCommit 32 = .ok (.aload_n 0, 1) := by decide +kernel
theorem dX3_crashInCommit_33 : decode cX3_crashInCommit 33 = .ok (.aload_n 0, 1) := by decide +kernel
theorem dX3_crashInCommit_34 : decode cX3_crashInCommit 34 = .ok (.getfield 43, 3) := by decide +kernel
theorem dX3_crashInCommit_37 : decode cX3_crashInCommit 37 = .ok (.invokevirtual 186, 3) := by decide +kernel
theorem dX3_crashInCommit_40 : decode cX3_crashInCommit 40 = .ok (.ifCond .ne 13, 3) := by decide +kernel
theorem dX3_crashInCommit_43 : decode cX3_crashInCommit 43 = .ok (.new 62, 3) := by decide +kernel
theorem dX3_crashInCommit_46 : decode cX3_crashInCommit 46 = .ok (.dup, 1) := by decide +kernel
theorem dX3_crashInCommit_47 : decode cX3_crashInCommit 47 = .ok (.ldc 201, 2) := by decide +kernel
theorem dX3_crashInCommit_49 : decode cX3_crashInCommit 49 = .ok (.invokespecial 66, 3) := by decide +kernel
theorem dX3_crashInCommit_52 : decode cX3_crashInCommit 52 = .ok (.athrow, 1) := by decide +kernel
theorem dX3_crashInCommit_53 : decode cX3_crashInCommit 53 = .ok (.aload_n 0, 1) := by decide +kernel
theorem dX3_crashInCommit_54 : decode cX3_crashInCommit 54 = .ok (.aload_n 0, 1) := by decide +kernel
theorem dX3_crashInCommit_55 : decode cX3_crashInCommit 55 = .ok (.getfield 43, 3) := by decide +kernel
theorem dX3_crashInCommit_58 : decode cX3_crashInCommit 58 = .ok (.invokestatic 94, 3) := by decide +kernel
theorem dX3_crashInCommit_61 : decode cX3_crashInCommit 61 = .ok (.iload_n 1, 1) := by decide +kernel
theorem dX3_crashInCommit_62 : decode cX3_crashInCommit 62 = .ok (.invokevirtual 98, 3) := by decide +kernel
theorem dX3_crashInCommit_65 : decode cX3_crashInCommit 65 = .ok (.aload_n 0, 1) := by decide +kernel
theorem dX3_crashInCommit_66 : decode cX3_crashInCommit 66 = .ok (.invokevirtual 203, 3) := by decide +kernel
theorem dX3_crashInCommit_69 : decode cX3_crashInCommit 69 = .ok (.ireturn, 1) := by decide +kernel
theorem dX3_requireKey_0 : decode cX3_requireKey 0 = .ok (.iload_n 0, 1) := by decide +kernel
theorem dX3_requireKey_1 : decode cX3_requireKey 1 = .ok (.ifCond .lt 9, 3) := by decide +kernel
theorem dX3_requireKey_4 : decode cX3_requireKey 4 = .ok (.iload_n 0, 1) := by decide +kernel
theorem dX3_requireKey_5 : decode cX3_requireKey 5 = .ok (.bipush 100, 2) := by decide +kernel
theorem dX3_requireKey_7 : decode cX3_requireKey 7 = .ok (.if_icmp .lt 13, 3) := by decide +kernel
theorem dX3_requireKey_10 : decode cX3_requireKey 10 = .ok (.new 196, 3) := by decide +kernel
theorem dX3_requireKey_13 : decode cX3_requireKey 13 = .ok (.dup, 1) := by decide +kernel
theorem dX3_requireKey_14 : decode cX3_requireKey 14 = .ok (.ldc 206, 2) := by decide +kernel
theorem dX3_requireKey_16 : decode cX3_requireKey 16 = .ok (.invokespecial 200, 3) := by decide +kernel
theorem dX3_requireKey_19 : decode cX3_requireKey 19 = .ok (.athrow, 1) := by decide +kernel
theorem dX3_requireKey_20 : decode cX3_requireKey 20 = .ok (.return_, 1) := by decide +kernel
theorem dX3_requireBatch_0 : decode cX3_requireBatch 0 = .ok (.aload_n 0, 1) := by decide +kernel
theorem dX3_requireBatch_1 : decode cX3_requireBatch 1 = .ok (.getfield 23, 3) := by decide +kernel
theorem dX3_requireBatch_4 : decode cX3_requireBatch 4 = .ok (.getfield 58, 3) := by decide +kernel
theorem dX3_requireBatch_7 : decode cX3_requireBatch 7 = .ok (.ifCond .ne 13, 3) := by decide +kernel
theorem dX3_requireBatch_10 : decode cX3_requireBatch 10 = .ok (.new 62, 3) := by decide +kernel
theorem dX3_requireBatch_13 : decode cX3_requireBatch 13 = .ok (.dup, 1) := by decide +kernel
theorem dX3_requireBatch_14 : decode cX3_requireBatch 14 = .ok (.ldc 208, 2) := by decide +kernel
theorem dX3_requireBatch_16 : decode cX3_requireBatch 16 = .ok (.invokespecial 66, 3) := by decide +kernel
theorem dX3_requireBatch_19 : decode cX3_requireBatch 19 = .ok (.athrow, 1) := by decide +kernel
theorem dX3_requireBatch_20 : decode cX3_requireBatch 20 = .ok (.return_, 1) := by decide +kernel
theorem dX3_requireReader_0 : decode cX3_requireReader 0 = .ok (.aload_n 0, 1) := by decide +kernel
theorem dX3_requireReader_1 : decode cX3_requireReader 1 = .ok (.iload_n 1, 1) := by decide +kernel
theorem dX3_requireReader_2 : decode cX3_requireReader 2 = .ok (.invokevirtual 109, 3) := by decide +kernel
theorem dX3_requireReader_5 : decode cX3_requireReader 5 = .ok (.ifCond .ne 13, 3) := by decide +kernel
theorem dX3_requireReader_8 : decode cX3_requireReader 8 = .ok (.new 148, 3) := by decide +kernel
theorem dX3_requireReader_11 : decode cX3_requireReader 11 = .ok (.dup, 1) := by decide +kernel
theorem dX3_requireReader_12 : decode cX3_requireReader 12 = .ok (.ldc 210, 2) := by decide +kernel
theorem dX3_requireReader_14 : decode cX3_requireReader 14 = .ok (.invokespecial 152, 3) := by decide +kernel
theorem dX3_requireReader_17 : decode cX3_requireReader 17 = .ok (.athrow, 1) := by decide +kernel
theorem dX3_requireReader_18 : decode cX3_requireReader 18 = .ok (.return_, 1) := by decide +kernel
theorem dX3_requirePage_0 : decode cX3_requirePage 0 = .ok (.iload_n 1, 1) := by decide +kernel
theorem dX3_requirePage_1 : decode cX3_requirePage 1 = .ok (.ifCond .lt 14, 3) := by decide +kernel
theorem dX3_requirePage_4 : decode cX3_requirePage 4 = .ok (.aload_n 0, 1) := by decide +kernel
theorem dX3_requirePage_5 : decode cX3_requirePage 5 = .ok (.getfield 12, 3) := by decide +kernel
theorem dX3_requirePage_8 : decode cX3_requirePage 8 = .ok (.iload_n 1, 1) := by decide +kernel
theorem dX3_requirePage_9 : decode cX3_requirePage 9 = .ok (.invokevirtual 153, 3) := by decide +kernel
theorem dX3_requirePage_12 : decode cX3_requirePage 12 = .ok (.ifCond .eq 13, 3) := by decide +kernel
theorem dX3_requirePage_15 : decode cX3_requirePage 15 = .ok (.new 148, 3) := by decide +kernel
theorem dX3_requirePage_18 : decode cX3_requirePage 18 = .ok (.dup, 1) := by decide +kernel
theorem dX3_requirePage_19 : decode cX3_requirePage 19 = .ok (.ldc 212, 2) := by decide +kernel
theorem dX3_requirePage_21 : decode cX3_requirePage 21 = .ok (.invokespecial 152, 3) := by decide +kernel
theorem dX3_requirePage_24 : decode cX3_requirePage 24 = .ok (.athrow, 1) := by decide +kernel
theorem dX3_requirePage_25 : decode cX3_requirePage 25 = .ok (.return_, 1) := by decide +kernel
theorem dX3_requireEntry_0 : decode cX3_requireEntry 0 = .ok (.aload_n 0, 1) := by decide +kernel
theorem dX3_requireEntry_1 : decode cX3_requireEntry 1 = .ok (.iload_n 1, 1) := by decide +kernel
theorem dX3_requireEntry_2 : decode cX3_requireEntry 2 = .ok (.invokevirtual 159, 3) := by decide +kernel
theorem dX3_requireEntry_5 : decode cX3_requireEntry 5 = .ok (.iload_n 2, 1) := by decide +kernel
theorem dX3_requireEntry_6 : decode cX3_requireEntry 6 = .ok (.ifCond .lt 15, 3) := by decide +kernel
theorem dX3_requireEntry_9 : decode cX3_requireEntry 9 = .ok (.iload_n 2, 1) := by decide +kernel
theorem dX3_requireEntry_10 : decode cX3_requireEntry 10 = .ok (.aload_n 0, 1) := by decide +kernel
theorem dX3_requireEntry_11 : decode cX3_requireEntry 11 = .ok (.getfield 12, 3) := by decide +kernel
theorem dX3_requireEntry_14 : decode cX3_requireEntry 14 = .ok (.iload_n 1, 1) := by decide +kernel
theorem dX3_requireEntry_15 : decode cX3_requireEntry 15 = .ok (.invokevirtual 162, 3) := by decide +kernel
theorem dX3_requireEntry_18 : decode cX3_requireEntry 18 = .ok (.if_icmp .lt 13, 3) := by decide +kernel
theorem dX3_requireEntry_21 : decode cX3_requireEntry 21 = .ok (.new 148, 3) := by decide +kernel
theorem dX3_requireEntry_24 : decode cX3_requireEntry 24 = .ok (.dup, 1) := by decide +kernel
theorem dX3_requireEntry_25 : decode cX3_requireEntry 25 = .ok (.ldc 214, 2) := by decide +kernel
theorem dX3_requireEntry_27 : decode cX3_requireEntry 27 = .ok (.invokespecial 152, 3) := by decide +kernel
theorem dX3_requireEntry_30 : decode cX3_requireEntry 30 = .ok (.athrow, 1) := by decide +kernel
theorem dX3_requireEntry_31 : decode cX3_requireEntry 31 = .ok (.return_, 1) := by decide +kernel
theorem dX3_requireSlot_0 : decode cX3_requireSlot 0 = .ok (.iload_n 0, 1) := by decide +kernel
theorem dX3_requireSlot_1 : decode cX3_requireSlot 1 = .ok (.ifCond .lt 8, 3) := by decide +kernel
theorem dX3_requireSlot_4 : decode cX3_requireSlot 4 = .ok (.iload_n 0, 1) := by decide +kernel
theorem dX3_requireSlot_5 : decode cX3_requireSlot 5 = .ok (.iconst 2, 1) := by decide +kernel
theorem dX3_requireSlot_6 : decode cX3_requireSlot 6 = .ok (.if_icmp .lt 13, 3) := by decide +kernel
theorem dX3_requireSlot_9 : decode cX3_requireSlot 9 = .ok (.new 148, 3) := by decide +kernel
theorem dX3_requireSlot_12 : decode cX3_requireSlot 12 = .ok (.dup, 1) := by decide +kernel
theorem dX3_requireSlot_13 : decode cX3_requireSlot 13 = .ok (.ldc 216, 2) := by decide +kernel
theorem dX3_requireSlot_15 : decode cX3_requireSlot 15 = .ok (.invokespecial 152, 3) := by decide +kernel
theorem dX3_requireSlot_18 : decode cX3_requireSlot 18 = .ok (.athrow, 1) := by decide +kernel
theorem dX3_requireSlot_19 : decode cX3_requireSlot 19 = .ok (.return_, 1) := by decide +kernel
theorem dX3_viewed_0 : decode cX3_viewed 0 = .ok (.iload_n 1, 1) := by decide +kernel
theorem dX3_viewed_1 : decode cX3_viewed 1 = .ok (.iconst (-1), 1) := by decide +kernel
theorem dX3_viewed_2 : decode cX3_viewed 2 = .ok (.if_icmp .ne 25, 3) := by decide +kernel
theorem dX3_viewed_5 : decode cX3_viewed 5 = .ok (.aload_n 0, 1) := by decide +kernel
theorem dX3_viewed_6 : decode cX3_viewed 6 = .ok (.getfield 23, 3) := by decide +kernel
theorem dX3_viewed_9 : decode cX3_viewed 9 = .ok (.getfield 58, 3) := by decide +kernel
theorem dX3_viewed_12 : decode cX3_viewed 12 = .ok (.ifCond .eq 10, 3) := by decide +kernel
theorem dX3_viewed_15 : decode cX3_viewed 15 = .ok (.aload_n 0, 1) := by decide +kernel
theorem dX3_viewed_16 : decode cX3_viewed 16 = .ok (.getfield 23, 3) := by decide +kernel
theorem dX3_viewed_19 : decode cX3_viewed 19 = .ok (.goto 7, 3) := by decide +kernel
theorem dX3_viewed_22 : decode cX3_viewed 22 = .ok (.aload_n 0, 1) := by decide +kernel
theorem dX3_viewed_23 : decode cX3_viewed 23 = .ok (.getfield 19, 3) := by decide +kernel
theorem dX3_viewed_26 : decode cX3_viewed 26 = .ok (.areturn, 1) := by decide +kernel
theorem dX3_viewed_27 : decode cX3_viewed 27 = .ok (.aload_n 0, 1) := by decide +kernel
theorem dX3_viewed_28 : decode cX3_viewed 28 = .ok (.iload_n 1, 1) := by decide +kernel
theorem dX3_viewed_29 : decode cX3_viewed 29 = .ok (.invokevirtual 115, 3) := by decide +kernel
theorem dX3_viewed_32 : decode cX3_viewed 32 = .ok (.aload_n 0, 1) := by decide +kernel
theorem dX3_viewed_33 : decode cX3_viewed 33 = .ok (.getfield 35, 3) := by decide +kernel
theorem dX3_viewed_36 : decode cX3_viewed 36 = .ok (.iload_n 1, 1) := by decide +kernel
theorem dX3_viewed_37 : decode cX3_viewed 37 = .ok (.aaload, 1) := by decide +kernel
theorem dX3_viewed_38 : decode cX3_viewed 38 = .ok (.areturn, 1) := by decide +kernel
theorem dX3_valueIn_0 : decode cX3_valueIn 0 = .ok (.aload_n 0, 1) := by decide +kernel
theorem dX3_valueIn_1 : decode cX3_valueIn 1 = .ok (.getfield 12, 3) := by decide +kernel
theorem dX3_valueIn_4 : decode cX3_valueIn 4 = .ok (.aload_n 1, 1) := by decide +kernel
theorem dX3_valueIn_5 : decode cX3_valueIn 5 = .ok (.getfield 51, 3) := by decide +kernel
theorem dX3_valueIn_8 : decode cX3_valueIn 8 = .ok (.iload_n 2, 1) := by decide +kernel
theorem dX3_valueIn_9 : decode cX3_valueIn 9 = .ok (.invokevirtual 218, 3) := by decide +kernel
theorem dX3_valueIn_12 : decode cX3_valueIn 12 = .ok (.istore_n 3, 1) := by decide +kernel
theorem dX3_valueIn_13 : decode cX3_valueIn 13 = .ok (.aload_n 0, 1) := by decide +kernel
theorem dX3_valueIn_14 : decode cX3_valueIn 14 = .ok (.getfield 12, 3) := by decide +kernel
theorem dX3_valueIn_17 : decode cX3_valueIn 17 = .ok (.iload_n 3, 1) := by decide +kernel
theorem dX3_valueIn_18 : decode cX3_valueIn 18 = .ok (.iload_n 2, 1) := by decide +kernel
theorem dX3_valueIn_19 : decode cX3_valueIn 19 = .ok (.invokevirtual 221, 3) := by decide +kernel
theorem dX3_valueIn_22 : decode cX3_valueIn 22 = .ok (.istore 4, 2) := by decide +kernel
theorem dX3_valueIn_24 : decode cX3_valueIn 24 = .ok (.aload_n 0, 1) := by decide +kernel
theorem dX3_valueIn_25 : decode cX3_valueIn 25 = .ok (.getfield 12, 3) := by decide +kernel
theorem dX3_valueIn_28 : decode cX3_valueIn 28 = .ok (.iload_n 3, 1) := by decide +kernel
theorem dX3_valueIn_29 : decode cX3_valueIn 29 = .ok (.iload 4, 2) := by decide +kernel
theorem dX3_valueIn_31 : decode cX3_valueIn 31 = .ok (.iload_n 2, 1) := by decide +kernel
theorem dX3_valueIn_32 : decode cX3_valueIn 32 = .ok (.invokevirtual 224, 3) := by decide +kernel
theorem dX3_valueIn_35 : decode cX3_valueIn 35 = .ok (.ifCond .ne 13, 3) := by decide +kernel
theorem dX3_valueIn_38 : decode cX3_valueIn 38 = .ok (.new 228, 3) := by decide +kernel
theorem dX3_valueIn_41 : decode cX3_valueIn 41 = .ok (.dup, 1) := by decide +kernel
theorem dX3_valueIn_42 : decode cX3_valueIn 42 = .ok (.ldc 230, 2) := by decide +kernel
theorem dX3_valueIn_44 : decode cX3_valueIn 44 = .ok (.invokespecial 232, 3) := by decide +kernel
theorem dX3_valueIn_47 : decode cX3_valueIn 47 = .ok (.athrow, 1) := by decide +kernel
theorem dX3_valueIn_48 : decode cX3_valueIn 48 = .ok (.aload_n 0, 1) := by decide +kernel
theorem dX3_valueIn_49 : decode cX3_valueIn 49 = .ok (.getfield 12, 3) := by decide +kernel
theorem dX3_valueIn_52 : decode cX3_valueIn 52 = .ok (.iload_n 3, 1) := by decide +kernel
theorem dX3_valueIn_53 : decode cX3_valueIn 53 = .ok (.iload 4, 2) := by decide +kernel
theorem dX3_valueIn_55 : decode cX3_valueIn 55 = .ok (.invokevirtual 174, 3) := by decide +kernel
theorem dX3_valueIn_58 : decode cX3_valueIn 58 = .ok (.ireturn, 1) := by decide +kernel
theorem dX3_isOpen_0 : decode cX3_isOpen 0 = .ok (.iload_n 1, 1) := by decide +kernel
theorem dX3_isOpen_1 : decode cX3_isOpen 1 = .ok (.ifCond .lt 24, 3) := by decide +kernel
theorem dX3_isOpen_4 : decode cX3_isOpen 4 = .ok (.iload_n 1, 1) := by decide +kernel
theorem dX3_isOpen_5 : decode cX3_isOpen 5 = .ok (.iconst 4, 1) := by decide +kernel
theorem dX3_isOpen_6 : decode cX3_isOpen 6 = .ok (.if_icmp .ge 19, 3) := by decide +kernel
theorem dX3_isOpen_9 : decode cX3_isOpen 9 = .ok (.aload_n 0, 1) := by decide +kernel
theorem dX3_isOpen_10 : decode cX3_isOpen 10 = .ok (.getfield 35, 3) := by decide +kernel
theorem dX3_isOpen_13 : decode cX3_isOpen 13 = .ok (.iload_n 1, 1) := by decide +kernel
theorem dX3_isOpen_14 : decode cX3_isOpen 14 = .ok (.aaload, 1) := by decide +kernel
theorem dX3_isOpen_15 : decode cX3_isOpen 15 = .ok (.getfield 58, 3) := by decide +kernel
theorem dX3_isOpen_18 : decode cX3_isOpen 18 = .ok (.ifCond .eq 7, 3) := by decide +kernel
theorem dX3_isOpen_21 : decode cX3_isOpen 21 = .ok (.iconst 1, 1) := by decide +kernel
theorem dX3_isOpen_22 : decode cX3_isOpen 22 = .ok (.goto 4, 3) := by decide +kernel
theorem dX3_isOpen_25 : decode cX3_isOpen 25 = .ok (.iconst 0, 1) := by decide +kernel
theorem dX3_isOpen_26 : decode cX3_isOpen 26 = .ok (.ireturn, 1) := by decide +kernel
theorem dX3_endBatch_0 : decode cX3_endBatch 0 = .ok (.aload_n 0, 1) := by decide +kernel
theorem dX3_endBatch_1 : decode cX3_endBatch 1 = .ok (.getfield 23, 3) := by decide +kernel
theorem dX3_endBatch_4 : decode cX3_endBatch 4 = .ok (.iconst 0, 1) := by decide +kernel
theorem dX3_endBatch_5 : decode cX3_endBatch 5 = .ok (.putfield 58, 3) := by decide +kernel
theorem dX3_endBatch_8 : decode cX3_endBatch 8 = .ok (.aload_n 0, 1) := by decide +kernel
theorem dX3_endBatch_9 : decode cX3_endBatch 9 = .ok (.getfield 12, 3) := by decide +kernel
theorem dX3_endBatch_12 : decode cX3_endBatch 12 = .ok (.getfield 233, 3) := by decide +kernel
theorem dX3_endBatch_15 : decode cX3_endBatch 15 = .ok (.invokestatic 141, 3) := by decide +kernel
theorem dX3_endBatch_18 : decode cX3_endBatch 18 = .ok (.aload_n 0, 1) := by decide +kernel
theorem dX3_endBatch_19 : decode cX3_endBatch 19 = .ok (.aload_n 0, 1) := by decide +kernel
theorem dX3_endBatch_20 : decode cX3_endBatch 20 = .ok (.getfield 12, 3) := by decide +kernel
theorem dX3_endBatch_23 : decode cX3_endBatch 23 = .ok (.getfield 47, 3) := by decide +kernel
theorem dX3_endBatch_26 : decode cX3_endBatch 26 = .ok (.iconst (-1), 1) := by decide +kernel
theorem dX3_endBatch_27 : decode cX3_endBatch 27 = .ok (.invokevirtual 118, 3) := by decide +kernel
theorem dX3_endBatch_30 : decode cX3_endBatch 30 = .ok (.return_, 1) := by decide +kernel
theorem dX3_keepStates_0 : decode cX3_keepStates 0 = .ok (.aload_n 1, 1) := by decide +kernel
theorem dX3_keepStates_1 : decode cX3_keepStates 1 = .ok (.invokestatic 141, 3) := by decide +kernel
theorem dX3_keepStates_4 : decode cX3_keepStates 4 = .ok (.aload_n 0, 1) := by decide +kernel
theorem dX3_keepStates_5 : decode cX3_keepStates 5 = .ok (.getfield 12, 3) := by decide +kernel
theorem dX3_keepStates_8 : decode cX3_keepStates 8 = .ok (.aload_n 1, 1) := by decide +kernel
theorem dX3_keepStates_9 : decode cX3_keepStates 9 = .ok (.aload_n 0, 1) := by decide +kernel
theorem dX3_keepStates_10 : decode cX3_keepStates 10 = .ok (.getfield 19, 3) := by decide +kernel
theorem dX3_keepStates_13 : decode cX3_keepStates 13 = .ok (.getfield 51, 3) := by decide +kernel
theorem dX3_keepStates_16 : decode cX3_keepStates 16 = .ok (.invokevirtual 54, 3) := by decide +kernel
theorem dX3_keepStates_19 : decode cX3_keepStates 19 = .ok (.iconst 0, 1) := by decide +kernel
theorem dX3_keepStates_20 : decode cX3_keepStates 20 = .ok (.istore_n 3, 1) := by decide +kernel
theorem dX3_keepStates_21 : decode cX3_keepStates 21 = .ok (.iload_n 3, 1) := by decide +kernel
theorem dX3_keepStates_22 : decode cX3_keepStates 22 = .ok (.iconst 2, 1) := by decide +kernel
theorem dX3_keepStates_23 : decode cX3_keepStates 23 = .ok (.if_icmp .ge 32, 3) := by decide +kernel
theorem dX3_keepStates_26 : decode cX3_keepStates 26 = .ok (.aload_n 0, 1) := by decide +kernel
theorem dX3_keepStates_27 : decode cX3_keepStates 27 = .ok (.iload_n 3, 1) := by decide +kernel
theorem dX3_keepStates_28 : decode cX3_keepStates 28 = .ok (.invokevirtual 186, 3) := by decide +kernel
theorem dX3_keepStates_31 : decode cX3_keepStates 31 = .ok (.ifCond .eq 18, 3) := by decide +kernel
theorem dX3_keepStates_34 : decode cX3_keepStates 34 = .ok (.aload_n 0, 1) := by decide +kernel
theorem dX3_keepStates_35 : decode cX3_keepStates 35 = .ok (.getfield 12, 3) := by decide +kernel
theorem dX3_keepStates_38 : decode cX3_keepStates 38 = .ok (.aload_n 1, 1) := by decide +kernel
theorem dX3_keepStates_39 : decode cX3_keepStates 39 = .ok (.aload_n 0, 1) := by decide +kernel
theorem dX3_keepStates_40 : decode cX3_keepStates 40 = .ok (.iload_n 3, 1) := by decide +kernel
theorem dX3_keepStates_41 : decode cX3_keepStates 41 = .ok (.iconst 1, 1) := by decide +kernel
theorem dX3_keepStates_42 : decode cX3_keepStates 42 = .ok (.invokevirtual 182, 3) := by decide +kernel
theorem dX3_keepStates_45 : decode cX3_keepStates 45 = .ok (.l2i, 1) := by decide +kernel
theorem dX3_keepStates_46 : decode cX3_keepStates 46 = .ok (.invokevirtual 54, 3) := by decide +kernel
theorem dX3_keepStates_49 : decode cX3_keepStates 49 = .ok (.iinc 3 1, 3) := by decide +kernel
theorem dX3_keepStates_52 : decode cX3_keepStates 52 = .ok (.goto (-31), 3) := by decide +kernel
theorem dX3_keepStates_55 : decode cX3_keepStates 55 = .ok (.iconst 0, 1) := by decide +kernel
theorem dX3_keepStates_56 : decode cX3_keepStates 56 = .ok (.istore_n 3, 1) := by decide +kernel
theorem dX3_keepStates_57 : decode cX3_keepStates 57 = .ok (.iload_n 3, 1) := by decide +kernel
theorem dX3_keepStates_58 : decode cX3_keepStates 58 = .ok (.iconst 4, 1) := by decide +kernel
theorem dX3_keepStates_59 : decode cX3_keepStates 59 = .ok (.if_icmp .ge 39, 3) := by decide +kernel
theorem dX3_keepStates_62 : decode cX3_keepStates 62 = .ok (.aload_n 0, 1) := by decide +kernel
theorem dX3_keepStates_63 : decode cX3_keepStates 63 = .ok (.iload_n 3, 1) := by decide +kernel
theorem dX3_keepStates_64 : decode cX3_keepStates 64 = .ok (.invokevirtual 109, 3) := by decide +kernel
theorem dX3_keepStates_67 : decode cX3_keepStates 67 = .ok (.ifCond .eq 25, 3) := by decide +kernel
theorem dX3_keepStates_70 : decode cX3_keepStates 70 = .ok (.iload_n 3, 1) := by decide +kernel
theorem dX3_keepStates_71 : decode cX3_keepStates 71 = .ok (.iload_n 2, 1) := by decide +kernel
theorem dX3_keepStates_72 : decode cX3_keepStates 72 = .ok (.if_icmp .eq 20, 3) := by decide +kernel
theorem dX3_keepStates_75 : decode cX3_keepStates 75 = .ok (.aload_n 0, 1) := by decide +kernel
theorem dX3_keepStates_76 : decode cX3_keepStates 76 = .ok (.getfield 12, 3) := by decide +kernel
theorem dX3_keepStates_79 : decode cX3_keepStates 79 = .ok (.aload_n 1, 1) := by decide +kernel
theorem dX3_keepStates_80 : decode cX3_keepStates 80 = .ok (.aload_n 0, 1) := by decide +kernel
theorem dX3_keepStates_81 : decode cX3_keepStates 81 = .ok (.getfield 35, 3) := by decide +kernel
theorem dX3_keepStates_84 : decode cX3_keepStates 84 = .ok (.iload_n 3, 1) := by decide +kernel
theorem dX3_keepStates_85 : decode cX3_keepStates 85 = .ok (.aaload, 1) := by decide +kernel
theorem dX3_keepStates_86 : decode cX3_keepStates 86 = .ok (.getfield 51, 3) := by decide +kernel
theorem dX3_keepStates_89 : decode cX3_keepStates 89 = .ok (.invokevirtual 54, 3) := by decide +kernel
theorem dX3_keepStates_92 : decode cX3_keepStates 92 = .ok (.iinc 3 1, 3) := by decide +kernel
theorem dX3_keepStates_95 : decode cX3_keepStates 95 = .ok (.goto (-38), 3) := by decide +kernel
theorem dX3_keepStates_98 : decode cX3_keepStates 98 = .ok (.return_, 1) := by decide +kernel
theorem dX3_otherSlot_0 : decode cX3_otherSlot 0 = .ok (.iload_n 0, 1) := by decide +kernel
theorem dX3_otherSlot_1 : decode cX3_otherSlot 1 = .ok (.ifCond .ne 7, 3) := by decide +kernel
theorem dX3_otherSlot_4 : decode cX3_otherSlot 4 = .ok (.iconst 1, 1) := by decide +kernel
theorem dX3_otherSlot_5 : decode cX3_otherSlot 5 = .ok (.goto 4, 3) := by decide +kernel
theorem dX3_otherSlot_8 : decode cX3_otherSlot 8 = .ok (.iconst 0, 1) := by decide +kernel
theorem dX3_otherSlot_9 : decode cX3_otherSlot 9 = .ok (.ireturn, 1) := by decide +kernel
theorem dX3_wordIn_0 : decode cX3_wordIn 0 = .ok (.iload_n 1, 1) := by decide +kernel
theorem dX3_wordIn_1 : decode cX3_wordIn 1 = .ok (.iconst 4, 1) := by decide +kernel
theorem dX3_wordIn_2 : decode cX3_wordIn 2 = .ok (.imul, 1) := by decide +kernel
theorem dX3_wordIn_3 : decode cX3_wordIn 3 = .ok (.iload_n 2, 1) := by decide +kernel
theorem dX3_wordIn_4 : decode cX3_wordIn 4 = .ok (.iadd, 1) := by decide +kernel
theorem dX3_wordIn_5 : decode cX3_wordIn 5 = .ok (.istore_n 3, 1) := by decide +kernel
theorem dX3_wordIn_6 : decode cX3_wordIn 6 = .ok (.iload_n 3, 1) := by decide +kernel
theorem dX3_wordIn_7 : decode cX3_wordIn 7 = .ok (.ifCond .lt 18, 3) := by decide +kernel
theorem dX3_wordIn_10 : decode cX3_wordIn 10 = .ok (.iload_n 3, 1) := by decide +kernel
theorem dX3_wordIn_11 : decode cX3_wordIn 11 = .ok (.bipush 8, 2) := by decide +kernel
theorem dX3_wordIn_13 : decode cX3_wordIn 13 = .ok (.if_icmp .ge 12, 3) := by decide +kernel
theorem dX3_wordIn_16 : decode cX3_wordIn 16 = .ok (.aload_n 0, 1) := by decide +kernel
theorem dX3_wordIn_17 : decode cX3_wordIn 17 = .ok (.getfield 39, 3) := by decide +kernel
theorem dX3_wordIn_20 : decode cX3_wordIn 20 = .ok (.iload_n 3, 1) := by decide +kernel
theorem dX3_wordIn_21 : decode cX3_wordIn 21 = .ok (.laload, 1) := by decide +kernel
theorem dX3_wordIn_22 : decode cX3_wordIn 22 = .ok (.goto 4, 3) := by decide +kernel
theorem dX3_wordIn_25 : decode cX3_wordIn 25 = .ok (.lconst 0, 1) := by decide +kernel
theorem dX3_wordIn_26 : decode cX3_wordIn 26 = .ok (.lreturn, 1) := by decide +kernel
theorem dX3_sumsUp_0 : decode cX3_sumsUp 0 = .ok (.aload_n 0, 1) := by decide +kernel
theorem dX3_sumsUp_1 : decode cX3_sumsUp 1 = .ok (.iload_n 1, 1) := by decide +kernel
theorem dX3_sumsUp_2 : decode cX3_sumsUp 2 = .ok (.iconst 0, 1) := by decide +kernel
theorem dX3_sumsUp_3 : decode cX3_sumsUp 3 = .ok (.invokevirtual 182, 3) := by decide +kernel
theorem dX3_sumsUp_6 : decode cX3_sumsUp 6 = .ok (.aload_n 0, 1) := by decide +kernel
theorem dX3_sumsUp_7 : decode cX3_sumsUp 7 = .ok (.iload_n 1, 1) := by decide +kernel
theorem dX3_sumsUp_8 : decode cX3_sumsUp 8 = .ok (.iconst 1, 1) := by decide +kernel
theorem dX3_sumsUp_9 : decode cX3_sumsUp 9 = .ok (.invokevirtual 182, 3) := by decide +kernel
theorem dX3_sumsUp_12 : decode cX3_sumsUp 12 = .ok (.aload_n 0, 1) := by decide +kernel
theorem dX3_sumsUp_13 : decode cX3_sumsUp 13 = .ok (.iload_n 1, 1) := by decide +kernel
theorem dX3_sumsUp_14 : decode cX3_sumsUp 14 = .ok (.iconst 2, 1) := by decide +kernel
theorem dX3_sumsUp_15 : decode cX3_sumsUp 15 = .ok (.invokevirtual 182, 3) := by decide +kernel
theorem dX3_sumsUp_18 : decode cX3_sumsUp 18 = .ok (.invokestatic 236, 3) := by decide +kernel
theorem dX3_sumsUp_21 : decode cX3_sumsUp 21 = .ok (.lstore_n 2, 1) := by decide +kernel
theorem dX3_sumsUp_22 : decode cX3_sumsUp 22 = .ok (.aload_n 0, 1) := by decide +kernel
theorem dX3_sumsUp_23 : decode cX3_sumsUp 23 = .ok (.iload_n 1, 1) := by decide +kernel
theorem dX3_sumsUp_24 : decode cX3_sumsUp 24 = .ok (.iconst 3, 1) := by decide +kernel
theorem dX3_sumsUp_25 : decode cX3_sumsUp 25 = .ok (.invokevirtual 182, 3) := by decide +kernel
theorem dX3_sumsUp_28 : decode cX3_sumsUp 28 = .ok (.lload_n 2, 1) := by decide +kernel
theorem dX3_sumsUp_29 : decode cX3_sumsUp 29 = .ok (.lcmp, 1) := by decide +kernel
theorem dX3_sumsUp_30 : decode cX3_sumsUp 30 = .ok (.ifCond .ne 7, 3) := by decide +kernel
theorem dX3_sumsUp_33 : decode cX3_sumsUp 33 = .ok (.iconst 1, 1) := by decide +kernel
theorem dX3_sumsUp_34 : decode cX3_sumsUp 34 = .ok (.goto 4, 3) := by decide +kernel
theorem dX3_sumsUp_37 : decode cX3_sumsUp 37 = .ok (.iconst 0, 1) := by decide +kernel
theorem dX3_sumsUp_38 : decode cX3_sumsUp 38 = .ok (.ireturn, 1) := by decide +kernel
theorem dX3_sumOf_0 : decode cX3_sumOf 0 = .ok (.ldc2_w 240, 3) := by decide +kernel
theorem dX3_sumOf_3 : decode cX3_sumOf 3 = .ok (.lload_n 0, 1) := by decide +kernel
theorem dX3_sumOf_4 : decode cX3_sumOf 4 = .ok (.lmul, 1) := by decide +kernel
theorem dX3_sumOf_5 : decode cX3_sumOf 5 = .ok (.ldc2_w 242, 3) := by decide +kernel
theorem dX3_sumOf_8 : decode cX3_sumOf 8 = .ok (.lload_n 2, 1) := by decide +kernel
theorem dX3_sumOf_9 : decode cX3_sumOf 9 = .ok (.lmul, 1) := by decide +kernel
theorem dX3_sumOf_10 : decode cX3_sumOf 10 = .ok (.ladd, 1) := by decide +kernel
theorem dX3_sumOf_11 : decode cX3_sumOf 11 = .ok (.lload 4, 2) := by decide +kernel
theorem dX3_sumOf_13 : decode cX3_sumOf 13 = .ok (.ladd, 1) := by decide +kernel
theorem dX3_sumOf_14 : decode cX3_sumOf 14 = .ok (.lreturn, 1) := by decide +kernel
theorem dX3_writeSlot_0 : decode cX3_writeSlot 0 = .ok (.iconst 0, 1) := by decide +kernel
theorem dX3_writeSlot_1 : decode cX3_writeSlot 1 = .ok (.istore_n 3, 1) := by decide +kernel
theorem dX3_writeSlot_2 : decode cX3_writeSlot 2 = .ok (.iload_n 3, 1) := by decide +kernel
theorem dX3_writeSlot_3 : decode cX3_writeSlot 3 = .ok (.iconst 4, 1) := by decide +kernel
theorem dX3_writeSlot_4 : decode cX3_writeSlot 4 = .ok (.if_icmp .ge 45, 3) := by decide +kernel
theorem dX3_writeSlot_7 : decode cX3_writeSlot 7 = .ok (.iload_n 3, 1) := by decide +kernel
theorem dX3_writeSlot_8 : decode cX3_writeSlot 8 = .ok (.iload_n 2, 1) := by decide +kernel
theorem dX3_writeSlot_9 : decode cX3_writeSlot 9 = .ok (.if_icmp .ge 40, 3) := by decide +kernel
theorem dX3_writeSlot_12 : decode cX3_writeSlot 12 = .ok (.iload_n 1, 1) := by decide +kernel
theorem dX3_writeSlot_13 : decode cX3_writeSlot 13 = .ok (.iconst 4, 1) := by decide +kernel
theorem dX3_writeSlot_14 : decode cX3_writeSlot 14 = .ok (.imul, 1) := by decide +kernel
theorem dX3_writeSlot_15 : decode cX3_writeSlot 15 = .ok (.iload_n 3, 1) := by decide +kernel
theorem dX3_writeSlot_16 : decode cX3_writeSlot 16 = .ok (.iadd, 1) := by decide +kernel
theorem dX3_writeSlot_17 : decode cX3_writeSlot 17 = .ok (.istore 4, 2) := by decide +kernel
theorem dX3_writeSlot_19 : decode cX3_writeSlot 19 = .ok (.iload 4, 2) := by decide +kernel
theorem dX3_writeSlot_21 : decode cX3_writeSlot 21 = .ok (.ifCond .lt 22, 3) := by decide +kernel
theorem dX3_writeSlot_24 : decode cX3_writeSlot 24 = .ok (.iload 4, 2) := by decide +kernel
theorem dX3_writeSlot_26 : decode cX3_writeSlot 26 = .ok (.bipush 8, 2) := by decide +kernel
theorem dX3_writeSlot_28 : decode cX3_writeSlot 28 = .ok (.if_icmp .ge 15, 3) := by decide +kernel
theorem dX3_writeSlot_31 : decode cX3_writeSlot 31 = .ok (.aload_n 0, 1) := by decide +kernel
theorem dX3_writeSlot_32 : decode cX3_writeSlot 32 = .ok (.getfield 39, 3) := by decide +kernel
theorem dX3_writeSlot_35 : decode cX3_writeSlot 35 = .ok (.iload 4, 2) := by decide +kernel
theorem dX3_writeSlot_37 : decode cX3_writeSlot 37 = .ok (.aload_n 0, 1) := by decide +kernel
theorem dX3_writeSlot_38 : decode cX3_writeSlot 38 = .ok (.iload_n 3, 1) := by decide +kernel
theorem dX3_writeSlot_39 : decode cX3_writeSlot 39 = .ok (.invokevirtual 244, 3) := by decide +kernel
theorem dX3_writeSlot_42 : decode cX3_writeSlot 42 = .ok (.lastore, 1) := by decide +kernel
theorem dX3_writeSlot_43 : decode cX3_writeSlot 43 = .ok (.iinc 3 1, 3) := by decide +kernel
theorem dX3_writeSlot_46 : decode cX3_writeSlot 46 = .ok (.goto (-44), 3) := by decide +kernel
theorem dX3_writeSlot_49 : decode cX3_writeSlot 49 = .ok (.return_, 1) := by decide +kernel
theorem dX3_wordOfBatch_0 : decode cX3_wordOfBatch 0 = .ok (.iload_n 1, 1) := by decide +kernel
theorem dX3_wordOfBatch_1 : decode cX3_wordOfBatch 1 = .ok (.tableswitch 54 0 2 #[27, 36, 45], 27) := by decide +kernel
theorem dX3_wordOfBatch_28 : decode cX3_wordOfBatch 28 = .ok (.aload_n 0, 1) := by decide +kernel
theorem dX3_wordOfBatch_29 : decode cX3_wordOfBatch 29 = .ok (.getfield 23, 3) := by decide +kernel
theorem dX3_wordOfBatch_32 : decode cX3_wordOfBatch 32 = .ok (.getfield 73, 3) := by decide +kernel
theorem dX3_wordOfBatch_35 : decode cX3_wordOfBatch 35 = .ok (.i2l, 1) := by decide +kernel
theorem dX3_wordOfBatch_36 : decode cX3_wordOfBatch 36 = .ok (.lreturn, 1) := by decide +kernel
theorem dX3_wordOfBatch_37 : decode cX3_wordOfBatch 37 = .ok (.aload_n 0, 1) := by decide +kernel
theorem dX3_wordOfBatch_38 : decode cX3_wordOfBatch 38 = .ok (.getfield 23, 3) := by decide +kernel
theorem dX3_wordOfBatch_41 : decode cX3_wordOfBatch 41 = .ok (.getfield 51, 3) := by decide +kernel
theorem dX3_wordOfBatch_44 : decode cX3_wordOfBatch 44 = .ok (.i2l, 1) := by decide +kernel
theorem dX3_wordOfBatch_45 : decode cX3_wordOfBatch 45 = .ok (.lreturn, 1) := by decide +kernel
theorem dX3_wordOfBatch_46 : decode cX3_wordOfBatch 46 = .ok (.aload_n 0, 1) := by decide +kernel
theorem dX3_wordOfBatch_47 : decode cX3_wordOfBatch 47 = .ok (.getfield 23, 3) := by decide +kernel
theorem dX3_wordOfBatch_50 : decode cX3_wordOfBatch 50 = .ok (.getfield 135, 3) := by decide +kernel
theorem dX3_wordOfBatch_53 : decode cX3_wordOfBatch 53 = .ok (.i2l, 1) := by decide +kernel
theorem dX3_wordOfBatch_54 : decode cX3_wordOfBatch 54 = .ok (.lreturn, 1) := by decide +kernel
theorem dX3_wordOfBatch_55 : decode cX3_wordOfBatch 55 = .ok (.aload_n 0, 1) := by decide +kernel
theorem dX3_wordOfBatch_56 : decode cX3_wordOfBatch 56 = .ok (.getfield 23, 3) := by decide +kernel
theorem dX3_wordOfBatch_59 : decode cX3_wordOfBatch 59 = .ok (.getfield 73, 3) := by decide +kernel
theorem dX3_wordOfBatch_62 : decode cX3_wordOfBatch 62 = .ok (.i2l, 1) := by decide +kernel
theorem dX3_wordOfBatch_63 : decode cX3_wordOfBatch 63 = .ok (.aload_n 0, 1) := by decide +kernel
theorem dX3_wordOfBatch_64 : decode cX3_wordOfBatch 64 = .ok (.getfield 23, 3) := by decide +kernel
theorem dX3_wordOfBatch_67 : decode cX3_wordOfBatch 67 = .ok (.getfield 51, 3) := by decide +kernel
theorem dX3_wordOfBatch_70 : decode cX3_wordOfBatch 70 = .ok (.i2l, 1) := by decide +kernel
theorem dX3_wordOfBatch_71 : decode cX3_wordOfBatch 71 = .ok (.aload_n 0, 1) := by decide +kernel
theorem dX3_wordOfBatch_72 : decode cX3_wordOfBatch 72 = .ok (.getfield 23, 3) := by decide +kernel
theorem dX3_wordOfBatch_75 : decode cX3_wordOfBatch 75 = .ok (.getfield 135, 3) := by decide +kernel
theorem dX3_wordOfBatch_78 : decode cX3_wordOfBatch 78 = .ok (.i2l, 1) := by decide +kernel
theorem dX3_wordOfBatch_79 : decode cX3_wordOfBatch 79 = .ok (.invokestatic 236, 3) := by decide +kernel
theorem dX3_wordOfBatch_82 : decode cX3_wordOfBatch 82 = .ok (.lreturn, 1) := by decide +kernel
theorem dX3_latestWholeSlot_0 : decode cX3_latestWholeSlot 0 = .ok (.aload_n 0, 1) := by decide +kernel
theorem dX3_latestWholeSlot_1 : decode cX3_latestWholeSlot 1 = .ok (.iconst 0, 1) := by decide +kernel
theorem dX3_latestWholeSlot_2 : decode cX3_latestWholeSlot 2 = .ok (.invokevirtual 186, 3) := by decide +kernel
theorem dX3_latestWholeSlot_5 : decode cX3_latestWholeSlot 5 = .ok (.ifCond .ne 5, 3) := by decide +kernel
theorem dX3_latestWholeSlot_8 : decode cX3_latestWholeSlot 8 = .ok (.iconst 1, 1) := by decide +kernel
theorem dX3_latestWholeSlot_9 : decode cX3_latestWholeSlot 9 = .ok (.ireturn, 1) := by decide +kernel
theorem dX3_latestWholeSlot_10 : decode cX3_latestWholeSlot 10 = .ok (.aload_n 0, 1) := by decide +kernel
theorem dX3_latestWholeSlot_11 : decode cX3_latestWholeSlot 11 = .ok (.iconst 1, 1) := by decide +kernel
theorem dX3_latestWholeSlot_12 : decode cX3_latestWholeSlot 12 = .ok (.invokevirtual 186, 3) := by decide +kernel
theorem dX3_latestWholeSlot_15 : decode cX3_latestWholeSlot 15 = .ok (.ifCond .eq 23, 3) := by decide +kernel
theorem dX3_latestWholeSlot_18 : decode cX3_latestWholeSlot 18 = .ok (.aload_n 0, 1) := by decide +kernel
theorem dX3_latestWholeSlot_19 : decode cX3_latestWholeSlot 19 = .ok (.iconst 1, 1) := by decide +kernel
theorem dX3_latestWholeSlot_20 : decode cX3_latestWholeSlot 20 = .ok (.iconst 0, 1) := by decide +kernel
theorem dX3_latestWholeSlot_21 : decode cX3_latestWholeSlot 21 = .ok (.invokevirtual 182, 3) := by decide +kernel
theorem dX3_latestWholeSlot_24 : decode cX3_latestWholeSlot 24 = .ok (.aload_n 0, 1) := by decide +kernel
theorem dX3_latestWholeSlot_25 : decode cX3_latestWholeSlot 25 = .ok (.iconst 0, 1) := by decide +kernel
theorem dX3_latestWholeSlot_26 : decode cX3_latestWholeSlot 26 = .ok (.iconst 0, 1) := by decide +kernel
theorem dX3_latestWholeSlot_27 : decode cX3_latestWholeSlot 27 = .ok (.invokevirtual 182, 3) := by decide +kernel
theorem dX3_latestWholeSlot_30 : decode cX3_latestWholeSlot 30 = .ok (.lcmp, 1) := by decide +kernel
theorem dX3_latestWholeSlot_31 : decode cX3_latestWholeSlot 31 = .ok (.ifCond .le 7, 3) := by decide +kernel
theorem dX3_latestWholeSlot_34 : decode cX3_latestWholeSlot 34 = .ok (.iconst 1, 1) := by decide +kernel
theorem dX3_latestWholeSlot_35 : decode cX3_latestWholeSlot 35 = .ok (.goto 4, 3) := by decide +kernel
theorem dX3_latestWholeSlot_38 : decode cX3_latestWholeSlot 38 = .ok (.iconst 0, 1) := by decide +kernel
theorem dX3_latestWholeSlot_39 : decode cX3_latestWholeSlot 39 = .ok (.ireturn, 1) := by decide +kernel
