/-! decode rows, out of claim/NAMES.whole.lean.txt -/
theorem dL_at_0 : decode cL_at 0 = .ok (.iload_n 1, 1) := by decide +kernel
theorem dL_at_1 : decode cL_at 1 = .ok (.aload_n 0, 1) := by decide +kernel
theorem dL_at_2 : decode cL_at 2 = .ok (.arraylength, 1) := by decide +kernel
theorem dL_at_3 : decode cL_at 3 = .ok (.if_icmp .ge 9, 3) := by decide +kernel
theorem dL_at_6 : decode cL_at 6 = .ok (.aload_n 0, 1) := by decide +kernel
theorem dL_at_7 : decode cL_at 7 = .ok (.iload_n 1, 1) := by decide +kernel
theorem dL_at_8 : decode cL_at 8 = .ok (.iaload, 1) := by decide +kernel
theorem dL_at_9 : decode cL_at 9 = .ok (.goto 12, 3) := by decide +kernel
theorem dL_at_12 : decode cL_at 12 = .ok (.ldc 7, 2) := by decide +kernel
theorem dL_at_14 : decode cL_at 14 = .ok (.iload_n 1, 1) := by decide +kernel
theorem dL_at_15 : decode cL_at 15 = .ok (.iconst 1, 1) := by decide +kernel
theorem dL_at_16 : decode cL_at 16 = .ok (.iadd, 1) := by decide +kernel
theorem dL_at_17 : decode cL_at 17 = .ok (.imul, 1) := by decide +kernel
theorem dL_at_18 : decode cL_at 18 = .ok (.ldc 8, 2) := by decide +kernel
theorem dL_at_20 : decode cL_at 20 = .ok (.iadd, 1) := by decide +kernel
theorem dL_at_21 : decode cL_at 21 = .ok (.ireturn, 1) := by decide +kernel
theorem dL_low_0 : decode cL_low 0 = .ok (.iload_n 0, 1) := by decide +kernel
theorem dL_low_1 : decode cL_low 1 = .ok (.ldc 9, 2) := by decide +kernel
theorem dL_low_3 : decode cL_low 3 = .ok (.iand, 1) := by decide +kernel
theorem dL_low_4 : decode cL_low 4 = .ok (.iload_n 1, 1) := by decide +kernel
theorem dL_low_5 : decode cL_low 5 = .ok (.irem, 1) := by decide +kernel
theorem dL_low_6 : decode cL_low 6 = .ok (.ireturn, 1) := by decide +kernel
theorem dL_key_0 : decode cL_key 0 = .ok (.iconst 3, 1) := by decide +kernel
theorem dL_key_1 : decode cL_key 1 = .ok (.iload_n 0, 1) := by decide +kernel
theorem dL_key_2 : decode cL_key 2 = .ok (.imul, 1) := by decide +kernel
theorem dL_key_3 : decode cL_key 3 = .ok (.bipush 6, 2) := by decide +kernel
theorem dL_key_5 : decode cL_key 5 = .ok (.iadd, 1) := by decide +kernel
theorem dL_key_6 : decode cL_key 6 = .ok (.ireturn, 1) := by decide +kernel
theorem dL_turn_0 : decode cL_turn 0 = .ok (.aload_n 0, 1) := by decide +kernel
theorem dL_turn_1 : decode cL_turn 1 = .ok (.iconst 3, 1) := by decide +kernel
theorem dL_turn_2 : decode cL_turn 2 = .ok (.iload_n 1, 1) := by decide +kernel
theorem dL_turn_3 : decode cL_turn 3 = .ok (.imul, 1) := by decide +kernel
theorem dL_turn_4 : decode cL_turn 4 = .ok (.iload_n 2, 1) := by decide +kernel
theorem dL_turn_5 : decode cL_turn 5 = .ok (.bipush 12, 2) := by decide +kernel
theorem dL_turn_7 : decode cL_turn 7 = .ok (.idiv, 1) := by decide +kernel
theorem dL_turn_8 : decode cL_turn 8 = .ok (.iadd, 1) := by decide +kernel
theorem dL_turn_9 : decode cL_turn 9 = .ok (.laload, 1) := by decide +kernel
theorem dL_turn_10 : decode cL_turn 10 = .ok (.iconst 5, 1) := by decide +kernel
theorem dL_turn_11 : decode cL_turn 11 = .ok (.iload_n 2, 1) := by decide +kernel
theorem dL_turn_12 : decode cL_turn 12 = .ok (.bipush 12, 2) := by decide +kernel
theorem dL_turn_14 : decode cL_turn 14 = .ok (.irem, 1) := by decide +kernel
theorem dL_turn_15 : decode cL_turn 15 = .ok (.imul, 1) := by decide +kernel
theorem dL_turn_16 : decode cL_turn 16 = .ok (.lshr, 1) := by decide +kernel
theorem dL_turn_17 : decode cL_turn 17 = .ok (.l2i, 1) := by decide +kernel
theorem dL_turn_18 : decode cL_turn 18 = .ok (.bipush 31, 2) := by decide +kernel
theorem dL_turn_20 : decode cL_turn 20 = .ok (.iand, 1) := by decide +kernel
theorem dL_turn_21 : decode cL_turn 21 = .ok (.ireturn, 1) := by decide +kernel
theorem dL_sets_0 : decode cL_sets 0 = .ok (.iconst 3, 1) := by decide +kernel
theorem dL_sets_1 : decode cL_sets 1 = .ok (.iload_n 1, 1) := by decide +kernel
theorem dL_sets_2 : decode cL_sets 2 = .ok (.imul, 1) := by decide +kernel
theorem dL_sets_3 : decode cL_sets 3 = .ok (.iload_n 2, 1) := by decide +kernel
theorem dL_sets_4 : decode cL_sets 4 = .ok (.bipush 12, 2) := by decide +kernel
theorem dL_sets_6 : decode cL_sets 6 = .ok (.idiv, 1) := by decide +kernel
theorem dL_sets_7 : decode cL_sets 7 = .ok (.iadd, 1) := by decide +kernel
theorem dL_sets_8 : decode cL_sets 8 = .ok (.istore 4, 2) := by decide +kernel
theorem dL_sets_10 : decode cL_sets 10 = .ok (.aload_n 0, 1) := by decide +kernel
theorem dL_sets_11 : decode cL_sets 11 = .ok (.iload 4, 2) := by decide +kernel
theorem dL_sets_13 : decode cL_sets 13 = .ok (.aload_n 0, 1) := by decide +kernel
theorem dL_sets_14 : decode cL_sets 14 = .ok (.iload 4, 2) := by decide +kernel
theorem dL_sets_16 : decode cL_sets 16 = .ok (.laload, 1) := by decide +kernel
theorem dL_sets_17 : decode cL_sets 17 = .ok (.ldc2_w 10, 3) := by decide +kernel
theorem dL_sets_20 : decode cL_sets 20 = .ok (.iconst 5, 1) := by decide +kernel
theorem dL_sets_21 : decode cL_sets 21 = .ok (.iload_n 2, 1) := by decide +kernel
theorem dL_sets_22 : decode cL_sets 22 = .ok (.bipush 12, 2) := by decide +kernel
theorem dL_sets_24 : decode cL_sets 24 = .ok (.irem, 1) := by decide +kernel
theorem dL_sets_25 : decode cL_sets 25 = .ok (.imul, 1) := by decide +kernel
theorem dL_sets_26 : decode cL_sets 26 = .ok (.lshl, 1) := by decide +kernel
theorem dL_sets_27 : decode cL_sets 27 = .ok (.ldc2_w 12, 3) := by decide +kernel
theorem dL_sets_30 : decode cL_sets 30 = .ok (.lxor, 1) := by decide +kernel
theorem dL_sets_31 : decode cL_sets 31 = .ok (.land, 1) := by decide +kernel
theorem dL_sets_32 : decode cL_sets 32 = .ok (.iload_n 3, 1) := by decide +kernel
theorem dL_sets_33 : decode cL_sets 33 = .ok (.i2l, 1) := by decide +kernel
theorem dL_sets_34 : decode cL_sets 34 = .ok (.iconst 5, 1) := by decide +kernel
theorem dL_sets_35 : decode cL_sets 35 = .ok (.iload_n 2, 1) := by decide +kernel
theorem dL_sets_36 : decode cL_sets 36 = .ok (.bipush 12, 2) := by decide +kernel
theorem dL_sets_38 : decode cL_sets 38 = .ok (.irem, 1) := by decide +kernel
theorem dL_sets_39 : decode cL_sets 39 = .ok (.imul, 1) := by decide +kernel
theorem dL_sets_40 : decode cL_sets 40 = .ok (.lshl, 1) := by decide +kernel
theorem dL_sets_41 : decode cL_sets 41 = .ok (.lor, 1) := by decide +kernel
theorem dL_sets_42 : decode cL_sets 42 = .ok (.lastore, 1) := by decide +kernel
theorem dL_sets_43 : decode cL_sets 43 = .ok (.return_, 1) := by decide +kernel
theorem dL_value_0 : decode cL_value 0 = .ok (.iload_n 0, 1) := by decide +kernel
theorem dL_value_1 : decode cL_value 1 = .ok (.ldc 14, 2) := by decide +kernel
theorem dL_value_3 : decode cL_value 3 = .ok (.imul, 1) := by decide +kernel
theorem dL_value_4 : decode cL_value 4 = .ok (.iload_n 1, 1) := by decide +kernel
theorem dL_value_5 : decode cL_value 5 = .ok (.bipush 77, 2) := by decide +kernel
theorem dL_value_7 : decode cL_value 7 = .ok (.imul, 1) := by decide +kernel
theorem dL_value_8 : decode cL_value 8 = .ok (.iadd, 1) := by decide +kernel
theorem dL_value_9 : decode cL_value 9 = .ok (.ireturn, 1) := by decide +kernel
theorem dL_begin_0 : decode cL_begin 0 = .ok (.aload_n 0, 1) := by decide +kernel
theorem dL_begin_1 : decode cL_begin 1 = .ok (.invokevirtual 15, 3) := by decide +kernel
theorem dL_begin_4 : decode cL_begin 4 = .ok (.ireturn, 1) := by decide +kernel
theorem dL_begin_5 : decode cL_begin 5 = .ok (.astore_n 1, 1) := by decide +kernel
theorem dL_begin_6 : decode cL_begin 6 = .ok (.ldc 23, 2) := by decide +kernel
theorem dL_begin_8 : decode cL_begin 8 = .ok (.ireturn, 1) := by decide +kernel
theorem dL_put_0 : decode cL_put 0 = .ok (.aload_n 0, 1) := by decide +kernel
theorem dL_put_1 : decode cL_put 1 = .ok (.iload_n 1, 1) := by decide +kernel
theorem dL_put_2 : decode cL_put 2 = .ok (.iload_n 2, 1) := by decide +kernel
theorem dL_put_3 : decode cL_put 3 = .ok (.invokevirtual 24, 3) := by decide +kernel
theorem dL_put_6 : decode cL_put 6 = .ok (.ifCond .eq 7, 3) := by decide +kernel
theorem dL_put_9 : decode cL_put 9 = .ok (.iconst 1, 1) := by decide +kernel
theorem dL_put_10 : decode cL_put 10 = .ok (.goto 4, 3) := by decide +kernel
theorem dL_put_13 : decode cL_put 13 = .ok (.iconst 0, 1) := by decide +kernel
theorem dL_put_14 : decode cL_put 14 = .ok (.ireturn, 1) := by decide +kernel
theorem dL_put_15 : decode cL_put 15 = .ok (.astore_n 3, 1) := by decide +kernel
theorem dL_put_16 : decode cL_put 16 = .ok (.ldc 23, 2) := by decide +kernel
theorem dL_put_18 : decode cL_put 18 = .ok (.ireturn, 1) := by decide +kernel
theorem dL_put_19 : decode cL_put 19 = .ok (.astore_n 3, 1) := by decide +kernel
theorem dL_put_20 : decode cL_put 20 = .ok (.ldc 30, 2) := by decide +kernel
theorem dL_put_22 : decode cL_put 22 = .ok (.ireturn, 1) := by decide +kernel
theorem dL_delete_0 : decode cL_delete 0 = .ok (.aload_n 0, 1) := by decide +kernel
theorem dL_delete_1 : decode cL_delete 1 = .ok (.iload_n 1, 1) := by decide +kernel
theorem dL_delete_2 : decode cL_delete 2 = .ok (.invokevirtual 31, 3) := by decide +kernel
theorem dL_delete_5 : decode cL_delete 5 = .ok (.ireturn, 1) := by decide +kernel
theorem dL_delete_6 : decode cL_delete 6 = .ok (.astore_n 2, 1) := by decide +kernel
theorem dL_delete_7 : decode cL_delete 7 = .ok (.ldc 23, 2) := by decide +kernel
theorem dL_delete_9 : decode cL_delete 9 = .ok (.ireturn, 1) := by decide +kernel
theorem dL_delete_10 : decode cL_delete 10 = .ok (.astore_n 2, 1) := by decide +kernel
theorem dL_delete_11 : decode cL_delete 11 = .ok (.ldc 30, 2) := by decide +kernel
theorem dL_delete_13 : decode cL_delete 13 = .ok (.ireturn, 1) := by decide +kernel
theorem dL_delete_14 : decode cL_delete 14 = .ok (.astore_n 2, 1) := by decide +kernel
theorem dL_delete_15 : decode cL_delete 15 = .ok (.ldc 37, 2) := by decide +kernel
theorem dL_delete_17 : decode cL_delete 17 = .ok (.ireturn, 1) := by decide +kernel
theorem dL_commit_0 : decode cL_commit 0 = .ok (.aload_n 0, 1) := by decide +kernel
theorem dL_commit_1 : decode cL_commit 1 = .ok (.invokevirtual 38, 3) := by decide +kernel
theorem dL_commit_4 : decode cL_commit 4 = .ok (.ireturn, 1) := by decide +kernel
theorem dL_commit_5 : decode cL_commit 5 = .ok (.astore_n 1, 1) := by decide +kernel
theorem dL_commit_6 : decode cL_commit 6 = .ok (.ldc 23, 2) := by decide +kernel
theorem dL_commit_8 : decode cL_commit 8 = .ok (.ireturn, 1) := by decide +kernel
theorem dL_abandon_0 : decode cL_abandon 0 = .ok (.aload_n 0, 1) := by decide +kernel
theorem dL_abandon_1 : decode cL_abandon 1 = .ok (.invokevirtual 41, 3) := by decide +kernel
theorem dL_abandon_4 : decode cL_abandon 4 = .ok (.ireturn, 1) := by decide +kernel
theorem dL_abandon_5 : decode cL_abandon 5 = .ok (.astore_n 1, 1) := by decide +kernel
theorem dL_abandon_6 : decode cL_abandon 6 = .ok (.ldc 23, 2) := by decide +kernel
theorem dL_abandon_8 : decode cL_abandon 8 = .ok (.ireturn, 1) := by decide +kernel
theorem dL_open_0 : decode cL_open 0 = .ok (.aload_n 0, 1) := by decide +kernel
theorem dL_open_1 : decode cL_open 1 = .ok (.invokevirtual 44, 3) := by decide +kernel
theorem dL_open_4 : decode cL_open 4 = .ok (.ireturn, 1) := by decide +kernel
theorem dL_open_5 : decode cL_open 5 = .ok (.astore_n 1, 1) := by decide +kernel
theorem dL_open_6 : decode cL_open 6 = .ok (.ldc 23, 2) := by decide +kernel
theorem dL_open_8 : decode cL_open 8 = .ok (.ireturn, 1) := by decide +kernel
theorem dL_close_0 : decode cL_close 0 = .ok (.aload_n 0, 1) := by decide +kernel
theorem dL_close_1 : decode cL_close 1 = .ok (.iload_n 1, 1) := by decide +kernel
theorem dL_close_2 : decode cL_close 2 = .ok (.invokevirtual 47, 3) := by decide +kernel
theorem dL_close_5 : decode cL_close 5 = .ok (.ireturn, 1) := by decide +kernel
theorem dL_close_6 : decode cL_close 6 = .ok (.astore_n 2, 1) := by decide +kernel
theorem dL_close_7 : decode cL_close 7 = .ok (.ldc 23, 2) := by decide +kernel
theorem dL_close_9 : decode cL_close 9 = .ok (.ireturn, 1) := by decide +kernel
theorem dL_heldBy_0 : decode cL_heldBy 0 = .ok (.aload_n 0, 1) := by decide +kernel
theorem dL_heldBy_1 : decode cL_heldBy 1 = .ok (.iload_n 1, 1) := by decide +kernel
theorem dL_heldBy_2 : decode cL_heldBy 2 = .ok (.invokevirtual 52, 3) := by decide +kernel
theorem dL_heldBy_5 : decode cL_heldBy 5 = .ok (.ireturn, 1) := by decide +kernel
theorem dL_heldBy_6 : decode cL_heldBy 6 = .ok (.astore_n 2, 1) := by decide +kernel
theorem dL_heldBy_7 : decode cL_heldBy 7 = .ok (.ldc 23, 2) := by decide +kernel
theorem dL_heldBy_9 : decode cL_heldBy 9 = .ok (.ireturn, 1) := by decide +kernel
theorem dL_epochOf_0 : decode cL_epochOf 0 = .ok (.aload_n 0, 1) := by decide +kernel
theorem dL_epochOf_1 : decode cL_epochOf 1 = .ok (.iload_n 1, 1) := by decide +kernel
theorem dL_epochOf_2 : decode cL_epochOf 2 = .ok (.invokevirtual 55, 3) := by decide +kernel
theorem dL_epochOf_5 : decode cL_epochOf 5 = .ok (.ireturn, 1) := by decide +kernel
theorem dL_epochOf_6 : decode cL_epochOf 6 = .ok (.astore_n 2, 1) := by decide +kernel
theorem dL_epochOf_7 : decode cL_epochOf 7 = .ok (.ldc 23, 2) := by decide +kernel
theorem dL_epochOf_9 : decode cL_epochOf 9 = .ok (.ireturn, 1) := by decide +kernel
theorem dL_get_0 : decode cL_get 0 = .ok (.aload_n 0, 1) := by decide +kernel
theorem dL_get_1 : decode cL_get 1 = .ok (.iload_n 1, 1) := by decide +kernel
theorem dL_get_2 : decode cL_get 2 = .ok (.iload_n 2, 1) := by decide +kernel
theorem dL_get_3 : decode cL_get 3 = .ok (.invokevirtual 58, 3) := by decide +kernel
theorem dL_get_6 : decode cL_get 6 = .ok (.ireturn, 1) := by decide +kernel
theorem dL_get_7 : decode cL_get 7 = .ok (.astore_n 3, 1) := by decide +kernel
theorem dL_get_8 : decode cL_get 8 = .ok (.ldc 23, 2) := by decide +kernel
theorem dL_get_10 : decode cL_get 10 = .ok (.ireturn, 1) := by decide +kernel
theorem dL_get_11 : decode cL_get 11 = .ok (.astore_n 3, 1) := by decide +kernel
theorem dL_get_12 : decode cL_get 12 = .ok (.ldc 30, 2) := by decide +kernel
theorem dL_get_14 : decode cL_get 14 = .ok (.ireturn, 1) := by decide +kernel
theorem dL_get_15 : decode cL_get 15 = .ok (.astore_n 3, 1) := by decide +kernel
theorem dL_get_16 : decode cL_get 16 = .ok (.ldc 37, 2) := by decide +kernel
theorem dL_get_18 : decode cL_get 18 = .ok (.ireturn, 1) := by decide +kernel
theorem dL_next_0 : decode cL_next 0 = .ok (.aload_n 0, 1) := by decide +kernel
theorem dL_next_1 : decode cL_next 1 = .ok (.iload_n 1, 1) := by decide +kernel
theorem dL_next_2 : decode cL_next 2 = .ok (.iload_n 2, 1) := by decide +kernel
theorem dL_next_3 : decode cL_next 3 = .ok (.invokevirtual 62, 3) := by decide +kernel
theorem dL_next_6 : decode cL_next 6 = .ok (.ireturn, 1) := by decide +kernel
theorem dL_next_7 : decode cL_next 7 = .ok (.astore_n 3, 1) := by decide +kernel
theorem dL_next_8 : decode cL_next 8 = .ok (.ldc 23, 2) := by decide +kernel
theorem dL_next_10 : decode cL_next 10 = .ok (.ireturn, 1) := by decide +kernel
theorem dL_rank_0 : decode cL_rank 0 = .ok (.aload_n 0, 1) := by decide +kernel
theorem dL_rank_1 : decode cL_rank 1 = .ok (.iload_n 1, 1) := by decide +kernel
theorem dL_rank_2 : decode cL_rank 2 = .ok (.iload_n 2, 1) := by decide +kernel
theorem dL_rank_3 : decode cL_rank 3 = .ok (.invokevirtual 65, 3) := by decide +kernel
theorem dL_rank_6 : decode cL_rank 6 = .ok (.ireturn, 1) := by decide +kernel
theorem dL_rank_7 : decode cL_rank 7 = .ok (.astore_n 3, 1) := by decide +kernel
theorem dL_rank_8 : decode cL_rank 8 = .ok (.ldc 23, 2) := by decide +kernel
theorem dL_rank_10 : decode cL_rank 10 = .ok (.ireturn, 1) := by decide +kernel
theorem dL_size_0 : decode cL_size 0 = .ok (.aload_n 0, 1) := by decide +kernel
theorem dL_size_1 : decode cL_size 1 = .ok (.iload_n 1, 1) := by decide +kernel
theorem dL_size_2 : decode cL_size 2 = .ok (.invokevirtual 68, 3) := by decide +kernel
theorem dL_size_5 : decode cL_size 5 = .ok (.ireturn, 1) := by decide +kernel
theorem dL_size_6 : decode cL_size 6 = .ok (.astore_n 2, 1) := by decide +kernel
theorem dL_size_7 : decode cL_size 7 = .ok (.ldc 23, 2) := by decide +kernel
theorem dL_size_9 : decode cL_size 9 = .ok (.ireturn, 1) := by decide +kernel
theorem dL_depth_0 : decode cL_depth 0 = .ok (.aload_n 0, 1) := by decide +kernel
theorem dL_depth_1 : decode cL_depth 1 = .ok (.iload_n 1, 1) := by decide +kernel
theorem dL_depth_2 : decode cL_depth 2 = .ok (.invokevirtual 71, 3) := by decide +kernel
theorem dL_depth_5 : decode cL_depth 5 = .ok (.ireturn, 1) := by decide +kernel
theorem dL_depth_6 : decode cL_depth 6 = .ok (.astore_n 2, 1) := by decide +kernel
theorem dL_depth_7 : decode cL_depth 7 = .ok (.ldc 23, 2) := by decide +kernel
theorem dL_depth_9 : decode cL_depth 9 = .ok (.ireturn, 1) := by decide +kernel
theorem dL_rootOf_0 : decode cL_rootOf 0 = .ok (.aload_n 0, 1) := by decide +kernel
theorem dL_rootOf_1 : decode cL_rootOf 1 = .ok (.iload_n 1, 1) := by decide +kernel
theorem dL_rootOf_2 : decode cL_rootOf 2 = .ok (.invokevirtual 74, 3) := by decide +kernel
theorem dL_rootOf_5 : decode cL_rootOf 5 = .ok (.ireturn, 1) := by decide +kernel
theorem dL_rootOf_6 : decode cL_rootOf 6 = .ok (.astore_n 2, 1) := by decide +kernel
theorem dL_rootOf_7 : decode cL_rootOf 7 = .ok (.ldc 23, 2) := by decide +kernel
theorem dL_rootOf_9 : decode cL_rootOf 9 = .ok (.ireturn, 1) := by decide +kernel
theorem dL_shared_0 : decode cL_shared 0 = .ok (.aload_n 0, 1) := by decide +kernel
theorem dL_shared_1 : decode cL_shared 1 = .ok (.iload_n 1, 1) := by decide +kernel
theorem dL_shared_2 : decode cL_shared 2 = .ok (.iload_n 2, 1) := by decide +kernel
theorem dL_shared_3 : decode cL_shared 3 = .ok (.invokevirtual 77, 3) := by decide +kernel
theorem dL_shared_6 : decode cL_shared 6 = .ok (.ireturn, 1) := by decide +kernel
theorem dL_shared_7 : decode cL_shared 7 = .ok (.astore_n 3, 1) := by decide +kernel
theorem dL_shared_8 : decode cL_shared 8 = .ok (.ldc 23, 2) := by decide +kernel
theorem dL_shared_10 : decode cL_shared 10 = .ok (.ireturn, 1) := by decide +kernel
theorem dL_isFree_0 : decode cL_isFree 0 = .ok (.aload_n 0, 1) := by decide +kernel
theorem dL_isFree_1 : decode cL_isFree 1 = .ok (.iload_n 1, 1) := by decide +kernel
theorem dL_isFree_2 : decode cL_isFree 2 = .ok (.invokevirtual 80, 3) := by decide +kernel
theorem dL_isFree_5 : decode cL_isFree 5 = .ok (.ifCond .eq 7, 3) := by decide +kernel
theorem dL_isFree_8 : decode cL_isFree 8 = .ok (.iconst 1, 1) := by decide +kernel
theorem dL_isFree_9 : decode cL_isFree 9 = .ok (.goto 4, 3) := by decide +kernel
theorem dL_isFree_12 : decode cL_isFree 12 = .ok (.iconst 0, 1) := by decide +kernel
theorem dL_isFree_13 : decode cL_isFree 13 = .ok (.ireturn, 1) := by decide +kernel
theorem dL_isFree_14 : decode cL_isFree 14 = .ok (.astore_n 2, 1) := by decide +kernel
theorem dL_isFree_15 : decode cL_isFree 15 = .ok (.ldc 23, 2) := by decide +kernel
theorem dL_isFree_17 : decode cL_isFree 17 = .ok (.ireturn, 1) := by decide +kernel
theorem dL_entries_0 : decode cL_entries 0 = .ok (.aload_n 0, 1) := by decide +kernel
theorem dL_entries_1 : decode cL_entries 1 = .ok (.iload_n 1, 1) := by decide +kernel
theorem dL_entries_2 : decode cL_entries 2 = .ok (.invokevirtual 84, 3) := by decide +kernel
theorem dL_entries_5 : decode cL_entries 5 = .ok (.ireturn, 1) := by decide +kernel
theorem dL_entries_6 : decode cL_entries 6 = .ok (.astore_n 2, 1) := by decide +kernel
theorem dL_entries_7 : decode cL_entries 7 = .ok (.ldc 23, 2) := by decide +kernel
theorem dL_entries_9 : decode cL_entries 9 = .ok (.ireturn, 1) := by decide +kernel
theorem dL_keyAt_0 : decode cL_keyAt 0 = .ok (.aload_n 0, 1) := by decide +kernel
theorem dL_keyAt_1 : decode cL_keyAt 1 = .ok (.iload_n 1, 1) := by decide +kernel
theorem dL_keyAt_2 : decode cL_keyAt 2 = .ok (.iload_n 2, 1) := by decide +kernel
theorem dL_keyAt_3 : decode cL_keyAt 3 = .ok (.invokevirtual 87, 3) := by decide +kernel
theorem dL_keyAt_6 : decode cL_keyAt 6 = .ok (.ireturn, 1) := by decide +kernel
theorem dL_keyAt_7 : decode cL_keyAt 7 = .ok (.astore_n 3, 1) := by decide +kernel
theorem dL_keyAt_8 : decode cL_keyAt 8 = .ok (.ldc 23, 2) := by decide +kernel
theorem dL_keyAt_10 : decode cL_keyAt 10 = .ok (.ireturn, 1) := by decide +kernel
theorem dL_pageAt_0 : decode cL_pageAt 0 = .ok (.aload_n 0, 1) := by decide +kernel
theorem dL_pageAt_1 : decode cL_pageAt 1 = .ok (.iload_n 1, 1) := by decide +kernel
theorem dL_pageAt_2 : decode cL_pageAt 2 = .ok (.iload_n 2, 1) := by decide +kernel
theorem dL_pageAt_3 : decode cL_pageAt 3 = .ok (.invokevirtual 90, 3) := by decide +kernel
theorem dL_pageAt_6 : decode cL_pageAt 6 = .ok (.ireturn, 1) := by decide +kernel
theorem dL_pageAt_7 : decode cL_pageAt 7 = .ok (.astore_n 3, 1) := by decide +kernel
theorem dL_pageAt_8 : decode cL_pageAt 8 = .ok (.ldc 23, 2) := by decide +kernel
theorem dL_pageAt_10 : decode cL_pageAt 10 = .ok (.ireturn, 1) := by decide +kernel
theorem dL_slotWord_0 : decode cL_slotWord 0 = .ok (.aload_n 0, 1) := by decide +kernel
theorem dL_slotWord_1 : decode cL_slotWord 1 = .ok (.iload_n 1, 1) := by decide +kernel
theorem dL_slotWord_2 : decode cL_slotWord 2 = .ok (.iload_n 2, 1) := by decide +kernel
theorem dL_slotWord_3 : decode cL_slotWord 3 = .ok (.invokevirtual 93, 3) := by decide +kernel
theorem dL_slotWord_6 : decode cL_slotWord 6 = .ok (.lreturn, 1) := by decide +kernel
theorem dL_slotWord_7 : decode cL_slotWord 7 = .ok (.astore_n 3, 1) := by decide +kernel
theorem dL_slotWord_8 : decode cL_slotWord 8 = .ok (.ldc2_w 97, 3) := by decide +kernel
theorem dL_slotWord_11 : decode cL_slotWord 11 = .ok (.lreturn, 1) := by decide +kernel
theorem dL_isWhole_0 : decode cL_isWhole 0 = .ok (.aload_n 0, 1) := by decide +kernel
theorem dL_isWhole_1 : decode cL_isWhole 1 = .ok (.iload_n 1, 1) := by decide +kernel
theorem dL_isWhole_2 : decode cL_isWhole 2 = .ok (.invokevirtual 99, 3) := by decide +kernel
theorem dL_isWhole_5 : decode cL_isWhole 5 = .ok (.ifCond .eq 7, 3) := by decide +kernel
theorem dL_isWhole_8 : decode cL_isWhole 8 = .ok (.iconst 1, 1) := by decide +kernel
theorem dL_isWhole_9 : decode cL_isWhole 9 = .ok (.goto 4, 3) := by decide +kernel
theorem dL_isWhole_12 : decode cL_isWhole 12 = .ok (.iconst 0, 1) := by decide +kernel
theorem dL_isWhole_13 : decode cL_isWhole 13 = .ok (.ireturn, 1) := by decide +kernel
theorem dL_isWhole_14 : decode cL_isWhole 14 = .ok (.astore_n 2, 1) := by decide +kernel
theorem dL_isWhole_15 : decode cL_isWhole 15 = .ok (.ldc 23, 2) := by decide +kernel
theorem dL_isWhole_17 : decode cL_isWhole 17 = .ok (.ireturn, 1) := by decide +kernel
theorem dL_tear_0 : decode cL_tear 0 = .ok (.aload_n 0, 1) := by decide +kernel
theorem dL_tear_1 : decode cL_tear 1 = .ok (.iload_n 1, 1) := by decide +kernel
theorem dL_tear_2 : decode cL_tear 2 = .ok (.invokevirtual 102, 3) := by decide +kernel
theorem dL_tear_5 : decode cL_tear 5 = .ok (.ireturn, 1) := by decide +kernel
theorem dL_tear_6 : decode cL_tear 6 = .ok (.astore_n 2, 1) := by decide +kernel
theorem dL_tear_7 : decode cL_tear 7 = .ok (.ldc 23, 2) := by decide +kernel
theorem dL_tear_9 : decode cL_tear 9 = .ok (.ireturn, 1) := by decide +kernel
theorem dL_tear_10 : decode cL_tear 10 = .ok (.astore_n 2, 1) := by decide +kernel
theorem dL_tear_11 : decode cL_tear 11 = .ok (.ldc 30, 2) := by decide +kernel
theorem dL_tear_13 : decode cL_tear 13 = .ok (.ireturn, 1) := by decide +kernel
theorem dL_crashInCommit_0 : decode cL_crashInCommit 0 = .ok (.aload_n 0, 1) := by decide +kernel
theorem dL_crashInCommit_1 : decode cL_crashInCommit 1 = .ok (.iload_n 1, 1) := by decide +kernel
theorem dL_crashInCommit_2 : decode cL_crashInCommit 2 = .ok (.invokevirtual 105, 3) := by decide +kernel
theorem dL_crashInCommit_5 : decode cL_crashInCommit 5 = .ok (.ireturn, 1) := by decide +kernel
theorem dL_crashInCommit_6 : decode cL_crashInCommit 6 = .ok (.astore_n 2, 1) := by decide +kernel
theorem dL_crashInCommit_7 : decode cL_crashInCommit 7 = .ok (.ldc 23, 2) := by decide +kernel
theorem dL_crashInCommit_9 : decode cL_crashInCommit 9 = .ok (.ireturn, 1) := by decide +kernel
theorem dL_crashInCommit_10 : decode cL_crashInCommit 10 = .ok (.astore_n 2, 1) := by decide +kernel
theorem dL_crashInCommit_11 : decode cL_crashInCommit 11 = .ok (.ldc 30, 2) := by decide +kernel
theorem dL_crashInCommit_13 : decode cL_crashInCommit 13 = .ok (.ireturn, 1) := by decide +kernel
theorem dL_print_0 : decode cL_print 0 = .ok (.ldc2_w 108, 3) := by decide +kernel
theorem dL_print_3 : decode cL_print 3 = .ok (.aload_n 0, 1) := by decide +kernel
theorem dL_print_4 : decode cL_print 4 = .ok (.invokevirtual 110, 3) := by decide +kernel
theorem dL_print_7 : decode cL_print 7 = .ok (.i2l, 1) := by decide +kernel
theorem dL_print_8 : decode cL_print 8 = .ok (.lmul, 1) := by decide +kernel
theorem dL_print_9 : decode cL_print 9 = .ok (.aload_n 0, 1) := by decide +kernel
theorem dL_print_10 : decode cL_print 10 = .ok (.invokevirtual 113, 3) := by decide +kernel
theorem dL_print_13 : decode cL_print 13 = .ok (.i2l, 1) := by decide +kernel
theorem dL_print_14 : decode cL_print 14 = .ok (.ladd, 1) := by decide +kernel
theorem dL_print_15 : decode cL_print 15 = .ok (.lstore_n 1, 1) := by decide +kernel
theorem dL_print_16 : decode cL_print 16 = .ok (.ldc2_w 108, 3) := by decide +kernel
theorem dL_print_19 : decode cL_print 19 = .ok (.ldc2_w 108, 3) := by decide +kernel
theorem dL_print_22 : decode cL_print 22 = .ok (.lload_n 1, 1) := by decide +kernel
theorem dL_print_23 : decode cL_print 23 = .ok (.lmul, 1) := by decide +kernel
theorem dL_print_24 : decode cL_print 24 = .ok (.aload_n 0, 1) := by decide +kernel
theorem dL_print_25 : decode cL_print 25 = .ok (.invokevirtual 116, 3) := by decide +kernel
theorem dL_print_28 : decode cL_print 28 = .ok (.i2l, 1) := by decide +kernel
theorem dL_print_29 : decode cL_print 29 = .ok (.ladd, 1) := by decide +kernel
theorem dL_print_30 : decode cL_print 30 = .ok (.lmul, 1) := by decide +kernel
theorem dL_print_31 : decode cL_print 31 = .ok (.aload_n 0, 1) := by decide +kernel
theorem dL_print_32 : decode cL_print 32 = .ok (.invokevirtual 119, 3) := by decide +kernel
theorem dL_print_35 : decode cL_print 35 = .ok (.ifCond .eq 7, 3) := by decide +kernel
theorem dL_print_38 : decode cL_print 38 = .ok (.iconst 5, 1) := by decide +kernel
theorem dL_print_39 : decode cL_print 39 = .ok (.goto 4, 3) := by decide +kernel
theorem dL_print_42 : decode cL_print 42 = .ok (.iconst 0, 1) := by decide +kernel
theorem dL_print_43 : decode cL_print 43 = .ok (.i2l, 1) := by decide +kernel
theorem dL_print_44 : decode cL_print 44 = .ok (.ladd, 1) := by decide +kernel
theorem dL_print_45 : decode cL_print 45 = .ok (.aload_n 0, 1) := by decide +kernel
theorem dL_print_46 : decode cL_print 46 = .ok (.invokevirtual 123, 3) := by decide +kernel
theorem dL_print_49 : decode cL_print 49 = .ok (.i2l, 1) := by decide +kernel
theorem dL_print_50 : decode cL_print 50 = .ok (.ladd, 1) := by decide +kernel
theorem dL_print_51 : decode cL_print 51 = .ok (.lstore_n 1, 1) := by decide +kernel
theorem dL_print_52 : decode cL_print 52 = .ok (.iconst 0, 1) := by decide +kernel
theorem dL_print_53 : decode cL_print 53 = .ok (.istore_n 3, 1) := by decide +kernel
theorem dL_print_54 : decode cL_print 54 = .ok (.iload_n 3, 1) := by decide +kernel
theorem dL_print_55 : decode cL_print 55 = .ok (.bipush 8, 2) := by decide +kernel
theorem dL_print_57 : decode cL_print 57 = .ok (.if_icmp .ge 26, 3) := by decide +kernel
theorem dL_print_60 : decode cL_print 60 = .ok (.ldc2_w 108, 3) := by decide +kernel
theorem dL_print_63 : decode cL_print 63 = .ok (.lload_n 1, 1) := by decide +kernel
theorem dL_print_64 : decode cL_print 64 = .ok (.lmul, 1) := by decide +kernel
theorem dL_print_65 : decode cL_print 65 = .ok (.aload_n 0, 1) := by decide +kernel
theorem dL_print_66 : decode cL_print 66 = .ok (.iload_n 3, 1) := by decide +kernel
theorem dL_print_67 : decode cL_print 67 = .ok (.iconst 4, 1) := by decide +kernel
theorem dL_print_68 : decode cL_print 68 = .ok (.idiv, 1) := by decide +kernel
theorem dL_print_69 : decode cL_print 69 = .ok (.iload_n 3, 1) := by decide +kernel
theorem dL_print_70 : decode cL_print 70 = .ok (.iconst 4, 1) := by decide +kernel
theorem dL_print_71 : decode cL_print 71 = .ok (.irem, 1) := by decide +kernel
theorem dL_print_72 : decode cL_print 72 = .ok (.invokestatic 126, 3) := by decide +kernel
theorem dL_print_75 : decode cL_print 75 = .ok (.ladd, 1) := by decide +kernel
theorem dL_print_76 : decode cL_print 76 = .ok (.lstore_n 1, 1) := by decide +kernel
theorem dL_print_77 : decode cL_print 77 = .ok (.iinc 3 1, 3) := by decide +kernel
theorem dL_print_80 : decode cL_print 80 = .ok (.goto (-26), 3) := by decide +kernel
theorem dL_print_83 : decode cL_print 83 = .ok (.iconst (-1), 1) := by decide +kernel
theorem dL_print_84 : decode cL_print 84 = .ok (.istore_n 3, 1) := by decide +kernel
theorem dL_print_85 : decode cL_print 85 = .ok (.iload_n 3, 1) := by decide +kernel
theorem dL_print_86 : decode cL_print 86 = .ok (.iconst 4, 1) := by decide +kernel
theorem dL_print_87 : decode cL_print 87 = .ok (.if_icmp .ge 44, 3) := by decide +kernel
theorem dL_print_90 : decode cL_print 90 = .ok (.ldc2_w 108, 3) := by decide +kernel
theorem dL_print_93 : decode cL_print 93 = .ok (.ldc2_w 108, 3) := by decide +kernel
theorem dL_print_96 : decode cL_print 96 = .ok (.ldc2_w 108, 3) := by decide +kernel
theorem dL_print_99 : decode cL_print 99 = .ok (.lload_n 1, 1) := by decide +kernel
theorem dL_print_100 : decode cL_print 100 = .ok (.lmul, 1) := by decide +kernel
theorem dL_print_101 : decode cL_print 101 = .ok (.aload_n 0, 1) := by decide +kernel
theorem dL_print_102 : decode cL_print 102 = .ok (.iload_n 3, 1) := by decide +kernel
theorem dL_print_103 : decode cL_print 103 = .ok (.invokestatic 131, 3) := by decide +kernel
theorem dL_print_106 : decode cL_print 106 = .ok (.i2l, 1) := by decide +kernel
theorem dL_print_107 : decode cL_print 107 = .ok (.ladd, 1) := by decide +kernel
theorem dL_print_108 : decode cL_print 108 = .ok (.lmul, 1) := by decide +kernel
theorem dL_print_109 : decode cL_print 109 = .ok (.aload_n 0, 1) := by decide +kernel
theorem dL_print_110 : decode cL_print 110 = .ok (.iload_n 3, 1) := by decide +kernel
theorem dL_print_111 : decode cL_print 111 = .ok (.invokestatic 134, 3) := by decide +kernel
theorem dL_print_114 : decode cL_print 114 = .ok (.i2l, 1) := by decide +kernel
theorem dL_print_115 : decode cL_print 115 = .ok (.ladd, 1) := by decide +kernel
theorem dL_print_116 : decode cL_print 116 = .ok (.lmul, 1) := by decide +kernel
theorem dL_print_117 : decode cL_print 117 = .ok (.aload_n 0, 1) := by decide +kernel
theorem dL_print_118 : decode cL_print 118 = .ok (.iload_n 3, 1) := by decide +kernel
theorem dL_print_119 : decode cL_print 119 = .ok (.invokestatic 136, 3) := by decide +kernel
theorem dL_print_122 : decode cL_print 122 = .ok (.i2l, 1) := by decide +kernel
theorem dL_print_123 : decode cL_print 123 = .ok (.ladd, 1) := by decide +kernel
theorem dL_print_124 : decode cL_print 124 = .ok (.lstore_n 1, 1) := by decide +kernel
theorem dL_print_125 : decode cL_print 125 = .ok (.iinc 3 1, 3) := by decide +kernel
theorem dL_print_128 : decode cL_print 128 = .ok (.goto (-43), 3) := by decide +kernel
theorem dL_print_131 : decode cL_print 131 = .ok (.iconst 0, 1) := by decide +kernel
theorem dL_print_132 : decode cL_print 132 = .ok (.istore_n 3, 1) := by decide +kernel
theorem dL_print_133 : decode cL_print 133 = .ok (.iload_n 3, 1) := by decide +kernel
theorem dL_print_134 : decode cL_print 134 = .ok (.bipush 60, 2) := by decide +kernel
theorem dL_print_136 : decode cL_print 136 = .ok (.if_icmp .ge 70, 3) := by decide +kernel
theorem dL_print_139 : decode cL_print 139 = .ok (.aload_n 0, 1) := by decide +kernel
theorem dL_print_140 : decode cL_print 140 = .ok (.iload_n 3, 1) := by decide +kernel
theorem dL_print_141 : decode cL_print 141 = .ok (.invokestatic 138, 3) := by decide +kernel
theorem dL_print_144 : decode cL_print 144 = .ok (.istore 4, 2) := by decide +kernel
theorem dL_print_146 : decode cL_print 146 = .ok (.ldc2_w 108, 3) := by decide +kernel
theorem dL_print_149 : decode cL_print 149 = .ok (.lload_n 1, 1) := by decide +kernel
theorem dL_print_150 : decode cL_print 150 = .ok (.lmul, 1) := by decide +kernel
theorem dL_print_151 : decode cL_print 151 = .ok (.iload 4, 2) := by decide +kernel
theorem dL_print_153 : decode cL_print 153 = .ok (.i2l, 1) := by decide +kernel
theorem dL_print_154 : decode cL_print 154 = .ok (.ladd, 1) := by decide +kernel
theorem dL_print_155 : decode cL_print 155 = .ok (.lstore_n 1, 1) := by decide +kernel
theorem dL_print_156 : decode cL_print 156 = .ok (.iconst 0, 1) := by decide +kernel
theorem dL_print_157 : decode cL_print 157 = .ok (.istore 5, 2) := by decide +kernel
theorem dL_print_159 : decode cL_print 159 = .ok (.iload 5, 2) := by decide +kernel
theorem dL_print_161 : decode cL_print 161 = .ok (.iload 4, 2) := by decide +kernel
theorem dL_print_163 : decode cL_print 163 = .ok (.if_icmp .ge 37, 3) := by decide +kernel
theorem dL_print_166 : decode cL_print 166 = .ok (.ldc2_w 108, 3) := by decide +kernel
theorem dL_print_169 : decode cL_print 169 = .ok (.ldc2_w 108, 3) := by decide +kernel
theorem dL_print_172 : decode cL_print 172 = .ok (.lload_n 1, 1) := by decide +kernel
theorem dL_print_173 : decode cL_print 173 = .ok (.lmul, 1) := by decide +kernel
theorem dL_print_174 : decode cL_print 174 = .ok (.aload_n 0, 1) := by decide +kernel
theorem dL_print_175 : decode cL_print 175 = .ok (.iload_n 3, 1) := by decide +kernel
theorem dL_print_176 : decode cL_print 176 = .ok (.iload 5, 2) := by decide +kernel
theorem dL_print_178 : decode cL_print 178 = .ok (.invokestatic 140, 3) := by decide +kernel
theorem dL_print_181 : decode cL_print 181 = .ok (.i2l, 1) := by decide +kernel
theorem dL_print_182 : decode cL_print 182 = .ok (.ladd, 1) := by decide +kernel
theorem dL_print_183 : decode cL_print 183 = .ok (.lmul, 1) := by decide +kernel
theorem dL_print_184 : decode cL_print 184 = .ok (.aload_n 0, 1) := by decide +kernel
theorem dL_print_185 : decode cL_print 185 = .ok (.iload_n 3, 1) := by decide +kernel
theorem dL_print_186 : decode cL_print 186 = .ok (.iload 5, 2) := by decide +kernel
theorem dL_print_188 : decode cL_print 188 = .ok (.invokestatic 143, 3) := by decide +kernel
theorem dL_print_191 : decode cL_print 191 = .ok (.i2l, 1) := by decide +kernel
theorem dL_print_192 : decode cL_print 192 = .ok (.ladd, 1) := by decide +kernel
theorem dL_print_193 : decode cL_print 193 = .ok (.lstore_n 1, 1) := by decide +kernel
theorem dL_print_194 : decode cL_print 194 = .ok (.iinc 5 1, 3) := by decide +kernel
theorem dL_print_197 : decode cL_print 197 = .ok (.goto (-38), 3) := by decide +kernel
theorem dL_print_200 : decode cL_print 200 = .ok (.iinc 3 1, 3) := by decide +kernel
theorem dL_print_203 : decode cL_print 203 = .ok (.goto (-70), 3) := by decide +kernel
theorem dL_print_206 : decode cL_print 206 = .ok (.lload_n 1, 1) := by decide +kernel
theorem dL_print_207 : decode cL_print 207 = .ok (.lreturn, 1) := by decide +kernel
theorem dL_first_0 : decode cL_first 0 = .ok (.iload_n 1, 1) := by decide +kernel
theorem dL_first_1 : decode cL_first 1 = .ok (.istore_n 2, 1) := by decide +kernel
theorem dL_first_2 : decode cL_first 2 = .ok (.iconst 0, 1) := by decide +kernel
theorem dL_first_3 : decode cL_first 3 = .ok (.istore_n 3, 1) := by decide +kernel
theorem dL_first_4 : decode cL_first 4 = .ok (.iload_n 3, 1) := by decide +kernel
theorem dL_first_5 : decode cL_first 5 = .ok (.bipush 9, 2) := by decide +kernel
theorem dL_first_7 : decode cL_first 7 = .ok (.if_icmp .ge 25, 3) := by decide +kernel
theorem dL_first_10 : decode cL_first 10 = .ok (.aload_n 0, 1) := by decide +kernel
theorem dL_first_11 : decode cL_first 11 = .ok (.iload_n 2, 1) := by decide +kernel
theorem dL_first_12 : decode cL_first 12 = .ok (.iconst 0, 1) := by decide +kernel
theorem dL_first_13 : decode cL_first 13 = .ok (.invokestatic 143, 3) := by decide +kernel
theorem dL_first_16 : decode cL_first 16 = .ok (.ifCond .lt 16, 3) := by decide +kernel
theorem dL_first_19 : decode cL_first 19 = .ok (.aload_n 0, 1) := by decide +kernel
theorem dL_first_20 : decode cL_first 20 = .ok (.iload_n 2, 1) := by decide +kernel
theorem dL_first_21 : decode cL_first 21 = .ok (.iconst 0, 1) := by decide +kernel
theorem dL_first_22 : decode cL_first 22 = .ok (.invokestatic 143, 3) := by decide +kernel
theorem dL_first_25 : decode cL_first 25 = .ok (.istore_n 2, 1) := by decide +kernel
theorem dL_first_26 : decode cL_first 26 = .ok (.iinc 3 1, 3) := by decide +kernel
theorem dL_first_29 : decode cL_first 29 = .ok (.goto (-25), 3) := by decide +kernel
theorem dL_first_32 : decode cL_first 32 = .ok (.aload_n 0, 1) := by decide +kernel
theorem dL_first_33 : decode cL_first 33 = .ok (.iload_n 2, 1) := by decide +kernel
theorem dL_first_34 : decode cL_first 34 = .ok (.iconst 0, 1) := by decide +kernel
theorem dL_first_35 : decode cL_first 35 = .ok (.invokestatic 140, 3) := by decide +kernel
theorem dL_first_38 : decode cL_first 38 = .ok (.ireturn, 1) := by decide +kernel
theorem dL_walks_0 : decode cL_walks 0 = .ok (.bipush 64, 2) := by decide +kernel
theorem dL_walks_2 : decode cL_walks 2 = .ok (.newarray .int, 2) := by decide +kernel
theorem dL_walks_4 : decode cL_walks 4 = .ok (.astore 4, 2) := by decide +kernel
theorem dL_walks_6 : decode cL_walks 6 = .ok (.bipush 64, 2) := by decide +kernel
theorem dL_walks_8 : decode cL_walks 8 = .ok (.newarray .int, 2) := by decide +kernel
theorem dL_walks_10 : decode cL_walks 10 = .ok (.astore 5, 2) := by decide +kernel
theorem dL_walks_12 : decode cL_walks 12 = .ok (.iconst 1, 1) := by decide +kernel
theorem dL_walks_13 : decode cL_walks 13 = .ok (.istore 6, 2) := by decide +kernel
theorem dL_walks_15 : decode cL_walks 15 = .ok (.aload_n 2, 1) := by decide +kernel
theorem dL_walks_16 : decode cL_walks 16 = .ok (.iconst 0, 1) := by decide +kernel
theorem dL_walks_17 : decode cL_walks 17 = .ok (.iconst 0, 1) := by decide +kernel
theorem dL_walks_18 : decode cL_walks 18 = .ok (.iastore, 1) := by decide +kernel
theorem dL_walks_19 : decode cL_walks 19 = .ok (.aload 4, 2) := by decide +kernel
theorem dL_walks_21 : decode cL_walks 21 = .ok (.iconst 0, 1) := by decide +kernel
theorem dL_walks_22 : decode cL_walks 22 = .ok (.iload_n 1, 1) := by decide +kernel
theorem dL_walks_23 : decode cL_walks 23 = .ok (.iastore, 1) := by decide +kernel
theorem dL_walks_24 : decode cL_walks 24 = .ok (.iconst 1, 1) := by decide +kernel
theorem dL_walks_25 : decode cL_walks 25 = .ok (.istore 7, 2) := by decide +kernel
theorem dL_walks_27 : decode cL_walks 27 = .ok (.iload 7, 2) := by decide +kernel
theorem dL_walks_29 : decode cL_walks 29 = .ok (.bipush 9, 2) := by decide +kernel
theorem dL_walks_31 : decode cL_walks 31 = .ok (.if_icmp .ge 335, 3) := by decide +kernel
theorem dL_walks_34 : decode cL_walks 34 = .ok (.aload_n 0, 1) := by decide +kernel
theorem dL_walks_35 : decode cL_walks 35 = .ok (.aload 4, 2) := by decide +kernel
theorem dL_walks_37 : decode cL_walks 37 = .ok (.iconst 0, 1) := by decide +kernel
theorem dL_walks_38 : decode cL_walks 38 = .ok (.iaload, 1) := by decide +kernel
theorem dL_walks_39 : decode cL_walks 39 = .ok (.iconst 0, 1) := by decide +kernel
theorem dL_walks_40 : decode cL_walks 40 = .ok (.invokestatic 143, 3) := by decide +kernel
theorem dL_walks_43 : decode cL_walks 43 = .ok (.ifCond .lt 7, 3) := by decide +kernel
theorem dL_walks_46 : decode cL_walks 46 = .ok (.iconst 1, 1) := by decide +kernel
theorem dL_walks_47 : decode cL_walks 47 = .ok (.goto 4, 3) := by decide +kernel
theorem dL_walks_50 : decode cL_walks 50 = .ok (.iconst 0, 1) := by decide +kernel
theorem dL_walks_51 : decode cL_walks 51 = .ok (.istore 8, 2) := by decide +kernel
theorem dL_walks_53 : decode cL_walks 53 = .ok (.iconst 0, 1) := by decide +kernel
theorem dL_walks_54 : decode cL_walks 54 = .ok (.istore 9, 2) := by decide +kernel
theorem dL_walks_56 : decode cL_walks 56 = .ok (.iconst 0, 1) := by decide +kernel
theorem dL_walks_57 : decode cL_walks 57 = .ok (.istore 10, 2) := by decide +kernel
theorem dL_walks_59 : decode cL_walks 59 = .ok (.iload 10, 2) := by decide +kernel
theorem dL_walks_61 : decode cL_walks 61 = .ok (.iload 6, 2) := by decide +kernel
theorem dL_walks_63 : decode cL_walks 63 = .ok (.if_icmp .ge 259, 3) := by decide +kernel
theorem dL_walks_66 : decode cL_walks 66 = .ok (.aload 4, 2) := by decide +kernel
theorem dL_walks_68 : decode cL_walks 68 = .ok (.iload 10, 2) := by decide +kernel
theorem dL_walks_70 : decode cL_walks 70 = .ok (.iaload, 1) := by decide +kernel
theorem dL_walks_71 : decode cL_walks 71 = .ok (.istore 11, 2) := by decide +kernel
theorem dL_walks_73 : decode cL_walks 73 = .ok (.iload 11, 2) := by decide +kernel
theorem dL_walks_75 : decode cL_walks 75 = .ok (.ifCond .lt 11, 3) := by decide +kernel
theorem dL_walks_78 : decode cL_walks 78 = .ok (.iload 11, 2) := by decide +kernel
theorem dL_walks_80 : decode cL_walks 80 = .ok (.sipush 768, 3) := by decide +kernel
theorem dL_walks_83 : decode cL_walks 83 = .ok (.if_icmp .lt 7, 3) := by decide +kernel
theorem dL_walks_86 : decode cL_walks 86 = .ok (.iconst (-1), 1) := by decide +kernel
theorem dL_walks_87 : decode cL_walks 87 = .ok (.goto 9, 3) := by decide +kernel
theorem dL_walks_90 : decode cL_walks 90 = .ok (.aload_n 0, 1) := by decide +kernel
theorem dL_walks_91 : decode cL_walks 91 = .ok (.iload 11, 2) := by decide +kernel
theorem dL_walks_93 : decode cL_walks 93 = .ok (.invokestatic 138, 3) := by decide +kernel
theorem dL_walks_96 : decode cL_walks 96 = .ok (.istore 12, 2) := by decide +kernel
theorem dL_walks_98 : decode cL_walks 98 = .ok (.iload 12, 2) := by decide +kernel
theorem dL_walks_100 : decode cL_walks 100 = .ok (.ifCond .lt 51, 3) := by decide +kernel
theorem dL_walks_103 : decode cL_walks 103 = .ok (.iload 12, 2) := by decide +kernel
theorem dL_walks_105 : decode cL_walks 105 = .ok (.iconst 4, 1) := by decide +kernel
theorem dL_walks_106 : decode cL_walks 106 = .ok (.if_icmp .gt 45, 3) := by decide +kernel
theorem dL_walks_109 : decode cL_walks 109 = .ok (.iload 12, 2) := by decide +kernel
theorem dL_walks_111 : decode cL_walks 111 = .ok (.iconst 2, 1) := by decide +kernel
theorem dL_walks_112 : decode cL_walks 112 = .ok (.if_icmp .ge 14, 3) := by decide +kernel
theorem dL_walks_115 : decode cL_walks 115 = .ok (.iload 8, 2) := by decide +kernel
theorem dL_walks_117 : decode cL_walks 117 = .ok (.ifCond .ne 34, 3) := by decide +kernel
theorem dL_walks_120 : decode cL_walks 120 = .ok (.iload 7, 2) := by decide +kernel
theorem dL_walks_122 : decode cL_walks 122 = .ok (.iconst 1, 1) := by decide +kernel
theorem dL_walks_123 : decode cL_walks 123 = .ok (.if_icmp .gt 28, 3) := by decide +kernel
theorem dL_walks_126 : decode cL_walks 126 = .ok (.aload_n 0, 1) := by decide +kernel
theorem dL_walks_127 : decode cL_walks 127 = .ok (.iload 11, 2) := by decide +kernel
theorem dL_walks_129 : decode cL_walks 129 = .ok (.iload 12, 2) := by decide +kernel
theorem dL_walks_131 : decode cL_walks 131 = .ok (.invokestatic 143, 3) := by decide +kernel
theorem dL_walks_134 : decode cL_walks 134 = .ok (.ldc 23, 2) := by decide +kernel
theorem dL_walks_136 : decode cL_walks 136 = .ok (.if_icmp .ne 15, 3) := by decide +kernel
theorem dL_walks_139 : decode cL_walks 139 = .ok (.aload_n 0, 1) := by decide +kernel
theorem dL_walks_140 : decode cL_walks 140 = .ok (.iload 11, 2) := by decide +kernel
theorem dL_walks_142 : decode cL_walks 142 = .ok (.iconst (-1), 1) := by decide +kernel
theorem dL_walks_143 : decode cL_walks 143 = .ok (.invokestatic 140, 3) := by decide +kernel
theorem dL_walks_146 : decode cL_walks 146 = .ok (.ldc 23, 2) := by decide +kernel
theorem dL_walks_148 : decode cL_walks 148 = .ok (.if_icmp .eq 5, 3) := by decide +kernel
theorem dL_walks_151 : decode cL_walks 151 = .ok (.iconst 0, 1) := by decide +kernel
theorem dL_walks_152 : decode cL_walks 152 = .ok (.ireturn, 1) := by decide +kernel
theorem dL_walks_153 : decode cL_walks 153 = .ok (.aload_n 3, 1) := by decide +kernel
theorem dL_walks_154 : decode cL_walks 154 = .ok (.iload 11, 2) := by decide +kernel
theorem dL_walks_156 : decode cL_walks 156 = .ok (.bipush 64, 2) := by decide +kernel
theorem dL_walks_158 : decode cL_walks 158 = .ok (.idiv, 1) := by decide +kernel
theorem dL_walks_159 : decode cL_walks 159 = .ok (.dup2, 1) := by decide +kernel
theorem dL_walks_160 : decode cL_walks 160 = .ok (.laload, 1) := by decide +kernel
theorem dL_walks_161 : decode cL_walks 161 = .ok (.lconst 1, 1) := by decide +kernel
theorem dL_walks_162 : decode cL_walks 162 = .ok (.iload 11, 2) := by decide +kernel
theorem dL_walks_164 : decode cL_walks 164 = .ok (.bipush 64, 2) := by decide +kernel
theorem dL_walks_166 : decode cL_walks 166 = .ok (.irem, 1) := by decide +kernel
theorem dL_walks_167 : decode cL_walks 167 = .ok (.lshl, 1) := by decide +kernel
theorem dL_walks_168 : decode cL_walks 168 = .ok (.lor, 1) := by decide +kernel
theorem dL_walks_169 : decode cL_walks 169 = .ok (.lastore, 1) := by decide +kernel
theorem dL_walks_170 : decode cL_walks 170 = .ok (.iconst 0, 1) := by decide +kernel
theorem dL_walks_171 : decode cL_walks 171 = .ok (.istore 13, 2) := by decide +kernel
theorem dL_walks_173 : decode cL_walks 173 = .ok (.iload 13, 2) := by decide +kernel
theorem dL_walks_175 : decode cL_walks 175 = .ok (.iload 12, 2) := by decide +kernel
theorem dL_walks_177 : decode cL_walks 177 = .ok (.if_icmp .ge 139, 3) := by decide +kernel
theorem dL_walks_180 : decode cL_walks 180 = .ok (.aload_n 0, 1) := by decide +kernel
theorem dL_walks_181 : decode cL_walks 181 = .ok (.iload 11, 2) := by decide +kernel
theorem dL_walks_183 : decode cL_walks 183 = .ok (.iload 13, 2) := by decide +kernel
theorem dL_walks_185 : decode cL_walks 185 = .ok (.invokestatic 143, 3) := by decide +kernel
theorem dL_walks_188 : decode cL_walks 188 = .ok (.istore 14, 2) := by decide +kernel
theorem dL_walks_190 : decode cL_walks 190 = .ok (.aload_n 0, 1) := by decide +kernel
theorem dL_walks_191 : decode cL_walks 191 = .ok (.iload 11, 2) := by decide +kernel
theorem dL_walks_193 : decode cL_walks 193 = .ok (.iload 13, 2) := by decide +kernel
theorem dL_walks_195 : decode cL_walks 195 = .ok (.invokestatic 140, 3) := by decide +kernel
theorem dL_walks_198 : decode cL_walks 198 = .ok (.istore 15, 2) := by decide +kernel
theorem dL_walks_200 : decode cL_walks 200 = .ok (.iload 14, 2) := by decide +kernel
theorem dL_walks_202 : decode cL_walks 202 = .ok (.ifCond .lt 7, 3) := by decide +kernel
theorem dL_walks_205 : decode cL_walks 205 = .ok (.iconst 1, 1) := by decide +kernel
theorem dL_walks_206 : decode cL_walks 206 = .ok (.goto 4, 3) := by decide +kernel
theorem dL_walks_209 : decode cL_walks 209 = .ok (.iconst 0, 1) := by decide +kernel
theorem dL_walks_210 : decode cL_walks 210 = .ok (.iload 8, 2) := by decide +kernel
theorem dL_walks_212 : decode cL_walks 212 = .ok (.if_icmp .ne 18, 3) := by decide +kernel
theorem dL_walks_215 : decode cL_walks 215 = .ok (.iload 9, 2) := by decide +kernel
theorem dL_walks_217 : decode cL_walks 217 = .ok (.bipush 62, 2) := by decide +kernel
theorem dL_walks_219 : decode cL_walks 219 = .ok (.if_icmp .gt 11, 3) := by decide +kernel
theorem dL_walks_222 : decode cL_walks 222 = .ok (.aload_n 2, 1) := by decide +kernel
theorem dL_walks_223 : decode cL_walks 223 = .ok (.iconst 0, 1) := by decide +kernel
theorem dL_walks_224 : decode cL_walks 224 = .ok (.iaload, 1) := by decide +kernel
theorem dL_walks_225 : decode cL_walks 225 = .ok (.bipush 62, 2) := by decide +kernel
theorem dL_walks_227 : decode cL_walks 227 = .ok (.if_icmp .le 5, 3) := by decide +kernel
theorem dL_walks_230 : decode cL_walks 230 = .ok (.iconst 0, 1) := by decide +kernel
theorem dL_walks_231 : decode cL_walks 231 = .ok (.ireturn, 1) := by decide +kernel
theorem dL_walks_232 : decode cL_walks 232 = .ok (.iload 8, 2) := by decide +kernel
theorem dL_walks_234 : decode cL_walks 234 = .ok (.ifCond .eq 16, 3) := by decide +kernel
theorem dL_walks_237 : decode cL_walks 237 = .ok (.aload 5, 2) := by decide +kernel
theorem dL_walks_239 : decode cL_walks 239 = .ok (.iload 9, 2) := by decide +kernel
theorem dL_walks_241 : decode cL_walks 241 = .ok (.iload 14, 2) := by decide +kernel
theorem dL_walks_243 : decode cL_walks 243 = .ok (.iastore, 1) := by decide +kernel
theorem dL_walks_244 : decode cL_walks 244 = .ok (.iinc 9 1, 3) := by decide +kernel
theorem dL_walks_247 : decode cL_walks 247 = .ok (.goto 17, 3) := by decide +kernel
theorem dL_walks_250 : decode cL_walks 250 = .ok (.aload_n 2, 1) := by decide +kernel
theorem dL_walks_251 : decode cL_walks 251 = .ok (.iconst 0, 1) := by decide +kernel
theorem dL_walks_252 : decode cL_walks 252 = .ok (.dup2, 1) := by decide +kernel
theorem dL_walks_253 : decode cL_walks 253 = .ok (.iaload, 1) := by decide +kernel
theorem dL_walks_254 : decode cL_walks 254 = .ok (.iconst 1, 1) := by decide +kernel
theorem dL_walks_255 : decode cL_walks 255 = .ok (.iadd, 1) := by decide +kernel
theorem dL_walks_256 : decode cL_walks 256 = .ok (.iastore, 1) := by decide +kernel
theorem dL_walks_257 : decode cL_walks 257 = .ok (.aload_n 2, 1) := by decide +kernel
theorem dL_walks_258 : decode cL_walks 258 = .ok (.aload_n 2, 1) := by decide +kernel
theorem dL_walks_259 : decode cL_walks 259 = .ok (.iconst 0, 1) := by decide +kernel
theorem dL_walks_260 : decode cL_walks 260 = .ok (.iaload, 1) := by decide +kernel
theorem dL_walks_261 : decode cL_walks 261 = .ok (.iload 15, 2) := by decide +kernel
theorem dL_walks_263 : decode cL_walks 263 = .ok (.iastore, 1) := by decide +kernel
theorem dL_walks_264 : decode cL_walks 264 = .ok (.iload 8, 2) := by decide +kernel
theorem dL_walks_266 : decode cL_walks 266 = .ok (.ifCond .eq 17, 3) := by decide +kernel
theorem dL_walks_269 : decode cL_walks 269 = .ok (.iload 15, 2) := by decide +kernel
theorem dL_walks_271 : decode cL_walks 271 = .ok (.aload_n 0, 1) := by decide +kernel
theorem dL_walks_272 : decode cL_walks 272 = .ok (.iload 14, 2) := by decide +kernel
theorem dL_walks_274 : decode cL_walks 274 = .ok (.invokestatic 145, 3) := by decide +kernel
theorem dL_walks_277 : decode cL_walks 277 = .ok (.if_icmp .eq 33, 3) := by decide +kernel
theorem dL_walks_280 : decode cL_walks 280 = .ok (.goto 28, 3) := by decide +kernel
theorem dL_walks_283 : decode cL_walks 283 = .ok (.iload 14, 2) := by decide +kernel
theorem dL_walks_285 : decode cL_walks 285 = .ok (.iconst (-1), 1) := by decide +kernel
theorem dL_walks_286 : decode cL_walks 286 = .ok (.if_icmp .ne 22, 3) := by decide +kernel
theorem dL_walks_289 : decode cL_walks 289 = .ok (.aload_n 2, 1) := by decide +kernel
theorem dL_walks_290 : decode cL_walks 290 = .ok (.iconst 0, 1) := by decide +kernel
theorem dL_walks_291 : decode cL_walks 291 = .ok (.iaload, 1) := by decide +kernel
theorem dL_walks_292 : decode cL_walks 292 = .ok (.iconst 1, 1) := by decide +kernel
theorem dL_walks_293 : decode cL_walks 293 = .ok (.if_icmp .le 17, 3) := by decide +kernel
theorem dL_walks_296 : decode cL_walks 296 = .ok (.aload_n 2, 1) := by decide +kernel
theorem dL_walks_297 : decode cL_walks 297 = .ok (.aload_n 2, 1) := by decide +kernel
theorem dL_walks_298 : decode cL_walks 298 = .ok (.iconst 0, 1) := by decide +kernel
theorem dL_walks_299 : decode cL_walks 299 = .ok (.iaload, 1) := by decide +kernel
theorem dL_walks_300 : decode cL_walks 300 = .ok (.iconst 1, 1) := by decide +kernel
theorem dL_walks_301 : decode cL_walks 301 = .ok (.isub, 1) := by decide +kernel
theorem dL_walks_302 : decode cL_walks 302 = .ok (.iaload, 1) := by decide +kernel
theorem dL_walks_303 : decode cL_walks 303 = .ok (.iload 15, 2) := by decide +kernel
theorem dL_walks_305 : decode cL_walks 305 = .ok (.if_icmp .lt 5, 3) := by decide +kernel
theorem dL_walks_308 : decode cL_walks 308 = .ok (.iconst 0, 1) := by decide +kernel
theorem dL_walks_309 : decode cL_walks 309 = .ok (.ireturn, 1) := by decide +kernel
theorem dL_walks_310 : decode cL_walks 310 = .ok (.iinc 13 1, 3) := by decide +kernel
theorem dL_walks_313 : decode cL_walks 313 = .ok (.goto (-140), 3) := by decide +kernel
theorem dL_walks_316 : decode cL_walks 316 = .ok (.iinc 10 1, 3) := by decide +kernel
theorem dL_walks_319 : decode cL_walks 319 = .ok (.goto (-260), 3) := by decide +kernel
theorem dL_walks_322 : decode cL_walks 322 = .ok (.iload 8, 2) := by decide +kernel
theorem dL_walks_324 : decode cL_walks 324 = .ok (.ifCond .ne 6, 3) := by decide +kernel
theorem dL_walks_327 : decode cL_walks 327 = .ok (.iload 7, 2) := by decide +kernel
theorem dL_walks_329 : decode cL_walks 329 = .ok (.ireturn, 1) := by decide +kernel
theorem dL_walks_330 : decode cL_walks 330 = .ok (.iconst 0, 1) := by decide +kernel
theorem dL_walks_331 : decode cL_walks 331 = .ok (.istore 10, 2) := by decide +kernel
theorem dL_walks_333 : decode cL_walks 333 = .ok (.iload 10, 2) := by decide +kernel
theorem dL_walks_335 : decode cL_walks 335 = .ok (.iload 9, 2) := by decide +kernel
theorem dL_walks_337 : decode cL_walks 337 = .ok (.if_icmp .ge 19, 3) := by decide +kernel
theorem dL_walks_340 : decode cL_walks 340 = .ok (.aload 4, 2) := by decide +kernel
theorem dL_walks_342 : decode cL_walks 342 = .ok (.iload 10, 2) := by decide +kernel
theorem dL_walks_344 : decode cL_walks 344 = .ok (.aload 5, 2) := by decide +kernel
theorem dL_walks_346 : decode cL_walks 346 = .ok (.iload 10, 2) := by decide +kernel
theorem dL_walks_348 : decode cL_walks 348 = .ok (.iaload, 1) := by decide +kernel
theorem dL_walks_349 : decode cL_walks 349 = .ok (.iastore, 1) := by decide +kernel
theorem dL_walks_350 : decode cL_walks 350 = .ok (.iinc 10 1, 3) := by decide +kernel
theorem dL_walks_353 : decode cL_walks 353 = .ok (.goto (-20), 3) := by decide +kernel
theorem dL_walks_356 : decode cL_walks 356 = .ok (.iload 9, 2) := by decide +kernel
theorem dL_walks_358 : decode cL_walks 358 = .ok (.istore 6, 2) := by decide +kernel
theorem dL_walks_360 : decode cL_walks 360 = .ok (.iinc 7 1, 3) := by decide +kernel
theorem dL_walks_363 : decode cL_walks 363 = .ok (.goto (-336), 3) := by decide +kernel
theorem dL_walks_366 : decode cL_walks 366 = .ok (.iconst 0, 1) := by decide +kernel
theorem dL_walks_367 : decode cL_walks 367 = .ok (.ireturn, 1) := by decide +kernel
theorem dL_holds_0 : decode cL_holds 0 = .ok (.aload_n 0, 1) := by decide +kernel
theorem dL_holds_1 : decode cL_holds 1 = .ok (.iload_n 1, 1) := by decide +kernel
theorem dL_holds_2 : decode cL_holds 2 = .ok (.aload 5, 2) := by decide +kernel
theorem dL_holds_4 : decode cL_holds 4 = .ok (.aload 6, 2) := by decide +kernel
theorem dL_holds_6 : decode cL_holds 6 = .ok (.invokestatic 148, 3) := by decide +kernel
theorem dL_holds_9 : decode cL_holds 9 = .ok (.istore 7, 2) := by decide +kernel
theorem dL_holds_11 : decode cL_holds 11 = .ok (.iconst 0, 1) := by decide +kernel
theorem dL_holds_12 : decode cL_holds 12 = .ok (.istore 8, 2) := by decide +kernel
theorem dL_holds_14 : decode cL_holds 14 = .ok (.iconst 0, 1) := by decide +kernel
theorem dL_holds_15 : decode cL_holds 15 = .ok (.istore 9, 2) := by decide +kernel
theorem dL_holds_17 : decode cL_holds 17 = .ok (.iload 9, 2) := by decide +kernel
theorem dL_holds_19 : decode cL_holds 19 = .ok (.bipush 32, 2) := by decide +kernel
theorem dL_holds_21 : decode cL_holds 21 = .ok (.if_icmp .ge 47, 3) := by decide +kernel
theorem dL_holds_24 : decode cL_holds 24 = .ok (.aload_n 3, 1) := by decide +kernel
theorem dL_holds_25 : decode cL_holds 25 = .ok (.iload 4, 2) := by decide +kernel
theorem dL_holds_27 : decode cL_holds 27 = .ok (.iload 9, 2) := by decide +kernel
theorem dL_holds_29 : decode cL_holds 29 = .ok (.invokestatic 152, 3) := by decide +kernel
theorem dL_holds_32 : decode cL_holds 32 = .ok (.ifCond .le 30, 3) := by decide +kernel
theorem dL_holds_35 : decode cL_holds 35 = .ok (.iinc 8 1, 3) := by decide +kernel
theorem dL_holds_38 : decode cL_holds 38 = .ok (.iload 8, 2) := by decide +kernel
theorem dL_holds_40 : decode cL_holds 40 = .ok (.aload 5, 2) := by decide +kernel
theorem dL_holds_42 : decode cL_holds 42 = .ok (.iconst 0, 1) := by decide +kernel
theorem dL_holds_43 : decode cL_holds 43 = .ok (.iaload, 1) := by decide +kernel
theorem dL_holds_44 : decode cL_holds 44 = .ok (.if_icmp .gt 16, 3) := by decide +kernel
theorem dL_holds_47 : decode cL_holds 47 = .ok (.aload 5, 2) := by decide +kernel
theorem dL_holds_49 : decode cL_holds 49 = .ok (.iload 8, 2) := by decide +kernel
theorem dL_holds_51 : decode cL_holds 51 = .ok (.iaload, 1) := by decide +kernel
theorem dL_holds_52 : decode cL_holds 52 = .ok (.iload 9, 2) := by decide +kernel
theorem dL_holds_54 : decode cL_holds 54 = .ok (.invokestatic 156, 3) := by decide +kernel
theorem dL_holds_57 : decode cL_holds 57 = .ok (.if_icmp .eq 5, 3) := by decide +kernel
theorem dL_holds_60 : decode cL_holds 60 = .ok (.iconst 0, 1) := by decide +kernel
theorem dL_holds_61 : decode cL_holds 61 = .ok (.ireturn, 1) := by decide +kernel
theorem dL_holds_62 : decode cL_holds 62 = .ok (.iinc 9 1, 3) := by decide +kernel
theorem dL_holds_65 : decode cL_holds 65 = .ok (.goto (-48), 3) := by decide +kernel
theorem dL_holds_68 : decode cL_holds 68 = .ok (.iload 7, 2) := by decide +kernel
theorem dL_holds_70 : decode cL_holds 70 = .ok (.ifCond .le 26, 3) := by decide +kernel
theorem dL_holds_73 : decode cL_holds 73 = .ok (.iload_n 2, 1) := by decide +kernel
theorem dL_holds_74 : decode cL_holds 74 = .ok (.ifCond .lt 9, 3) := by decide +kernel
theorem dL_holds_77 : decode cL_holds 77 = .ok (.iload 7, 2) := by decide +kernel
theorem dL_holds_79 : decode cL_holds 79 = .ok (.iload_n 2, 1) := by decide +kernel
theorem dL_holds_80 : decode cL_holds 80 = .ok (.if_icmp .ne 16, 3) := by decide +kernel
theorem dL_holds_83 : decode cL_holds 83 = .ok (.iload 8, 2) := by decide +kernel
theorem dL_holds_85 : decode cL_holds 85 = .ok (.aload 5, 2) := by decide +kernel
theorem dL_holds_87 : decode cL_holds 87 = .ok (.iconst 0, 1) := by decide +kernel
theorem dL_holds_88 : decode cL_holds 88 = .ok (.iaload, 1) := by decide +kernel
theorem dL_holds_89 : decode cL_holds 89 = .ok (.if_icmp .ne 7, 3) := by decide +kernel
theorem dL_holds_92 : decode cL_holds 92 = .ok (.iconst 1, 1) := by decide +kernel
theorem dL_holds_93 : decode cL_holds 93 = .ok (.goto 4, 3) := by decide +kernel
theorem dL_holds_96 : decode cL_holds 96 = .ok (.iconst 0, 1) := by decide +kernel
theorem dL_holds_97 : decode cL_holds 97 = .ok (.ireturn, 1) := by decide +kernel
theorem dL_shows_0 : decode cL_shows 0 = .ok (.aload_n 0, 1) := by decide +kernel
theorem dL_shows_1 : decode cL_shows 1 = .ok (.aload_n 0, 1) := by decide +kernel
theorem dL_shows_2 : decode cL_shows 2 = .ok (.iload_n 1, 1) := by decide +kernel
theorem dL_shows_3 : decode cL_shows 3 = .ok (.invokestatic 131, 3) := by decide +kernel
theorem dL_shows_6 : decode cL_shows 6 = .ok (.aload_n 0, 1) := by decide +kernel
theorem dL_shows_7 : decode cL_shows 7 = .ok (.iload_n 1, 1) := by decide +kernel
theorem dL_shows_8 : decode cL_shows 8 = .ok (.invokestatic 159, 3) := by decide +kernel
theorem dL_shows_11 : decode cL_shows 11 = .ok (.aload_n 2, 1) := by decide +kernel
theorem dL_shows_12 : decode cL_shows 12 = .ok (.iload_n 3, 1) := by decide +kernel
theorem dL_shows_13 : decode cL_shows 13 = .ok (.aload 4, 2) := by decide +kernel
theorem dL_shows_15 : decode cL_shows 15 = .ok (.aload 5, 2) := by decide +kernel
theorem dL_shows_17 : decode cL_shows 17 = .ok (.invokestatic 161, 3) := by decide +kernel
theorem dL_shows_20 : decode cL_shows 20 = .ok (.ifCond .eq 15, 3) := by decide +kernel
theorem dL_shows_23 : decode cL_shows 23 = .ok (.aload_n 0, 1) := by decide +kernel
theorem dL_shows_24 : decode cL_shows 24 = .ok (.iload_n 1, 1) := by decide +kernel
theorem dL_shows_25 : decode cL_shows 25 = .ok (.invokestatic 136, 3) := by decide +kernel
theorem dL_shows_28 : decode cL_shows 28 = .ok (.aload 4, 2) := by decide +kernel
theorem dL_shows_30 : decode cL_shows 30 = .ok (.iconst 0, 1) := by decide +kernel
theorem dL_shows_31 : decode cL_shows 31 = .ok (.iaload, 1) := by decide +kernel
theorem dL_shows_32 : decode cL_shows 32 = .ok (.if_icmp .eq 5, 3) := by decide +kernel
theorem dL_shows_35 : decode cL_shows 35 = .ok (.iconst 0, 1) := by decide +kernel
theorem dL_shows_36 : decode cL_shows 36 = .ok (.ireturn, 1) := by decide +kernel
theorem dL_shows_37 : decode cL_shows 37 = .ok (.iload 6, 2) := by decide +kernel
theorem dL_shows_39 : decode cL_shows 39 = .ok (.bipush 106, 2) := by decide +kernel
theorem dL_shows_41 : decode cL_shows 41 = .ok (.invokestatic 165, 3) := by decide +kernel
theorem dL_shows_44 : decode cL_shows 44 = .ok (.iconst 2, 1) := by decide +kernel
theorem dL_shows_45 : decode cL_shows 45 = .ok (.isub, 1) := by decide +kernel
theorem dL_shows_46 : decode cL_shows 46 = .ok (.istore 7, 2) := by decide +kernel
theorem dL_shows_48 : decode cL_shows 48 = .ok (.iconst (-1), 1) := by decide +kernel
theorem dL_shows_49 : decode cL_shows 49 = .ok (.istore 8, 2) := by decide +kernel
theorem dL_shows_51 : decode cL_shows 51 = .ok (.iconst 0, 1) := by decide +kernel
theorem dL_shows_52 : decode cL_shows 52 = .ok (.istore 9, 2) := by decide +kernel
theorem dL_shows_54 : decode cL_shows 54 = .ok (.aload 4, 2) := by decide +kernel
theorem dL_shows_56 : decode cL_shows 56 = .ok (.iconst 0, 1) := by decide +kernel
theorem dL_shows_57 : decode cL_shows 57 = .ok (.iaload, 1) := by decide +kernel
theorem dL_shows_58 : decode cL_shows 58 = .ok (.istore 10, 2) := by decide +kernel
theorem dL_shows_60 : decode cL_shows 60 = .ok (.iload 10, 2) := by decide +kernel
theorem dL_shows_62 : decode cL_shows 62 = .ok (.ifCond .le 51, 3) := by decide +kernel
theorem dL_shows_65 : decode cL_shows 65 = .ok (.aload 4, 2) := by decide +kernel
theorem dL_shows_67 : decode cL_shows 67 = .ok (.iload 10, 2) := by decide +kernel
theorem dL_shows_69 : decode cL_shows 69 = .ok (.iaload, 1) := by decide +kernel
theorem dL_shows_70 : decode cL_shows 70 = .ok (.iload 7, 2) := by decide +kernel
theorem dL_shows_72 : decode cL_shows 72 = .ok (.if_icmp .lt 11, 3) := by decide +kernel
theorem dL_shows_75 : decode cL_shows 75 = .ok (.aload 4, 2) := by decide +kernel
theorem dL_shows_77 : decode cL_shows 77 = .ok (.iload 10, 2) := by decide +kernel
theorem dL_shows_79 : decode cL_shows 79 = .ok (.iaload, 1) := by decide +kernel
theorem dL_shows_80 : decode cL_shows 80 = .ok (.goto 5, 3) := by decide +kernel
theorem dL_shows_83 : decode cL_shows 83 = .ok (.iload 8, 2) := by decide +kernel
theorem dL_shows_85 : decode cL_shows 85 = .ok (.istore 8, 2) := by decide +kernel
theorem dL_shows_87 : decode cL_shows 87 = .ok (.iload 9, 2) := by decide +kernel
theorem dL_shows_89 : decode cL_shows 89 = .ok (.aload 4, 2) := by decide +kernel
theorem dL_shows_91 : decode cL_shows 91 = .ok (.iload 10, 2) := by decide +kernel
theorem dL_shows_93 : decode cL_shows 93 = .ok (.iaload, 1) := by decide +kernel
theorem dL_shows_94 : decode cL_shows 94 = .ok (.iload 7, 2) := by decide +kernel
theorem dL_shows_96 : decode cL_shows 96 = .ok (.if_icmp .ge 7, 3) := by decide +kernel
theorem dL_shows_99 : decode cL_shows 99 = .ok (.iconst 1, 1) := by decide +kernel
theorem dL_shows_100 : decode cL_shows 100 = .ok (.goto 4, 3) := by decide +kernel
theorem dL_shows_103 : decode cL_shows 103 = .ok (.iconst 0, 1) := by decide +kernel
theorem dL_shows_104 : decode cL_shows 104 = .ok (.iadd, 1) := by decide +kernel
theorem dL_shows_105 : decode cL_shows 105 = .ok (.istore 9, 2) := by decide +kernel
theorem dL_shows_107 : decode cL_shows 107 = .ok (.iinc 10 (-1), 3) := by decide +kernel
theorem dL_shows_110 : decode cL_shows 110 = .ok (.goto (-50), 3) := by decide +kernel
theorem dL_shows_113 : decode cL_shows 113 = .ok (.aload_n 0, 1) := by decide +kernel
theorem dL_shows_114 : decode cL_shows 114 = .ok (.iload_n 1, 1) := by decide +kernel
theorem dL_shows_115 : decode cL_shows 115 = .ok (.iload 7, 2) := by decide +kernel
theorem dL_shows_117 : decode cL_shows 117 = .ok (.invokestatic 168, 3) := by decide +kernel
theorem dL_shows_120 : decode cL_shows 120 = .ok (.iload 8, 2) := by decide +kernel
theorem dL_shows_122 : decode cL_shows 122 = .ok (.if_icmp .ne 65, 3) := by decide +kernel
theorem dL_shows_125 : decode cL_shows 125 = .ok (.aload_n 0, 1) := by decide +kernel
theorem dL_shows_126 : decode cL_shows 126 = .ok (.iload_n 1, 1) := by decide +kernel
theorem dL_shows_127 : decode cL_shows 127 = .ok (.iload 7, 2) := by decide +kernel
theorem dL_shows_129 : decode cL_shows 129 = .ok (.invokestatic 170, 3) := by decide +kernel
theorem dL_shows_132 : decode cL_shows 132 = .ok (.iload 9, 2) := by decide +kernel
theorem dL_shows_134 : decode cL_shows 134 = .ok (.if_icmp .ne 53, 3) := by decide +kernel
theorem dL_shows_137 : decode cL_shows 137 = .ok (.aload_n 0, 1) := by decide +kernel
theorem dL_shows_138 : decode cL_shows 138 = .ok (.iload_n 1, 1) := by decide +kernel
theorem dL_shows_139 : decode cL_shows 139 = .ok (.ldc 172, 2) := by decide +kernel
theorem dL_shows_141 : decode cL_shows 141 = .ok (.invokestatic 168, 3) := by decide +kernel
theorem dL_shows_144 : decode cL_shows 144 = .ok (.aload 4, 2) := by decide +kernel
theorem dL_shows_146 : decode cL_shows 146 = .ok (.iconst 0, 1) := by decide +kernel
theorem dL_shows_147 : decode cL_shows 147 = .ok (.iaload, 1) := by decide +kernel
theorem dL_shows_148 : decode cL_shows 148 = .ok (.ifCond .ne 7, 3) := by decide +kernel
theorem dL_shows_151 : decode cL_shows 151 = .ok (.iconst (-1), 1) := by decide +kernel
theorem dL_shows_152 : decode cL_shows 152 = .ok (.goto 7, 3) := by decide +kernel
theorem dL_shows_155 : decode cL_shows 155 = .ok (.aload 4, 2) := by decide +kernel
theorem dL_shows_157 : decode cL_shows 157 = .ok (.iconst 1, 1) := by decide +kernel
theorem dL_shows_158 : decode cL_shows 158 = .ok (.iaload, 1) := by decide +kernel
theorem dL_shows_159 : decode cL_shows 159 = .ok (.if_icmp .ne 28, 3) := by decide +kernel
theorem dL_shows_162 : decode cL_shows 162 = .ok (.aload_n 0, 1) := by decide +kernel
theorem dL_shows_163 : decode cL_shows 163 = .ok (.iload_n 1, 1) := by decide +kernel
theorem dL_shows_164 : decode cL_shows 164 = .ok (.ldc 9, 2) := by decide +kernel
theorem dL_shows_166 : decode cL_shows 166 = .ok (.invokestatic 168, 3) := by decide +kernel
theorem dL_shows_169 : decode cL_shows 169 = .ok (.iconst (-1), 1) := by decide +kernel
theorem dL_shows_170 : decode cL_shows 170 = .ok (.if_icmp .ne 17, 3) := by decide +kernel
theorem dL_shows_173 : decode cL_shows 173 = .ok (.aload_n 0, 1) := by decide +kernel
theorem dL_shows_174 : decode cL_shows 174 = .ok (.iload_n 1, 1) := by decide +kernel
theorem dL_shows_175 : decode cL_shows 175 = .ok (.ldc 9, 2) := by decide +kernel
theorem dL_shows_177 : decode cL_shows 177 = .ok (.invokestatic 170, 3) := by decide +kernel
theorem dL_shows_180 : decode cL_shows 180 = .ok (.aload 4, 2) := by decide +kernel
theorem dL_shows_182 : decode cL_shows 182 = .ok (.iconst 0, 1) := by decide +kernel
theorem dL_shows_183 : decode cL_shows 183 = .ok (.iaload, 1) := by decide +kernel
theorem dL_shows_184 : decode cL_shows 184 = .ok (.if_icmp .eq 5, 3) := by decide +kernel
theorem dL_shows_187 : decode cL_shows 187 = .ok (.iconst 0, 1) := by decide +kernel
theorem dL_shows_188 : decode cL_shows 188 = .ok (.ireturn, 1) := by decide +kernel
theorem dL_shows_189 : decode cL_shows 189 = .ok (.iconst 0, 1) := by decide +kernel
theorem dL_shows_190 : decode cL_shows 190 = .ok (.istore 10, 2) := by decide +kernel
theorem dL_shows_192 : decode cL_shows 192 = .ok (.iload 10, 2) := by decide +kernel
theorem dL_shows_194 : decode cL_shows 194 = .ok (.bipush 32, 2) := by decide +kernel
theorem dL_shows_196 : decode cL_shows 196 = .ok (.if_icmp .ge 67, 3) := by decide +kernel
theorem dL_shows_199 : decode cL_shows 199 = .ok (.aload_n 2, 1) := by decide +kernel
theorem dL_shows_200 : decode cL_shows 200 = .ok (.iload_n 3, 1) := by decide +kernel
theorem dL_shows_201 : decode cL_shows 201 = .ok (.iload 10, 2) := by decide +kernel
theorem dL_shows_203 : decode cL_shows 203 = .ok (.invokestatic 152, 3) := by decide +kernel
theorem dL_shows_206 : decode cL_shows 206 = .ok (.istore 11, 2) := by decide +kernel
theorem dL_shows_208 : decode cL_shows 208 = .ok (.aload_n 0, 1) := by decide +kernel
theorem dL_shows_209 : decode cL_shows 209 = .ok (.iload_n 1, 1) := by decide +kernel
theorem dL_shows_210 : decode cL_shows 210 = .ok (.iload 10, 2) := by decide +kernel
theorem dL_shows_212 : decode cL_shows 212 = .ok (.invokestatic 156, 3) := by decide +kernel
theorem dL_shows_215 : decode cL_shows 215 = .ok (.invokestatic 173, 3) := by decide +kernel
theorem dL_shows_218 : decode cL_shows 218 = .ok (.iload 11, 2) := by decide +kernel
theorem dL_shows_220 : decode cL_shows 220 = .ok (.ifCond .le 13, 3) := by decide +kernel
theorem dL_shows_223 : decode cL_shows 223 = .ok (.iload 11, 2) := by decide +kernel
theorem dL_shows_225 : decode cL_shows 225 = .ok (.iload 10, 2) := by decide +kernel
theorem dL_shows_227 : decode cL_shows 227 = .ok (.invokestatic 175, 3) := by decide +kernel
theorem dL_shows_230 : decode cL_shows 230 = .ok (.goto 5, 3) := by decide +kernel
theorem dL_shows_233 : decode cL_shows 233 = .ok (.ldc 37, 2) := by decide +kernel
theorem dL_shows_235 : decode cL_shows 235 = .ok (.if_icmp .ne 20, 3) := by decide +kernel
theorem dL_shows_238 : decode cL_shows 238 = .ok (.aload_n 0, 1) := by decide +kernel
theorem dL_shows_239 : decode cL_shows 239 = .ok (.iload_n 1, 1) := by decide +kernel
theorem dL_shows_240 : decode cL_shows 240 = .ok (.iload 10, 2) := by decide +kernel
theorem dL_shows_242 : decode cL_shows 242 = .ok (.invokestatic 156, 3) := by decide +kernel
theorem dL_shows_245 : decode cL_shows 245 = .ok (.iconst 1, 1) := by decide +kernel
theorem dL_shows_246 : decode cL_shows 246 = .ok (.isub, 1) := by decide +kernel
theorem dL_shows_247 : decode cL_shows 247 = .ok (.invokestatic 173, 3) := by decide +kernel
theorem dL_shows_250 : decode cL_shows 250 = .ok (.ldc 37, 2) := by decide +kernel
theorem dL_shows_252 : decode cL_shows 252 = .ok (.if_icmp .eq 5, 3) := by decide +kernel
theorem dL_shows_255 : decode cL_shows 255 = .ok (.iconst 0, 1) := by decide +kernel
theorem dL_shows_256 : decode cL_shows 256 = .ok (.ireturn, 1) := by decide +kernel
theorem dL_shows_257 : decode cL_shows 257 = .ok (.iinc 10 1, 3) := by decide +kernel
theorem dL_shows_260 : decode cL_shows 260 = .ok (.goto (-68), 3) := by decide +kernel
theorem dL_shows_263 : decode cL_shows 263 = .ok (.aload_n 0, 1) := by decide +kernel
theorem dL_shows_264 : decode cL_shows 264 = .ok (.iload_n 1, 1) := by decide +kernel
theorem dL_shows_265 : decode cL_shows 265 = .ok (.bipush 100, 2) := by decide +kernel
theorem dL_shows_267 : decode cL_shows 267 = .ok (.invokestatic 173, 3) := by decide +kernel
theorem dL_shows_270 : decode cL_shows 270 = .ok (.ldc 30, 2) := by decide +kernel
theorem dL_shows_272 : decode cL_shows 272 = .ok (.if_icmp .ne 18, 3) := by decide +kernel
theorem dL_shows_275 : decode cL_shows 275 = .ok (.aload_n 0, 1) := by decide +kernel
theorem dL_shows_276 : decode cL_shows 276 = .ok (.iload_n 1, 1) := by decide +kernel
theorem dL_shows_277 : decode cL_shows 277 = .ok (.iconst (-1), 1) := by decide +kernel
theorem dL_shows_278 : decode cL_shows 278 = .ok (.invokestatic 173, 3) := by decide +kernel
theorem dL_shows_281 : decode cL_shows 281 = .ok (.ldc 30, 2) := by decide +kernel
theorem dL_shows_283 : decode cL_shows 283 = .ok (.if_icmp .ne 7, 3) := by decide +kernel
theorem dL_shows_286 : decode cL_shows 286 = .ok (.iconst 1, 1) := by decide +kernel
theorem dL_shows_287 : decode cL_shows 287 = .ok (.goto 4, 3) := by decide +kernel
theorem dL_shows_290 : decode cL_shows 290 = .ok (.iconst 0, 1) := by decide +kernel
theorem dL_shows_291 : decode cL_shows 291 = .ok (.ireturn, 1) := by decide +kernel
theorem dL_bits_0 : decode cL_bits 0 = .ok (.iconst 0, 1) := by decide +kernel
theorem dL_bits_1 : decode cL_bits 1 = .ok (.istore_n 2, 1) := by decide +kernel
theorem dL_bits_2 : decode cL_bits 2 = .ok (.iconst 0, 1) := by decide +kernel
theorem dL_bits_3 : decode cL_bits 3 = .ok (.istore_n 3, 1) := by decide +kernel
theorem dL_bits_4 : decode cL_bits 4 = .ok (.iload_n 3, 1) := by decide +kernel
theorem dL_bits_5 : decode cL_bits 5 = .ok (.bipush 64, 2) := by decide +kernel
theorem dL_bits_7 : decode cL_bits 7 = .ok (.if_icmp .ge 18, 3) := by decide +kernel
theorem dL_bits_10 : decode cL_bits 10 = .ok (.iload_n 2, 1) := by decide +kernel
theorem dL_bits_11 : decode cL_bits 11 = .ok (.lload_n 0, 1) := by decide +kernel
theorem dL_bits_12 : decode cL_bits 12 = .ok (.iload_n 3, 1) := by decide +kernel
theorem dL_bits_13 : decode cL_bits 13 = .ok (.lshr, 1) := by decide +kernel
theorem dL_bits_14 : decode cL_bits 14 = .ok (.lconst 1, 1) := by decide +kernel
theorem dL_bits_15 : decode cL_bits 15 = .ok (.land, 1) := by decide +kernel
theorem dL_bits_16 : decode cL_bits 16 = .ok (.l2i, 1) := by decide +kernel
theorem dL_bits_17 : decode cL_bits 17 = .ok (.iadd, 1) := by decide +kernel
theorem dL_bits_18 : decode cL_bits 18 = .ok (.istore_n 2, 1) := by decide +kernel
theorem dL_bits_19 : decode cL_bits 19 = .ok (.iinc 3 1, 3) := by decide +kernel
theorem dL_bits_22 : decode cL_bits 22 = .ok (.goto (-18), 3) := by decide +kernel
theorem dL_bits_25 : decode cL_bits 25 = .ok (.iload_n 2, 1) := by decide +kernel
theorem dL_bits_26 : decode cL_bits 26 = .ok (.ireturn, 1) := by decide +kernel
theorem dL_shares_0 : decode cL_shares 0 = .ok (.bipush 64, 2) := by decide +kernel
theorem dL_shares_2 : decode cL_shares 2 = .ok (.newarray .int, 2) := by decide +kernel
theorem dL_shares_4 : decode cL_shares 4 = .ok (.astore_n 3, 1) := by decide +kernel
theorem dL_shares_5 : decode cL_shares 5 = .ok (.bipush 12, 2) := by decide +kernel
theorem dL_shares_7 : decode cL_shares 7 = .ok (.newarray .long, 2) := by decide +kernel
theorem dL_shares_9 : decode cL_shares 9 = .ok (.astore 4, 2) := by decide +kernel
theorem dL_shares_11 : decode cL_shares 11 = .ok (.bipush 12, 2) := by decide +kernel
theorem dL_shares_13 : decode cL_shares 13 = .ok (.newarray .long, 2) := by decide +kernel
theorem dL_shares_15 : decode cL_shares 15 = .ok (.astore 5, 2) := by decide +kernel
theorem dL_shares_17 : decode cL_shares 17 = .ok (.aload_n 0, 1) := by decide +kernel
theorem dL_shares_18 : decode cL_shares 18 = .ok (.aload_n 0, 1) := by decide +kernel
theorem dL_shares_19 : decode cL_shares 19 = .ok (.iload_n 1, 1) := by decide +kernel
theorem dL_shares_20 : decode cL_shares 20 = .ok (.invokestatic 131, 3) := by decide +kernel
theorem dL_shares_23 : decode cL_shares 23 = .ok (.aload_n 3, 1) := by decide +kernel
theorem dL_shares_24 : decode cL_shares 24 = .ok (.aload 4, 2) := by decide +kernel
theorem dL_shares_26 : decode cL_shares 26 = .ok (.invokestatic 148, 3) := by decide +kernel
theorem dL_shares_29 : decode cL_shares 29 = .ok (.ifCond .eq 18, 3) := by decide +kernel
theorem dL_shares_32 : decode cL_shares 32 = .ok (.aload_n 0, 1) := by decide +kernel
theorem dL_shares_33 : decode cL_shares 33 = .ok (.aload_n 0, 1) := by decide +kernel
theorem dL_shares_34 : decode cL_shares 34 = .ok (.iload_n 2, 1) := by decide +kernel
theorem dL_shares_35 : decode cL_shares 35 = .ok (.invokestatic 131, 3) := by decide +kernel
theorem dL_shares_38 : decode cL_shares 38 = .ok (.aload_n 3, 1) := by decide +kernel
theorem dL_shares_39 : decode cL_shares 39 = .ok (.aload 5, 2) := by decide +kernel
theorem dL_shares_41 : decode cL_shares 41 = .ok (.invokestatic 148, 3) := by decide +kernel
theorem dL_shares_44 : decode cL_shares 44 = .ok (.ifCond .ne 5, 3) := by decide +kernel
theorem dL_shares_47 : decode cL_shares 47 = .ok (.iconst 0, 1) := by decide +kernel
theorem dL_shares_48 : decode cL_shares 48 = .ok (.ireturn, 1) := by decide +kernel
theorem dL_shares_49 : decode cL_shares 49 = .ok (.iconst 0, 1) := by decide +kernel
theorem dL_shares_50 : decode cL_shares 50 = .ok (.istore 6, 2) := by decide +kernel
theorem dL_shares_52 : decode cL_shares 52 = .ok (.iconst 0, 1) := by decide +kernel
theorem dL_shares_53 : decode cL_shares 53 = .ok (.istore 7, 2) := by decide +kernel
theorem dL_shares_55 : decode cL_shares 55 = .ok (.iload 7, 2) := by decide +kernel
theorem dL_shares_57 : decode cL_shares 57 = .ok (.bipush 12, 2) := by decide +kernel
theorem dL_shares_59 : decode cL_shares 59 = .ok (.if_icmp .ge 28, 3) := by decide +kernel
theorem dL_shares_62 : decode cL_shares 62 = .ok (.iload 6, 2) := by decide +kernel
theorem dL_shares_64 : decode cL_shares 64 = .ok (.aload 4, 2) := by decide +kernel
theorem dL_shares_66 : decode cL_shares 66 = .ok (.iload 7, 2) := by decide +kernel
theorem dL_shares_68 : decode cL_shares 68 = .ok (.laload, 1) := by decide +kernel
theorem dL_shares_69 : decode cL_shares 69 = .ok (.aload 5, 2) := by decide +kernel
theorem dL_shares_71 : decode cL_shares 71 = .ok (.iload 7, 2) := by decide +kernel
theorem dL_shares_73 : decode cL_shares 73 = .ok (.laload, 1) := by decide +kernel
theorem dL_shares_74 : decode cL_shares 74 = .ok (.land, 1) := by decide +kernel
theorem dL_shares_75 : decode cL_shares 75 = .ok (.invokestatic 178, 3) := by decide +kernel
theorem dL_shares_78 : decode cL_shares 78 = .ok (.iadd, 1) := by decide +kernel
theorem dL_shares_79 : decode cL_shares 79 = .ok (.istore 6, 2) := by decide +kernel
theorem dL_shares_81 : decode cL_shares 81 = .ok (.iinc 7 1, 3) := by decide +kernel
theorem dL_shares_84 : decode cL_shares 84 = .ok (.goto (-29), 3) := by decide +kernel
theorem dL_shares_87 : decode cL_shares 87 = .ok (.aload_n 0, 1) := by decide +kernel
theorem dL_shares_88 : decode cL_shares 88 = .ok (.iload_n 1, 1) := by decide +kernel
theorem dL_shares_89 : decode cL_shares 89 = .ok (.iload_n 2, 1) := by decide +kernel
theorem dL_shares_90 : decode cL_shares 90 = .ok (.invokestatic 182, 3) := by decide +kernel
theorem dL_shares_93 : decode cL_shares 93 = .ok (.iload 6, 2) := by decide +kernel
theorem dL_shares_95 : decode cL_shares 95 = .ok (.if_icmp .ne 18, 3) := by decide +kernel
theorem dL_shares_98 : decode cL_shares 98 = .ok (.aload_n 0, 1) := by decide +kernel
theorem dL_shares_99 : decode cL_shares 99 = .ok (.iload_n 2, 1) := by decide +kernel
theorem dL_shares_100 : decode cL_shares 100 = .ok (.iload_n 1, 1) := by decide +kernel
theorem dL_shares_101 : decode cL_shares 101 = .ok (.invokestatic 182, 3) := by decide +kernel
theorem dL_shares_104 : decode cL_shares 104 = .ok (.iload 6, 2) := by decide +kernel
theorem dL_shares_106 : decode cL_shares 106 = .ok (.if_icmp .ne 7, 3) := by decide +kernel
theorem dL_shares_109 : decode cL_shares 109 = .ok (.iconst 1, 1) := by decide +kernel
theorem dL_shares_110 : decode cL_shares 110 = .ok (.goto 4, 3) := by decide +kernel
theorem dL_shares_113 : decode cL_shares 113 = .ok (.iconst 0, 1) := by decide +kernel
theorem dL_shares_114 : decode cL_shares 114 = .ok (.ireturn, 1) := by decide +kernel
theorem dL_slots_0 : decode cL_slots 0 = .ok (.iconst 0, 1) := by decide +kernel
theorem dL_slots_1 : decode cL_slots 1 = .ok (.istore 6, 2) := by decide +kernel
theorem dL_slots_3 : decode cL_slots 3 = .ok (.iload 6, 2) := by decide +kernel
theorem dL_slots_5 : decode cL_slots 5 = .ok (.iconst 2, 1) := by decide +kernel
theorem dL_slots_6 : decode cL_slots 6 = .ok (.if_icmp .ge 162, 3) := by decide +kernel
theorem dL_slots_9 : decode cL_slots 9 = .ok (.ldc2_w 185, 3) := by decide +kernel
theorem dL_slots_12 : decode cL_slots 12 = .ok (.aload_n 0, 1) := by decide +kernel
theorem dL_slots_13 : decode cL_slots 13 = .ok (.iload 6, 2) := by decide +kernel
theorem dL_slots_15 : decode cL_slots 15 = .ok (.iconst 0, 1) := by decide +kernel
theorem dL_slots_16 : decode cL_slots 16 = .ok (.invokestatic 126, 3) := by decide +kernel
theorem dL_slots_19 : decode cL_slots 19 = .ok (.lmul, 1) := by decide +kernel
theorem dL_slots_20 : decode cL_slots 20 = .ok (.ldc2_w 187, 3) := by decide +kernel
theorem dL_slots_23 : decode cL_slots 23 = .ok (.aload_n 0, 1) := by decide +kernel
theorem dL_slots_24 : decode cL_slots 24 = .ok (.iload 6, 2) := by decide +kernel
theorem dL_slots_26 : decode cL_slots 26 = .ok (.iconst 1, 1) := by decide +kernel
theorem dL_slots_27 : decode cL_slots 27 = .ok (.invokestatic 126, 3) := by decide +kernel
theorem dL_slots_30 : decode cL_slots 30 = .ok (.lmul, 1) := by decide +kernel
theorem dL_slots_31 : decode cL_slots 31 = .ok (.ladd, 1) := by decide +kernel
theorem dL_slots_32 : decode cL_slots 32 = .ok (.aload_n 0, 1) := by decide +kernel
theorem dL_slots_33 : decode cL_slots 33 = .ok (.iload 6, 2) := by decide +kernel
theorem dL_slots_35 : decode cL_slots 35 = .ok (.iconst 2, 1) := by decide +kernel
theorem dL_slots_36 : decode cL_slots 36 = .ok (.invokestatic 126, 3) := by decide +kernel
theorem dL_slots_39 : decode cL_slots 39 = .ok (.ladd, 1) := by decide +kernel
theorem dL_slots_40 : decode cL_slots 40 = .ok (.lstore 7, 2) := by decide +kernel
theorem dL_slots_42 : decode cL_slots 42 = .ok (.aload_n 0, 1) := by decide +kernel
theorem dL_slots_43 : decode cL_slots 43 = .ok (.iload 6, 2) := by decide +kernel
theorem dL_slots_45 : decode cL_slots 45 = .ok (.invokestatic 189, 3) := by decide +kernel
theorem dL_slots_48 : decode cL_slots 48 = .ok (.aload_n 3, 1) := by decide +kernel
theorem dL_slots_49 : decode cL_slots 49 = .ok (.bipush 6, 2) := by decide +kernel
theorem dL_slots_51 : decode cL_slots 51 = .ok (.iload 6, 2) := by decide +kernel
theorem dL_slots_53 : decode cL_slots 53 = .ok (.iadd, 1) := by decide +kernel
theorem dL_slots_54 : decode cL_slots 54 = .ok (.iaload, 1) := by decide +kernel
theorem dL_slots_55 : decode cL_slots 55 = .ok (.if_icmp .ne 31, 3) := by decide +kernel
theorem dL_slots_58 : decode cL_slots 58 = .ok (.aload_n 0, 1) := by decide +kernel
theorem dL_slots_59 : decode cL_slots 59 = .ok (.iload 6, 2) := by decide +kernel
theorem dL_slots_61 : decode cL_slots 61 = .ok (.iconst 3, 1) := by decide +kernel
theorem dL_slots_62 : decode cL_slots 62 = .ok (.invokestatic 126, 3) := by decide +kernel
theorem dL_slots_65 : decode cL_slots 65 = .ok (.lload 7, 2) := by decide +kernel
theorem dL_slots_67 : decode cL_slots 67 = .ok (.lcmp, 1) := by decide +kernel
theorem dL_slots_68 : decode cL_slots 68 = .ok (.ifCond .ne 7, 3) := by decide +kernel
theorem dL_slots_71 : decode cL_slots 71 = .ok (.iconst 1, 1) := by decide +kernel
theorem dL_slots_72 : decode cL_slots 72 = .ok (.goto 4, 3) := by decide +kernel
theorem dL_slots_75 : decode cL_slots 75 = .ok (.iconst 0, 1) := by decide +kernel
theorem dL_slots_76 : decode cL_slots 76 = .ok (.aload_n 3, 1) := by decide +kernel
theorem dL_slots_77 : decode cL_slots 77 = .ok (.bipush 6, 2) := by decide +kernel
theorem dL_slots_79 : decode cL_slots 79 = .ok (.iload 6, 2) := by decide +kernel
theorem dL_slots_81 : decode cL_slots 81 = .ok (.iadd, 1) := by decide +kernel
theorem dL_slots_82 : decode cL_slots 82 = .ok (.iaload, 1) := by decide +kernel
theorem dL_slots_83 : decode cL_slots 83 = .ok (.if_icmp .eq 5, 3) := by decide +kernel
theorem dL_slots_86 : decode cL_slots 86 = .ok (.iconst 0, 1) := by decide +kernel
theorem dL_slots_87 : decode cL_slots 87 = .ok (.ireturn, 1) := by decide +kernel
theorem dL_slots_88 : decode cL_slots 88 = .ok (.aload_n 3, 1) := by decide +kernel
theorem dL_slots_89 : decode cL_slots 89 = .ok (.bipush 6, 2) := by decide +kernel
theorem dL_slots_91 : decode cL_slots 91 = .ok (.iload 6, 2) := by decide +kernel
theorem dL_slots_93 : decode cL_slots 93 = .ok (.iadd, 1) := by decide +kernel
theorem dL_slots_94 : decode cL_slots 94 = .ok (.iaload, 1) := by decide +kernel
theorem dL_slots_95 : decode cL_slots 95 = .ok (.iconst 1, 1) := by decide +kernel
theorem dL_slots_96 : decode cL_slots 96 = .ok (.if_icmp .ne 66, 3) := by decide +kernel
theorem dL_slots_99 : decode cL_slots 99 = .ok (.aload_n 0, 1) := by decide +kernel
theorem dL_slots_100 : decode cL_slots 100 = .ok (.iload 6, 2) := by decide +kernel
theorem dL_slots_102 : decode cL_slots 102 = .ok (.iconst 0, 1) := by decide +kernel
theorem dL_slots_103 : decode cL_slots 103 = .ok (.invokestatic 126, 3) := by decide +kernel
theorem dL_slots_106 : decode cL_slots 106 = .ok (.aload_n 2, 1) := by decide +kernel
theorem dL_slots_107 : decode cL_slots 107 = .ok (.bipush 6, 2) := by decide +kernel
theorem dL_slots_109 : decode cL_slots 109 = .ok (.iload 6, 2) := by decide +kernel
theorem dL_slots_111 : decode cL_slots 111 = .ok (.iadd, 1) := by decide +kernel
theorem dL_slots_112 : decode cL_slots 112 = .ok (.iaload, 1) := by decide +kernel
theorem dL_slots_113 : decode cL_slots 113 = .ok (.i2l, 1) := by decide +kernel
theorem dL_slots_114 : decode cL_slots 114 = .ok (.lcmp, 1) := by decide +kernel
theorem dL_slots_115 : decode cL_slots 115 = .ok (.ifCond .ne 45, 3) := by decide +kernel
theorem dL_slots_118 : decode cL_slots 118 = .ok (.aload_n 0, 1) := by decide +kernel
theorem dL_slots_119 : decode cL_slots 119 = .ok (.aload_n 0, 1) := by decide +kernel
theorem dL_slots_120 : decode cL_slots 120 = .ok (.iload 6, 2) := by decide +kernel
theorem dL_slots_122 : decode cL_slots 122 = .ok (.iconst 1, 1) := by decide +kernel
theorem dL_slots_123 : decode cL_slots 123 = .ok (.invokestatic 126, 3) := by decide +kernel
theorem dL_slots_126 : decode cL_slots 126 = .ok (.l2i, 1) := by decide +kernel
theorem dL_slots_127 : decode cL_slots 127 = .ok (.iconst (-1), 1) := by decide +kernel
theorem dL_slots_128 : decode cL_slots 128 = .ok (.aload_n 1, 1) := by decide +kernel
theorem dL_slots_129 : decode cL_slots 129 = .ok (.bipush 6, 2) := by decide +kernel
theorem dL_slots_131 : decode cL_slots 131 = .ok (.iload 6, 2) := by decide +kernel
theorem dL_slots_133 : decode cL_slots 133 = .ok (.iadd, 1) := by decide +kernel
theorem dL_slots_134 : decode cL_slots 134 = .ok (.aload 4, 2) := by decide +kernel
theorem dL_slots_136 : decode cL_slots 136 = .ok (.aload 5, 2) := by decide +kernel
theorem dL_slots_138 : decode cL_slots 138 = .ok (.invokestatic 161, 3) := by decide +kernel
theorem dL_slots_141 : decode cL_slots 141 = .ok (.ifCond .eq 19, 3) := by decide +kernel
theorem dL_slots_144 : decode cL_slots 144 = .ok (.aload_n 0, 1) := by decide +kernel
theorem dL_slots_145 : decode cL_slots 145 = .ok (.iload 6, 2) := by decide +kernel
theorem dL_slots_147 : decode cL_slots 147 = .ok (.iconst 2, 1) := by decide +kernel
theorem dL_slots_148 : decode cL_slots 148 = .ok (.invokestatic 126, 3) := by decide +kernel
theorem dL_slots_151 : decode cL_slots 151 = .ok (.aload 4, 2) := by decide +kernel
theorem dL_slots_153 : decode cL_slots 153 = .ok (.iconst 0, 1) := by decide +kernel
theorem dL_slots_154 : decode cL_slots 154 = .ok (.iaload, 1) := by decide +kernel
theorem dL_slots_155 : decode cL_slots 155 = .ok (.i2l, 1) := by decide +kernel
theorem dL_slots_156 : decode cL_slots 156 = .ok (.lcmp, 1) := by decide +kernel
theorem dL_slots_157 : decode cL_slots 157 = .ok (.ifCond .eq 5, 3) := by decide +kernel
theorem dL_slots_160 : decode cL_slots 160 = .ok (.iconst 0, 1) := by decide +kernel
theorem dL_slots_161 : decode cL_slots 161 = .ok (.ireturn, 1) := by decide +kernel
theorem dL_slots_162 : decode cL_slots 162 = .ok (.iinc 6 1, 3) := by decide +kernel
theorem dL_slots_165 : decode cL_slots 165 = .ok (.goto (-162), 3) := by decide +kernel
theorem dL_slots_168 : decode cL_slots 168 = .ok (.iconst 1, 1) := by decide +kernel
theorem dL_slots_169 : decode cL_slots 169 = .ok (.ireturn, 1) := by decide +kernel
theorem dL_isSo_0 : decode cL_isSo 0 = .ok (.bipush 64, 2) := by decide +kernel
theorem dL_isSo_2 : decode cL_isSo 2 = .ok (.newarray .int, 2) := by decide +kernel
theorem dL_isSo_4 : decode cL_isSo 4 = .ok (.astore 5, 2) := by decide +kernel
theorem dL_isSo_6 : decode cL_isSo 6 = .ok (.bipush 12, 2) := by decide +kernel
theorem dL_isSo_8 : decode cL_isSo 8 = .ok (.newarray .long, 2) := by decide +kernel
theorem dL_isSo_10 : decode cL_isSo 10 = .ok (.astore 6, 2) := by decide +kernel
theorem dL_isSo_12 : decode cL_isSo 12 = .ok (.iconst 0, 1) := by decide +kernel
theorem dL_isSo_13 : decode cL_isSo 13 = .ok (.istore 7, 2) := by decide +kernel
theorem dL_isSo_15 : decode cL_isSo 15 = .ok (.iconst 0, 1) := by decide +kernel
theorem dL_isSo_16 : decode cL_isSo 16 = .ok (.istore 8, 2) := by decide +kernel
theorem dL_isSo_18 : decode cL_isSo 18 = .ok (.iload 8, 2) := by decide +kernel
theorem dL_isSo_20 : decode cL_isSo 20 = .ok (.iconst 4, 1) := by decide +kernel
theorem dL_isSo_21 : decode cL_isSo 21 = .ok (.if_icmp .ge 142, 3) := by decide +kernel
theorem dL_isSo_24 : decode cL_isSo 24 = .ok (.iload 7, 2) := by decide +kernel
theorem dL_isSo_26 : decode cL_isSo 26 = .ok (.aload_n 3, 1) := by decide +kernel
theorem dL_isSo_27 : decode cL_isSo 27 = .ok (.iconst 2, 1) := by decide +kernel
theorem dL_isSo_28 : decode cL_isSo 28 = .ok (.iload 8, 2) := by decide +kernel
theorem dL_isSo_30 : decode cL_isSo 30 = .ok (.iadd, 1) := by decide +kernel
theorem dL_isSo_31 : decode cL_isSo 31 = .ok (.iaload, 1) := by decide +kernel
theorem dL_isSo_32 : decode cL_isSo 32 = .ok (.iadd, 1) := by decide +kernel
theorem dL_isSo_33 : decode cL_isSo 33 = .ok (.istore 7, 2) := by decide +kernel
theorem dL_isSo_35 : decode cL_isSo 35 = .ok (.aload_n 3, 1) := by decide +kernel
theorem dL_isSo_36 : decode cL_isSo 36 = .ok (.iconst 2, 1) := by decide +kernel
theorem dL_isSo_37 : decode cL_isSo 37 = .ok (.iload 8, 2) := by decide +kernel
theorem dL_isSo_39 : decode cL_isSo 39 = .ok (.iadd, 1) := by decide +kernel
theorem dL_isSo_40 : decode cL_isSo 40 = .ok (.iaload, 1) := by decide +kernel
theorem dL_isSo_41 : decode cL_isSo 41 = .ok (.iconst 1, 1) := by decide +kernel
theorem dL_isSo_42 : decode cL_isSo 42 = .ok (.if_icmp .ne 66, 3) := by decide +kernel
theorem dL_isSo_45 : decode cL_isSo 45 = .ok (.aload_n 0, 1) := by decide +kernel
theorem dL_isSo_46 : decode cL_isSo 46 = .ok (.iload 8, 2) := by decide +kernel
theorem dL_isSo_48 : decode cL_isSo 48 = .ok (.aload_n 1, 1) := by decide +kernel
theorem dL_isSo_49 : decode cL_isSo 49 = .ok (.iconst 2, 1) := by decide +kernel
theorem dL_isSo_50 : decode cL_isSo 50 = .ok (.iload 8, 2) := by decide +kernel
theorem dL_isSo_52 : decode cL_isSo 52 = .ok (.iadd, 1) := by decide +kernel
theorem dL_isSo_53 : decode cL_isSo 53 = .ok (.aload 5, 2) := by decide +kernel
theorem dL_isSo_55 : decode cL_isSo 55 = .ok (.aload 6, 2) := by decide +kernel
theorem dL_isSo_57 : decode cL_isSo 57 = .ok (.iload 4, 2) := by decide +kernel
theorem dL_isSo_59 : decode cL_isSo 59 = .ok (.iload 8, 2) := by decide +kernel
theorem dL_isSo_61 : decode cL_isSo 61 = .ok (.iadd, 1) := by decide +kernel
theorem dL_isSo_62 : decode cL_isSo 62 = .ok (.invokestatic 191, 3) := by decide +kernel
theorem dL_isSo_65 : decode cL_isSo 65 = .ok (.ifCond .eq 41, 3) := by decide +kernel
theorem dL_isSo_68 : decode cL_isSo 68 = .ok (.aload_n 0, 1) := by decide +kernel
theorem dL_isSo_69 : decode cL_isSo 69 = .ok (.iload 8, 2) := by decide +kernel
theorem dL_isSo_71 : decode cL_isSo 71 = .ok (.invokestatic 134, 3) := by decide +kernel
theorem dL_isSo_74 : decode cL_isSo 74 = .ok (.aload_n 2, 1) := by decide +kernel
theorem dL_isSo_75 : decode cL_isSo 75 = .ok (.iconst 2, 1) := by decide +kernel
theorem dL_isSo_76 : decode cL_isSo 76 = .ok (.iload 8, 2) := by decide +kernel
theorem dL_isSo_78 : decode cL_isSo 78 = .ok (.iadd, 1) := by decide +kernel
theorem dL_isSo_79 : decode cL_isSo 79 = .ok (.iaload, 1) := by decide +kernel
theorem dL_isSo_80 : decode cL_isSo 80 = .ok (.if_icmp .ne 26, 3) := by decide +kernel
theorem dL_isSo_83 : decode cL_isSo 83 = .ok (.iload 4, 2) := by decide +kernel
theorem dL_isSo_85 : decode cL_isSo 85 = .ok (.iconst 5, 1) := by decide +kernel
theorem dL_isSo_86 : decode cL_isSo 86 = .ok (.ishr, 1) := by decide +kernel
theorem dL_isSo_87 : decode cL_isSo 87 = .ok (.iconst 4, 1) := by decide +kernel
theorem dL_isSo_88 : decode cL_isSo 88 = .ok (.invokestatic 165, 3) := by decide +kernel
theorem dL_isSo_91 : decode cL_isSo 91 = .ok (.iload 8, 2) := by decide +kernel
theorem dL_isSo_93 : decode cL_isSo 93 = .ok (.if_icmp .ne 64, 3) := by decide +kernel
theorem dL_isSo_96 : decode cL_isSo 96 = .ok (.aload_n 0, 1) := by decide +kernel
theorem dL_isSo_97 : decode cL_isSo 97 = .ok (.iconst (-1), 1) := by decide +kernel
theorem dL_isSo_98 : decode cL_isSo 98 = .ok (.iload 8, 2) := by decide +kernel
theorem dL_isSo_100 : decode cL_isSo 100 = .ok (.invokestatic 195, 3) := by decide +kernel
theorem dL_isSo_103 : decode cL_isSo 103 = .ok (.ifCond .ne 54, 3) := by decide +kernel
theorem dL_isSo_106 : decode cL_isSo 106 = .ok (.iconst 0, 1) := by decide +kernel
theorem dL_isSo_107 : decode cL_isSo 107 = .ok (.ireturn, 1) := by decide +kernel
theorem dL_isSo_108 : decode cL_isSo 108 = .ok (.aload_n 0, 1) := by decide +kernel
theorem dL_isSo_109 : decode cL_isSo 109 = .ok (.iload 8, 2) := by decide +kernel
theorem dL_isSo_111 : decode cL_isSo 111 = .ok (.invokestatic 134, 3) := by decide +kernel
theorem dL_isSo_114 : decode cL_isSo 114 = .ok (.ldc 23, 2) := by decide +kernel
theorem dL_isSo_116 : decode cL_isSo 116 = .ok (.if_icmp .ne 39, 3) := by decide +kernel
theorem dL_isSo_119 : decode cL_isSo 119 = .ok (.aload_n 0, 1) := by decide +kernel
theorem dL_isSo_120 : decode cL_isSo 120 = .ok (.iload 8, 2) := by decide +kernel
theorem dL_isSo_122 : decode cL_isSo 122 = .ok (.bipush 100, 2) := by decide +kernel
theorem dL_isSo_124 : decode cL_isSo 124 = .ok (.invokestatic 173, 3) := by decide +kernel
theorem dL_isSo_127 : decode cL_isSo 127 = .ok (.ldc 23, 2) := by decide +kernel
theorem dL_isSo_129 : decode cL_isSo 129 = .ok (.if_icmp .ne 26, 3) := by decide +kernel
theorem dL_isSo_132 : decode cL_isSo 132 = .ok (.aload_n 0, 1) := by decide +kernel
theorem dL_isSo_133 : decode cL_isSo 133 = .ok (.iload 8, 2) := by decide +kernel
theorem dL_isSo_135 : decode cL_isSo 135 = .ok (.invokestatic 199, 3) := by decide +kernel
theorem dL_isSo_138 : decode cL_isSo 138 = .ok (.ldc 23, 2) := by decide +kernel
theorem dL_isSo_140 : decode cL_isSo 140 = .ok (.if_icmp .ne 15, 3) := by decide +kernel
theorem dL_isSo_143 : decode cL_isSo 143 = .ok (.aload_n 0, 1) := by decide +kernel
theorem dL_isSo_144 : decode cL_isSo 144 = .ok (.iconst (-1), 1) := by decide +kernel
theorem dL_isSo_145 : decode cL_isSo 145 = .ok (.iload 8, 2) := by decide +kernel
theorem dL_isSo_147 : decode cL_isSo 147 = .ok (.invokestatic 182, 3) := by decide +kernel
theorem dL_isSo_150 : decode cL_isSo 150 = .ok (.ldc 23, 2) := by decide +kernel
theorem dL_isSo_152 : decode cL_isSo 152 = .ok (.if_icmp .eq 5, 3) := by decide +kernel
theorem dL_isSo_155 : decode cL_isSo 155 = .ok (.iconst 0, 1) := by decide +kernel
theorem dL_isSo_156 : decode cL_isSo 156 = .ok (.ireturn, 1) := by decide +kernel
theorem dL_isSo_157 : decode cL_isSo 157 = .ok (.iinc 8 1, 3) := by decide +kernel
theorem dL_isSo_160 : decode cL_isSo 160 = .ok (.goto (-142), 3) := by decide +kernel
theorem dL_isSo_163 : decode cL_isSo 163 = .ok (.aload_n 3, 1) := by decide +kernel
theorem dL_isSo_164 : decode cL_isSo 164 = .ok (.iconst 1, 1) := by decide +kernel
theorem dL_isSo_165 : decode cL_isSo 165 = .ok (.iaload, 1) := by decide +kernel
theorem dL_isSo_166 : decode cL_isSo 166 = .ok (.iconst 1, 1) := by decide +kernel
theorem dL_isSo_167 : decode cL_isSo 167 = .ok (.if_icmp .ne 7, 3) := by decide +kernel
theorem dL_isSo_170 : decode cL_isSo 170 = .ok (.iconst 1, 1) := by decide +kernel
theorem dL_isSo_171 : decode cL_isSo 171 = .ok (.goto 4, 3) := by decide +kernel
theorem dL_isSo_174 : decode cL_isSo 174 = .ok (.iconst 0, 1) := by decide +kernel
theorem dL_isSo_175 : decode cL_isSo 175 = .ok (.istore 8, 2) := by decide +kernel
theorem dL_isSo_177 : decode cL_isSo 177 = .ok (.aload_n 0, 1) := by decide +kernel
theorem dL_isSo_178 : decode cL_isSo 178 = .ok (.iconst (-1), 1) := by decide +kernel
theorem dL_isSo_179 : decode cL_isSo 179 = .ok (.aload_n 1, 1) := by decide +kernel
theorem dL_isSo_180 : decode cL_isSo 180 = .ok (.iload 8, 2) := by decide +kernel
theorem dL_isSo_182 : decode cL_isSo 182 = .ok (.aload 5, 2) := by decide +kernel
theorem dL_isSo_184 : decode cL_isSo 184 = .ok (.aload 6, 2) := by decide +kernel
theorem dL_isSo_186 : decode cL_isSo 186 = .ok (.iload 4, 2) := by decide +kernel
theorem dL_isSo_188 : decode cL_isSo 188 = .ok (.iconst 3, 1) := by decide +kernel
theorem dL_isSo_189 : decode cL_isSo 189 = .ok (.ishr, 1) := by decide +kernel
theorem dL_isSo_190 : decode cL_isSo 190 = .ok (.invokestatic 191, 3) := by decide +kernel
theorem dL_isSo_193 : decode cL_isSo 193 = .ok (.ifCond .eq 56, 3) := by decide +kernel
theorem dL_isSo_196 : decode cL_isSo 196 = .ok (.aload_n 0, 1) := by decide +kernel
theorem dL_isSo_197 : decode cL_isSo 197 = .ok (.iconst (-1), 1) := by decide +kernel
theorem dL_isSo_198 : decode cL_isSo 198 = .ok (.invokestatic 134, 3) := by decide +kernel
theorem dL_isSo_201 : decode cL_isSo 201 = .ok (.aload_n 2, 1) := by decide +kernel
theorem dL_isSo_202 : decode cL_isSo 202 = .ok (.iload 8, 2) := by decide +kernel
theorem dL_isSo_204 : decode cL_isSo 204 = .ok (.iaload, 1) := by decide +kernel
theorem dL_isSo_205 : decode cL_isSo 205 = .ok (.if_icmp .ne 44, 3) := by decide +kernel
theorem dL_isSo_208 : decode cL_isSo 208 = .ok (.aload_n 0, 1) := by decide +kernel
theorem dL_isSo_209 : decode cL_isSo 209 = .ok (.invokevirtual 119, 3) := by decide +kernel
theorem dL_isSo_212 : decode cL_isSo 212 = .ok (.iload 8, 2) := by decide +kernel
theorem dL_isSo_214 : decode cL_isSo 214 = .ok (.iconst 1, 1) := by decide +kernel
theorem dL_isSo_215 : decode cL_isSo 215 = .ok (.if_icmp .ne 7, 3) := by decide +kernel
theorem dL_isSo_218 : decode cL_isSo 218 = .ok (.iconst 1, 1) := by decide +kernel
theorem dL_isSo_219 : decode cL_isSo 219 = .ok (.goto 4, 3) := by decide +kernel
theorem dL_isSo_222 : decode cL_isSo 222 = .ok (.iconst 0, 1) := by decide +kernel
theorem dL_isSo_223 : decode cL_isSo 223 = .ok (.if_icmp .ne 26, 3) := by decide +kernel
theorem dL_isSo_226 : decode cL_isSo 226 = .ok (.aload_n 0, 1) := by decide +kernel
theorem dL_isSo_227 : decode cL_isSo 227 = .ok (.invokevirtual 123, 3) := by decide +kernel
theorem dL_isSo_230 : decode cL_isSo 230 = .ok (.iload 7, 2) := by decide +kernel
theorem dL_isSo_232 : decode cL_isSo 232 = .ok (.if_icmp .ne 17, 3) := by decide +kernel
theorem dL_isSo_235 : decode cL_isSo 235 = .ok (.aload_n 0, 1) := by decide +kernel
theorem dL_isSo_236 : decode cL_isSo 236 = .ok (.aload_n 1, 1) := by decide +kernel
theorem dL_isSo_237 : decode cL_isSo 237 = .ok (.aload_n 2, 1) := by decide +kernel
theorem dL_isSo_238 : decode cL_isSo 238 = .ok (.aload_n 3, 1) := by decide +kernel
theorem dL_isSo_239 : decode cL_isSo 239 = .ok (.aload 5, 2) := by decide +kernel
theorem dL_isSo_241 : decode cL_isSo 241 = .ok (.aload 6, 2) := by decide +kernel
theorem dL_isSo_243 : decode cL_isSo 243 = .ok (.invokestatic 201, 3) := by decide +kernel
theorem dL_isSo_246 : decode cL_isSo 246 = .ok (.ifCond .ne 5, 3) := by decide +kernel
theorem dL_isSo_249 : decode cL_isSo 249 = .ok (.iconst 0, 1) := by decide +kernel
theorem dL_isSo_250 : decode cL_isSo 250 = .ok (.ireturn, 1) := by decide +kernel
theorem dL_isSo_251 : decode cL_isSo 251 = .ok (.iload 8, 2) := by decide +kernel
theorem dL_isSo_253 : decode cL_isSo 253 = .ok (.ifCond .eq 16, 3) := by decide +kernel
theorem dL_isSo_256 : decode cL_isSo 256 = .ok (.aload_n 3, 1) := by decide +kernel
theorem dL_isSo_257 : decode cL_isSo 257 = .ok (.bipush 6, 2) := by decide +kernel
theorem dL_isSo_259 : decode cL_isSo 259 = .ok (.aload_n 0, 1) := by decide +kernel
theorem dL_isSo_260 : decode cL_isSo 260 = .ok (.invokevirtual 116, 3) := by decide +kernel
theorem dL_isSo_263 : decode cL_isSo 263 = .ok (.iadd, 1) := by decide +kernel
theorem dL_isSo_264 : decode cL_isSo 264 = .ok (.iaload, 1) := by decide +kernel
theorem dL_isSo_265 : decode cL_isSo 265 = .ok (.iconst 1, 1) := by decide +kernel
theorem dL_isSo_266 : decode cL_isSo 266 = .ok (.if_icmp .ne 7, 3) := by decide +kernel
theorem dL_isSo_269 : decode cL_isSo 269 = .ok (.iconst 1, 1) := by decide +kernel
theorem dL_isSo_270 : decode cL_isSo 270 = .ok (.goto 4, 3) := by decide +kernel
theorem dL_isSo_273 : decode cL_isSo 273 = .ok (.iconst 0, 1) := by decide +kernel
theorem dL_isSo_274 : decode cL_isSo 274 = .ok (.istore 9, 2) := by decide +kernel
theorem dL_isSo_276 : decode cL_isSo 276 = .ok (.iconst 0, 1) := by decide +kernel
theorem dL_isSo_277 : decode cL_isSo 277 = .ok (.istore 10, 2) := by decide +kernel
theorem dL_isSo_279 : decode cL_isSo 279 = .ok (.iconst (-1), 1) := by decide +kernel
theorem dL_isSo_280 : decode cL_isSo 280 = .ok (.istore 11, 2) := by decide +kernel
theorem dL_isSo_282 : decode cL_isSo 282 = .ok (.iconst 0, 1) := by decide +kernel
theorem dL_isSo_283 : decode cL_isSo 283 = .ok (.istore 12, 2) := by decide +kernel
theorem dL_isSo_285 : decode cL_isSo 285 = .ok (.iload 12, 2) := by decide +kernel
theorem dL_isSo_287 : decode cL_isSo 287 = .ok (.sipush 768, 3) := by decide +kernel
theorem dL_isSo_290 : decode cL_isSo 290 = .ok (.if_icmp .ge 110, 3) := by decide +kernel
theorem dL_isSo_293 : decode cL_isSo 293 = .ok (.aload 6, 2) := by decide +kernel
theorem dL_isSo_295 : decode cL_isSo 295 = .ok (.iload 12, 2) := by decide +kernel
theorem dL_isSo_297 : decode cL_isSo 297 = .ok (.bipush 64, 2) := by decide +kernel
theorem dL_isSo_299 : decode cL_isSo 299 = .ok (.idiv, 1) := by decide +kernel
theorem dL_isSo_300 : decode cL_isSo 300 = .ok (.laload, 1) := by decide +kernel
theorem dL_isSo_301 : decode cL_isSo 301 = .ok (.iload 12, 2) := by decide +kernel
theorem dL_isSo_303 : decode cL_isSo 303 = .ok (.bipush 64, 2) := by decide +kernel
theorem dL_isSo_305 : decode cL_isSo 305 = .ok (.irem, 1) := by decide +kernel
theorem dL_isSo_306 : decode cL_isSo 306 = .ok (.lshr, 1) := by decide +kernel
theorem dL_isSo_307 : decode cL_isSo 307 = .ok (.lconst 1, 1) := by decide +kernel
theorem dL_isSo_308 : decode cL_isSo 308 = .ok (.land, 1) := by decide +kernel
theorem dL_isSo_309 : decode cL_isSo 309 = .ok (.lconst 1, 1) := by decide +kernel
theorem dL_isSo_310 : decode cL_isSo 310 = .ok (.lcmp, 1) := by decide +kernel
theorem dL_isSo_311 : decode cL_isSo 311 = .ok (.ifCond .ne 7, 3) := by decide +kernel
theorem dL_isSo_314 : decode cL_isSo 314 = .ok (.iconst 1, 1) := by decide +kernel
theorem dL_isSo_315 : decode cL_isSo 315 = .ok (.goto 4, 3) := by decide +kernel
theorem dL_isSo_318 : decode cL_isSo 318 = .ok (.iconst 0, 1) := by decide +kernel
theorem dL_isSo_319 : decode cL_isSo 319 = .ok (.istore 13, 2) := by decide +kernel
theorem dL_isSo_321 : decode cL_isSo 321 = .ok (.iload 10, 2) := by decide +kernel
theorem dL_isSo_323 : decode cL_isSo 323 = .ok (.iload 13, 2) := by decide +kernel
theorem dL_isSo_325 : decode cL_isSo 325 = .ok (.ifCond .eq 7, 3) := by decide +kernel
theorem dL_isSo_328 : decode cL_isSo 328 = .ok (.iconst 1, 1) := by decide +kernel
theorem dL_isSo_329 : decode cL_isSo 329 = .ok (.goto 4, 3) := by decide +kernel
theorem dL_isSo_332 : decode cL_isSo 332 = .ok (.iconst 0, 1) := by decide +kernel
theorem dL_isSo_333 : decode cL_isSo 333 = .ok (.iadd, 1) := by decide +kernel
theorem dL_isSo_334 : decode cL_isSo 334 = .ok (.istore 10, 2) := by decide +kernel
theorem dL_isSo_336 : decode cL_isSo 336 = .ok (.iload 13, 2) := by decide +kernel
theorem dL_isSo_338 : decode cL_isSo 338 = .ok (.ifCond .ne 8, 3) := by decide +kernel
theorem dL_isSo_341 : decode cL_isSo 341 = .ok (.iload 11, 2) := by decide +kernel
theorem dL_isSo_343 : decode cL_isSo 343 = .ok (.ifCond .lt 8, 3) := by decide +kernel
theorem dL_isSo_346 : decode cL_isSo 346 = .ok (.iload 11, 2) := by decide +kernel
theorem dL_isSo_348 : decode cL_isSo 348 = .ok (.goto 5, 3) := by decide +kernel
theorem dL_isSo_351 : decode cL_isSo 351 = .ok (.iload 12, 2) := by decide +kernel
theorem dL_isSo_353 : decode cL_isSo 353 = .ok (.istore 11, 2) := by decide +kernel
theorem dL_isSo_355 : decode cL_isSo 355 = .ok (.iload 13, 2) := by decide +kernel
theorem dL_isSo_357 : decode cL_isSo 357 = .ok (.ifCond .ne 16, 3) := by decide +kernel
theorem dL_isSo_360 : decode cL_isSo 360 = .ok (.iload 9, 2) := by decide +kernel
theorem dL_isSo_362 : decode cL_isSo 362 = .ok (.ifCond .eq 32, 3) := by decide +kernel
theorem dL_isSo_365 : decode cL_isSo 365 = .ok (.iload 12, 2) := by decide +kernel
theorem dL_isSo_367 : decode cL_isSo 367 = .ok (.sipush 150, 3) := by decide +kernel
theorem dL_isSo_370 : decode cL_isSo 370 = .ok (.if_icmp .ge 24, 3) := by decide +kernel
theorem dL_isSo_373 : decode cL_isSo 373 = .ok (.aload_n 0, 1) := by decide +kernel
theorem dL_isSo_374 : decode cL_isSo 374 = .ok (.iload 12, 2) := by decide +kernel
theorem dL_isSo_376 : decode cL_isSo 376 = .ok (.invokestatic 205, 3) := by decide +kernel
theorem dL_isSo_379 : decode cL_isSo 379 = .ok (.iload 13, 2) := by decide +kernel
theorem dL_isSo_381 : decode cL_isSo 381 = .ok (.ifCond .eq 7, 3) := by decide +kernel
theorem dL_isSo_384 : decode cL_isSo 384 = .ok (.iconst 0, 1) := by decide +kernel
theorem dL_isSo_385 : decode cL_isSo 385 = .ok (.goto 4, 3) := by decide +kernel
theorem dL_isSo_388 : decode cL_isSo 388 = .ok (.iconst 1, 1) := by decide +kernel
theorem dL_isSo_389 : decode cL_isSo 389 = .ok (.if_icmp .eq 5, 3) := by decide +kernel
theorem dL_isSo_392 : decode cL_isSo 392 = .ok (.iconst 0, 1) := by decide +kernel
theorem dL_isSo_393 : decode cL_isSo 393 = .ok (.ireturn, 1) := by decide +kernel
theorem dL_isSo_394 : decode cL_isSo 394 = .ok (.iinc 12 1, 3) := by decide +kernel
theorem dL_isSo_397 : decode cL_isSo 397 = .ok (.goto (-112), 3) := by decide +kernel
theorem dL_isSo_400 : decode cL_isSo 400 = .ok (.iload 9, 2) := by decide +kernel
theorem dL_isSo_402 : decode cL_isSo 402 = .ok (.ifCond .eq 29, 3) := by decide +kernel
theorem dL_isSo_405 : decode cL_isSo 405 = .ok (.aload_n 0, 1) := by decide +kernel
theorem dL_isSo_406 : decode cL_isSo 406 = .ok (.invokevirtual 110, 3) := by decide +kernel
theorem dL_isSo_409 : decode cL_isSo 409 = .ok (.iload 10, 2) := by decide +kernel
theorem dL_isSo_411 : decode cL_isSo 411 = .ok (.if_icmp .ne 16, 3) := by decide +kernel
theorem dL_isSo_414 : decode cL_isSo 414 = .ok (.aload_n 0, 1) := by decide +kernel
theorem dL_isSo_415 : decode cL_isSo 415 = .ok (.invokevirtual 113, 3) := by decide +kernel
theorem dL_isSo_418 : decode cL_isSo 418 = .ok (.iload 11, 2) := by decide +kernel
theorem dL_isSo_420 : decode cL_isSo 420 = .ok (.if_icmp .ne 7, 3) := by decide +kernel
theorem dL_isSo_423 : decode cL_isSo 423 = .ok (.iconst 1, 1) := by decide +kernel
theorem dL_isSo_424 : decode cL_isSo 424 = .ok (.goto 21, 3) := by decide +kernel
theorem dL_isSo_427 : decode cL_isSo 427 = .ok (.iconst 0, 1) := by decide +kernel
theorem dL_isSo_428 : decode cL_isSo 428 = .ok (.goto 17, 3) := by decide +kernel
theorem dL_isSo_431 : decode cL_isSo 431 = .ok (.aload_n 0, 1) := by decide +kernel
theorem dL_isSo_432 : decode cL_isSo 432 = .ok (.invokevirtual 110, 3) := by decide +kernel
theorem dL_isSo_435 : decode cL_isSo 435 = .ok (.iload 10, 2) := by decide +kernel
theorem dL_isSo_437 : decode cL_isSo 437 = .ok (.if_icmp .lt 7, 3) := by decide +kernel
theorem dL_isSo_440 : decode cL_isSo 440 = .ok (.iconst 1, 1) := by decide +kernel
theorem dL_isSo_441 : decode cL_isSo 441 = .ok (.goto 4, 3) := by decide +kernel
theorem dL_isSo_444 : decode cL_isSo 444 = .ok (.iconst 0, 1) := by decide +kernel
theorem dL_isSo_445 : decode cL_isSo 445 = .ok (.ireturn, 1) := by decide +kernel
theorem dL_copies_0 : decode cL_copies 0 = .ok (.iconst 0, 1) := by decide +kernel
theorem dL_copies_1 : decode cL_copies 1 = .ok (.istore 4, 2) := by decide +kernel
theorem dL_copies_3 : decode cL_copies 3 = .ok (.iload 4, 2) := by decide +kernel
theorem dL_copies_5 : decode cL_copies 5 = .ok (.iconst 3, 1) := by decide +kernel
theorem dL_copies_6 : decode cL_copies 6 = .ok (.if_icmp .ge 25, 3) := by decide +kernel
theorem dL_copies_9 : decode cL_copies 9 = .ok (.aload_n 0, 1) := by decide +kernel
theorem dL_copies_10 : decode cL_copies 10 = .ok (.iconst 3, 1) := by decide +kernel
theorem dL_copies_11 : decode cL_copies 11 = .ok (.iload_n 3, 1) := by decide +kernel
theorem dL_copies_12 : decode cL_copies 12 = .ok (.imul, 1) := by decide +kernel
theorem dL_copies_13 : decode cL_copies 13 = .ok (.iload 4, 2) := by decide +kernel
theorem dL_copies_15 : decode cL_copies 15 = .ok (.iadd, 1) := by decide +kernel
theorem dL_copies_16 : decode cL_copies 16 = .ok (.aload_n 0, 1) := by decide +kernel
theorem dL_copies_17 : decode cL_copies 17 = .ok (.iconst 3, 1) := by decide +kernel
theorem dL_copies_18 : decode cL_copies 18 = .ok (.iload_n 2, 1) := by decide +kernel
theorem dL_copies_19 : decode cL_copies 19 = .ok (.imul, 1) := by decide +kernel
theorem dL_copies_20 : decode cL_copies 20 = .ok (.iload 4, 2) := by decide +kernel
theorem dL_copies_22 : decode cL_copies 22 = .ok (.iadd, 1) := by decide +kernel
theorem dL_copies_23 : decode cL_copies 23 = .ok (.laload, 1) := by decide +kernel
theorem dL_copies_24 : decode cL_copies 24 = .ok (.lastore, 1) := by decide +kernel
theorem dL_copies_25 : decode cL_copies 25 = .ok (.iinc 4 1, 3) := by decide +kernel
theorem dL_copies_28 : decode cL_copies 28 = .ok (.goto (-25), 3) := by decide +kernel
theorem dL_copies_31 : decode cL_copies 31 = .ok (.aload_n 1, 1) := by decide +kernel
theorem dL_copies_32 : decode cL_copies 32 = .ok (.iload_n 3, 1) := by decide +kernel
theorem dL_copies_33 : decode cL_copies 33 = .ok (.aload_n 1, 1) := by decide +kernel
theorem dL_copies_34 : decode cL_copies 34 = .ok (.iload_n 2, 1) := by decide +kernel
theorem dL_copies_35 : decode cL_copies 35 = .ok (.iaload, 1) := by decide +kernel
theorem dL_copies_36 : decode cL_copies 36 = .ok (.iastore, 1) := by decide +kernel
theorem dL_copies_37 : decode cL_copies 37 = .ok (.return_, 1) := by decide +kernel
theorem dL_wakes_0 : decode cL_wakes 0 = .ok (.aload 4, 2) := by decide +kernel
theorem dL_wakes_2 : decode cL_wakes 2 = .ok (.bipush 6, 2) := by decide +kernel
theorem dL_wakes_4 : decode cL_wakes 4 = .ok (.iaload, 1) := by decide +kernel
theorem dL_wakes_5 : decode cL_wakes 5 = .ok (.iconst 1, 1) := by decide +kernel
theorem dL_wakes_6 : decode cL_wakes 6 = .ok (.if_icmp .ne 26, 3) := by decide +kernel
theorem dL_wakes_9 : decode cL_wakes 9 = .ok (.aload 4, 2) := by decide +kernel
theorem dL_wakes_11 : decode cL_wakes 11 = .ok (.bipush 7, 2) := by decide +kernel
theorem dL_wakes_13 : decode cL_wakes 13 = .ok (.iaload, 1) := by decide +kernel
theorem dL_wakes_14 : decode cL_wakes 14 = .ok (.ifCond .eq 14, 3) := by decide +kernel
theorem dL_wakes_17 : decode cL_wakes 17 = .ok (.aload_n 3, 1) := by decide +kernel
theorem dL_wakes_18 : decode cL_wakes 18 = .ok (.bipush 6, 2) := by decide +kernel
theorem dL_wakes_20 : decode cL_wakes 20 = .ok (.iaload, 1) := by decide +kernel
theorem dL_wakes_21 : decode cL_wakes 21 = .ok (.aload_n 3, 1) := by decide +kernel
theorem dL_wakes_22 : decode cL_wakes 22 = .ok (.bipush 7, 2) := by decide +kernel
theorem dL_wakes_24 : decode cL_wakes 24 = .ok (.iaload, 1) := by decide +kernel
theorem dL_wakes_25 : decode cL_wakes 25 = .ok (.if_icmp .lt 7, 3) := by decide +kernel
theorem dL_wakes_28 : decode cL_wakes 28 = .ok (.iconst 0, 1) := by decide +kernel
theorem dL_wakes_29 : decode cL_wakes 29 = .ok (.goto 4, 3) := by decide +kernel
theorem dL_wakes_32 : decode cL_wakes 32 = .ok (.iconst 1, 1) := by decide +kernel
theorem dL_wakes_33 : decode cL_wakes 33 = .ok (.istore 5, 2) := by decide +kernel
theorem dL_wakes_35 : decode cL_wakes 35 = .ok (.aload_n 2, 1) := by decide +kernel
theorem dL_wakes_36 : decode cL_wakes 36 = .ok (.aload_n 3, 1) := by decide +kernel
theorem dL_wakes_37 : decode cL_wakes 37 = .ok (.bipush 6, 2) := by decide +kernel
theorem dL_wakes_39 : decode cL_wakes 39 = .ok (.iload 5, 2) := by decide +kernel
theorem dL_wakes_41 : decode cL_wakes 41 = .ok (.iadd, 1) := by decide +kernel
theorem dL_wakes_42 : decode cL_wakes 42 = .ok (.iconst 0, 1) := by decide +kernel
theorem dL_wakes_43 : decode cL_wakes 43 = .ok (.invokestatic 207, 3) := by decide +kernel
theorem dL_wakes_46 : decode cL_wakes 46 = .ok (.iconst 1, 1) := by decide +kernel
theorem dL_wakes_47 : decode cL_wakes 47 = .ok (.istore 6, 2) := by decide +kernel
theorem dL_wakes_49 : decode cL_wakes 49 = .ok (.iload 6, 2) := by decide +kernel
theorem dL_wakes_51 : decode cL_wakes 51 = .ok (.bipush 6, 2) := by decide +kernel
theorem dL_wakes_53 : decode cL_wakes 53 = .ok (.if_icmp .ge 15, 3) := by decide +kernel
theorem dL_wakes_56 : decode cL_wakes 56 = .ok (.aload 4, 2) := by decide +kernel
theorem dL_wakes_58 : decode cL_wakes 58 = .ok (.iload 6, 2) := by decide +kernel
theorem dL_wakes_60 : decode cL_wakes 60 = .ok (.iconst 0, 1) := by decide +kernel
theorem dL_wakes_61 : decode cL_wakes 61 = .ok (.iastore, 1) := by decide +kernel
theorem dL_wakes_62 : decode cL_wakes 62 = .ok (.iinc 6 1, 3) := by decide +kernel
theorem dL_wakes_65 : decode cL_wakes 65 = .ok (.goto (-16), 3) := by decide +kernel
theorem dL_wakes_68 : decode cL_wakes 68 = .ok (.iload_n 1, 1) := by decide +kernel
theorem dL_wakes_69 : decode cL_wakes 69 = .ok (.aload_n 3, 1) := by decide +kernel
theorem dL_wakes_70 : decode cL_wakes 70 = .ok (.iconst 0, 1) := by decide +kernel
theorem dL_wakes_71 : decode cL_wakes 71 = .ok (.iaload, 1) := by decide +kernel
theorem dL_wakes_72 : decode cL_wakes 72 = .ok (.if_icmp .ne 16, 3) := by decide +kernel
theorem dL_wakes_75 : decode cL_wakes 75 = .ok (.aload_n 0, 1) := by decide +kernel
theorem dL_wakes_76 : decode cL_wakes 76 = .ok (.invokevirtual 116, 3) := by decide +kernel
theorem dL_wakes_79 : decode cL_wakes 79 = .ok (.iload 5, 2) := by decide +kernel
theorem dL_wakes_81 : decode cL_wakes 81 = .ok (.if_icmp .ne 7, 3) := by decide +kernel
theorem dL_wakes_84 : decode cL_wakes 84 = .ok (.iconst 1, 1) := by decide +kernel
theorem dL_wakes_85 : decode cL_wakes 85 = .ok (.goto 4, 3) := by decide +kernel
theorem dL_wakes_88 : decode cL_wakes 88 = .ok (.iconst 0, 1) := by decide +kernel
theorem dL_wakes_89 : decode cL_wakes 89 = .ok (.ireturn, 1) := by decide +kernel
theorem dL_writes_0 : decode cL_writes 0 = .ok (.iconst 1, 1) := by decide +kernel
theorem dL_writes_1 : decode cL_writes 1 = .ok (.istore 7, 2) := by decide +kernel
theorem dL_writes_3 : decode cL_writes 3 = .ok (.aload 6, 2) := by decide +kernel
theorem dL_writes_5 : decode cL_writes 5 = .ok (.iconst 1, 1) := by decide +kernel
theorem dL_writes_6 : decode cL_writes 6 = .ok (.iaload, 1) := by decide +kernel
theorem dL_writes_7 : decode cL_writes 7 = .ok (.ifCond .ne 43, 3) := by decide +kernel
theorem dL_writes_10 : decode cL_writes 10 = .ok (.aload 4, 2) := by decide +kernel
theorem dL_writes_12 : decode cL_writes 12 = .ok (.aload 5, 2) := by decide +kernel
theorem dL_writes_14 : decode cL_writes 14 = .ok (.iconst 0, 1) := by decide +kernel
theorem dL_writes_15 : decode cL_writes 15 = .ok (.iconst 1, 1) := by decide +kernel
theorem dL_writes_16 : decode cL_writes 16 = .ok (.invokestatic 207, 3) := by decide +kernel
theorem dL_writes_19 : decode cL_writes 19 = .ok (.aload 5, 2) := by decide +kernel
theorem dL_writes_21 : decode cL_writes 21 = .ok (.iconst 1, 1) := by decide +kernel
theorem dL_writes_22 : decode cL_writes 22 = .ok (.dup2, 1) := by decide +kernel
theorem dL_writes_23 : decode cL_writes 23 = .ok (.iaload, 1) := by decide +kernel
theorem dL_writes_24 : decode cL_writes 24 = .ok (.iconst 1, 1) := by decide +kernel
theorem dL_writes_25 : decode cL_writes 25 = .ok (.iadd, 1) := by decide +kernel
theorem dL_writes_26 : decode cL_writes 26 = .ok (.iastore, 1) := by decide +kernel
theorem dL_writes_27 : decode cL_writes 27 = .ok (.aload 6, 2) := by decide +kernel
theorem dL_writes_29 : decode cL_writes 29 = .ok (.iconst 1, 1) := by decide +kernel
theorem dL_writes_30 : decode cL_writes 30 = .ok (.iconst 1, 1) := by decide +kernel
theorem dL_writes_31 : decode cL_writes 31 = .ok (.iastore, 1) := by decide +kernel
theorem dL_writes_32 : decode cL_writes 32 = .ok (.aload_n 0, 1) := by decide +kernel
theorem dL_writes_33 : decode cL_writes 33 = .ok (.invokestatic 211, 3) := by decide +kernel
theorem dL_writes_36 : decode cL_writes 36 = .ok (.aload 5, 2) := by decide +kernel
theorem dL_writes_38 : decode cL_writes 38 = .ok (.iconst 1, 1) := by decide +kernel
theorem dL_writes_39 : decode cL_writes 39 = .ok (.iaload, 1) := by decide +kernel
theorem dL_writes_40 : decode cL_writes 40 = .ok (.if_icmp .ne 7, 3) := by decide +kernel
theorem dL_writes_43 : decode cL_writes 43 = .ok (.iconst 1, 1) := by decide +kernel
theorem dL_writes_44 : decode cL_writes 44 = .ok (.goto 4, 3) := by decide +kernel
theorem dL_writes_47 : decode cL_writes 47 = .ok (.iconst 0, 1) := by decide +kernel
theorem dL_writes_48 : decode cL_writes 48 = .ok (.istore 7, 2) := by decide +kernel
theorem dL_writes_50 : decode cL_writes 50 = .ok (.iload_n 2, 1) := by decide +kernel
theorem dL_writes_51 : decode cL_writes 51 = .ok (.bipush 32, 2) := by decide +kernel
theorem dL_writes_53 : decode cL_writes 53 = .ok (.invokestatic 165, 3) := by decide +kernel
theorem dL_writes_56 : decode cL_writes 56 = .ok (.istore 8, 2) := by decide +kernel
theorem dL_writes_58 : decode cL_writes 58 = .ok (.iconst 1, 1) := by decide +kernel
theorem dL_writes_59 : decode cL_writes 59 = .ok (.iload_n 2, 1) := by decide +kernel
theorem dL_writes_60 : decode cL_writes 60 = .ok (.bipush 6, 2) := by decide +kernel
theorem dL_writes_62 : decode cL_writes 62 = .ok (.ishr, 1) := by decide +kernel
theorem dL_writes_63 : decode cL_writes 63 = .ok (.bipush 7, 2) := by decide +kernel
theorem dL_writes_65 : decode cL_writes 65 = .ok (.invokestatic 165, 3) := by decide +kernel
theorem dL_writes_68 : decode cL_writes 68 = .ok (.iadd, 1) := by decide +kernel
theorem dL_writes_69 : decode cL_writes 69 = .ok (.istore 9, 2) := by decide +kernel
theorem dL_writes_71 : decode cL_writes 71 = .ok (.iconst 1, 1) := by decide +kernel
theorem dL_writes_72 : decode cL_writes 72 = .ok (.iload_n 2, 1) := by decide +kernel
theorem dL_writes_73 : decode cL_writes 73 = .ok (.bipush 9, 2) := by decide +kernel
theorem dL_writes_75 : decode cL_writes 75 = .ok (.ishr, 1) := by decide +kernel
theorem dL_writes_76 : decode cL_writes 76 = .ok (.bipush 9, 2) := by decide +kernel
theorem dL_writes_78 : decode cL_writes 78 = .ok (.invokestatic 165, 3) := by decide +kernel
theorem dL_writes_81 : decode cL_writes 81 = .ok (.iadd, 1) := by decide +kernel
theorem dL_writes_82 : decode cL_writes 82 = .ok (.istore 10, 2) := by decide +kernel
theorem dL_writes_84 : decode cL_writes 84 = .ok (.iconst 0, 1) := by decide +kernel
theorem dL_writes_85 : decode cL_writes 85 = .ok (.istore 11, 2) := by decide +kernel
theorem dL_writes_87 : decode cL_writes 87 = .ok (.iload 11, 2) := by decide +kernel
theorem dL_writes_89 : decode cL_writes 89 = .ok (.iload 10, 2) := by decide +kernel
theorem dL_writes_91 : decode cL_writes 91 = .ok (.if_icmp .ge 145, 3) := by decide +kernel
theorem dL_writes_94 : decode cL_writes 94 = .ok (.iload 8, 2) := by decide +kernel
theorem dL_writes_96 : decode cL_writes 96 = .ok (.iload 11, 2) := by decide +kernel
theorem dL_writes_98 : decode cL_writes 98 = .ok (.iload 9, 2) := by decide +kernel
theorem dL_writes_100 : decode cL_writes 100 = .ok (.imul, 1) := by decide +kernel
theorem dL_writes_101 : decode cL_writes 101 = .ok (.iadd, 1) := by decide +kernel
theorem dL_writes_102 : decode cL_writes 102 = .ok (.bipush 32, 2) := by decide +kernel
theorem dL_writes_104 : decode cL_writes 104 = .ok (.irem, 1) := by decide +kernel
theorem dL_writes_105 : decode cL_writes 105 = .ok (.istore 12, 2) := by decide +kernel
theorem dL_writes_107 : decode cL_writes 107 = .ok (.aload 4, 2) := by decide +kernel
theorem dL_writes_109 : decode cL_writes 109 = .ok (.iconst 1, 1) := by decide +kernel
theorem dL_writes_110 : decode cL_writes 110 = .ok (.iload 12, 2) := by decide +kernel
theorem dL_writes_112 : decode cL_writes 112 = .ok (.invokestatic 152, 3) := by decide +kernel
theorem dL_writes_115 : decode cL_writes 115 = .ok (.istore 13, 2) := by decide +kernel
theorem dL_writes_117 : decode cL_writes 117 = .ok (.iload_n 1, 1) := by decide +kernel
theorem dL_writes_118 : decode cL_writes 118 = .ok (.iconst 5, 1) := by decide +kernel
theorem dL_writes_119 : decode cL_writes 119 = .ok (.ishr, 1) := by decide +kernel
theorem dL_writes_120 : decode cL_writes 120 = .ok (.iconst 5, 1) := by decide +kernel
theorem dL_writes_121 : decode cL_writes 121 = .ok (.invokestatic 165, 3) := by decide +kernel
theorem dL_writes_124 : decode cL_writes 124 = .ok (.iconst 3, 1) := by decide +kernel
theorem dL_writes_125 : decode cL_writes 125 = .ok (.if_icmp .ge 55, 3) := by decide +kernel
theorem dL_writes_128 : decode cL_writes 128 = .ok (.iload 7, 2) := by decide +kernel
theorem dL_writes_130 : decode cL_writes 130 = .ok (.ifCond .eq 35, 3) := by decide +kernel
theorem dL_writes_133 : decode cL_writes 133 = .ok (.aload_n 0, 1) := by decide +kernel
theorem dL_writes_134 : decode cL_writes 134 = .ok (.iload 12, 2) := by decide +kernel
theorem dL_writes_136 : decode cL_writes 136 = .ok (.invokestatic 156, 3) := by decide +kernel
theorem dL_writes_139 : decode cL_writes 139 = .ok (.iload_n 3, 1) := by decide +kernel
theorem dL_writes_140 : decode cL_writes 140 = .ok (.iload 12, 2) := by decide +kernel
theorem dL_writes_142 : decode cL_writes 142 = .ok (.invokestatic 175, 3) := by decide +kernel
theorem dL_writes_145 : decode cL_writes 145 = .ok (.invokestatic 215, 3) := by decide +kernel
theorem dL_writes_148 : decode cL_writes 148 = .ok (.iload 13, 2) := by decide +kernel
theorem dL_writes_150 : decode cL_writes 150 = .ok (.ifCond .le 7, 3) := by decide +kernel
theorem dL_writes_153 : decode cL_writes 153 = .ok (.iconst 0, 1) := by decide +kernel
theorem dL_writes_154 : decode cL_writes 154 = .ok (.goto 4, 3) := by decide +kernel
theorem dL_writes_157 : decode cL_writes 157 = .ok (.iconst 1, 1) := by decide +kernel
theorem dL_writes_158 : decode cL_writes 158 = .ok (.if_icmp .ne 7, 3) := by decide +kernel
theorem dL_writes_161 : decode cL_writes 161 = .ok (.iconst 1, 1) := by decide +kernel
theorem dL_writes_162 : decode cL_writes 162 = .ok (.goto 4, 3) := by decide +kernel
theorem dL_writes_165 : decode cL_writes 165 = .ok (.iconst 0, 1) := by decide +kernel
theorem dL_writes_166 : decode cL_writes 166 = .ok (.istore 7, 2) := by decide +kernel
theorem dL_writes_168 : decode cL_writes 168 = .ok (.aload 4, 2) := by decide +kernel
theorem dL_writes_170 : decode cL_writes 170 = .ok (.iconst 1, 1) := by decide +kernel
theorem dL_writes_171 : decode cL_writes 171 = .ok (.iload 12, 2) := by decide +kernel
theorem dL_writes_173 : decode cL_writes 173 = .ok (.iload_n 3, 1) := by decide +kernel
theorem dL_writes_174 : decode cL_writes 174 = .ok (.invokestatic 217, 3) := by decide +kernel
theorem dL_writes_177 : decode cL_writes 177 = .ok (.goto 53, 3) := by decide +kernel
theorem dL_writes_180 : decode cL_writes 180 = .ok (.iload 7, 2) := by decide +kernel
theorem dL_writes_182 : decode cL_writes 182 = .ok (.ifCond .eq 36, 3) := by decide +kernel
theorem dL_writes_185 : decode cL_writes 185 = .ok (.aload_n 0, 1) := by decide +kernel
theorem dL_writes_186 : decode cL_writes 186 = .ok (.iload 12, 2) := by decide +kernel
theorem dL_writes_188 : decode cL_writes 188 = .ok (.invokestatic 156, 3) := by decide +kernel
theorem dL_writes_191 : decode cL_writes 191 = .ok (.invokestatic 221, 3) := by decide +kernel
theorem dL_writes_194 : decode cL_writes 194 = .ok (.iload 13, 2) := by decide +kernel
theorem dL_writes_196 : decode cL_writes 196 = .ok (.ifCond .le 13, 3) := by decide +kernel
theorem dL_writes_199 : decode cL_writes 199 = .ok (.iload 13, 2) := by decide +kernel
theorem dL_writes_201 : decode cL_writes 201 = .ok (.iload 12, 2) := by decide +kernel
theorem dL_writes_203 : decode cL_writes 203 = .ok (.invokestatic 175, 3) := by decide +kernel
theorem dL_writes_206 : decode cL_writes 206 = .ok (.goto 5, 3) := by decide +kernel
theorem dL_writes_209 : decode cL_writes 209 = .ok (.ldc 37, 2) := by decide +kernel
theorem dL_writes_211 : decode cL_writes 211 = .ok (.if_icmp .ne 7, 3) := by decide +kernel
theorem dL_writes_214 : decode cL_writes 214 = .ok (.iconst 1, 1) := by decide +kernel
theorem dL_writes_215 : decode cL_writes 215 = .ok (.goto 4, 3) := by decide +kernel
theorem dL_writes_218 : decode cL_writes 218 = .ok (.iconst 0, 1) := by decide +kernel
theorem dL_writes_219 : decode cL_writes 219 = .ok (.istore 7, 2) := by decide +kernel
theorem dL_writes_221 : decode cL_writes 221 = .ok (.aload 4, 2) := by decide +kernel
theorem dL_writes_223 : decode cL_writes 223 = .ok (.iconst 1, 1) := by decide +kernel
theorem dL_writes_224 : decode cL_writes 224 = .ok (.iload 12, 2) := by decide +kernel
theorem dL_writes_226 : decode cL_writes 226 = .ok (.iconst 0, 1) := by decide +kernel
theorem dL_writes_227 : decode cL_writes 227 = .ok (.invokestatic 217, 3) := by decide +kernel
theorem dL_writes_230 : decode cL_writes 230 = .ok (.iinc 11 1, 3) := by decide +kernel
theorem dL_writes_233 : decode cL_writes 233 = .ok (.goto (-146), 3) := by decide +kernel
theorem dL_writes_236 : decode cL_writes 236 = .ok (.iload 7, 2) := by decide +kernel
theorem dL_writes_238 : decode cL_writes 238 = .ok (.ifCond .eq 38, 3) := by decide +kernel
theorem dL_writes_241 : decode cL_writes 241 = .ok (.aload_n 0, 1) := by decide +kernel
theorem dL_writes_242 : decode cL_writes 242 = .ok (.invokestatic 211, 3) := by decide +kernel
theorem dL_writes_245 : decode cL_writes 245 = .ok (.ldc 23, 2) := by decide +kernel
theorem dL_writes_247 : decode cL_writes 247 = .ok (.if_icmp .ne 29, 3) := by decide +kernel
theorem dL_writes_250 : decode cL_writes 250 = .ok (.aload_n 0, 1) := by decide +kernel
theorem dL_writes_251 : decode cL_writes 251 = .ok (.bipush 100, 2) := by decide +kernel
theorem dL_writes_253 : decode cL_writes 253 = .ok (.iconst 1, 1) := by decide +kernel
theorem dL_writes_254 : decode cL_writes 254 = .ok (.invokestatic 215, 3) := by decide +kernel
theorem dL_writes_257 : decode cL_writes 257 = .ok (.ldc 23, 2) := by decide +kernel
theorem dL_writes_259 : decode cL_writes 259 = .ok (.if_icmp .ne 17, 3) := by decide +kernel
theorem dL_writes_262 : decode cL_writes 262 = .ok (.aload_n 0, 1) := by decide +kernel
theorem dL_writes_263 : decode cL_writes 263 = .ok (.iconst (-1), 1) := by decide +kernel
theorem dL_writes_264 : decode cL_writes 264 = .ok (.invokestatic 221, 3) := by decide +kernel
theorem dL_writes_267 : decode cL_writes 267 = .ok (.ldc 23, 2) := by decide +kernel
theorem dL_writes_269 : decode cL_writes 269 = .ok (.if_icmp .ne 7, 3) := by decide +kernel
theorem dL_writes_272 : decode cL_writes 272 = .ok (.iconst 1, 1) := by decide +kernel
theorem dL_writes_273 : decode cL_writes 273 = .ok (.goto 4, 3) := by decide +kernel
theorem dL_writes_276 : decode cL_writes 276 = .ok (.iconst 0, 1) := by decide +kernel
theorem dL_writes_277 : decode cL_writes 277 = .ok (.ireturn, 1) := by decide +kernel
theorem dL_reads_0 : decode cL_reads 0 = .ok (.iload_n 1, 1) := by decide +kernel
theorem dL_reads_1 : decode cL_reads 1 = .ok (.iconst 2, 1) := by decide +kernel
theorem dL_reads_2 : decode cL_reads 2 = .ok (.invokestatic 165, 3) := by decide +kernel
theorem dL_reads_5 : decode cL_reads 5 = .ok (.ifCond .ne 80, 3) := by decide +kernel
theorem dL_reads_8 : decode cL_reads 8 = .ok (.iconst 0, 1) := by decide +kernel
theorem dL_reads_9 : decode cL_reads 9 = .ok (.istore 6, 2) := by decide +kernel
theorem dL_reads_11 : decode cL_reads 11 = .ok (.iload 6, 2) := by decide +kernel
theorem dL_reads_13 : decode cL_reads 13 = .ok (.iconst 4, 1) := by decide +kernel
theorem dL_reads_14 : decode cL_reads 14 = .ok (.if_icmp .ge 20, 3) := by decide +kernel
theorem dL_reads_17 : decode cL_reads 17 = .ok (.aload 5, 2) := by decide +kernel
theorem dL_reads_19 : decode cL_reads 19 = .ok (.iconst 2, 1) := by decide +kernel
theorem dL_reads_20 : decode cL_reads 20 = .ok (.iload 6, 2) := by decide +kernel
theorem dL_reads_22 : decode cL_reads 22 = .ok (.iadd, 1) := by decide +kernel
theorem dL_reads_23 : decode cL_reads 23 = .ok (.iaload, 1) := by decide +kernel
theorem dL_reads_24 : decode cL_reads 24 = .ok (.iconst 1, 1) := by decide +kernel
theorem dL_reads_25 : decode cL_reads 25 = .ok (.if_icmp .ne 9, 3) := by decide +kernel
theorem dL_reads_28 : decode cL_reads 28 = .ok (.iinc 6 1, 3) := by decide +kernel
theorem dL_reads_31 : decode cL_reads 31 = .ok (.goto (-20), 3) := by decide +kernel
theorem dL_reads_34 : decode cL_reads 34 = .ok (.iload 6, 2) := by decide +kernel
theorem dL_reads_36 : decode cL_reads 36 = .ok (.iconst 4, 1) := by decide +kernel
theorem dL_reads_37 : decode cL_reads 37 = .ok (.if_icmp .ge 22, 3) := by decide +kernel
theorem dL_reads_40 : decode cL_reads 40 = .ok (.aload_n 3, 1) := by decide +kernel
theorem dL_reads_41 : decode cL_reads 41 = .ok (.aload 4, 2) := by decide +kernel
theorem dL_reads_43 : decode cL_reads 43 = .ok (.iconst 0, 1) := by decide +kernel
theorem dL_reads_44 : decode cL_reads 44 = .ok (.iconst 2, 1) := by decide +kernel
theorem dL_reads_45 : decode cL_reads 45 = .ok (.iload 6, 2) := by decide +kernel
theorem dL_reads_47 : decode cL_reads 47 = .ok (.iadd, 1) := by decide +kernel
theorem dL_reads_48 : decode cL_reads 48 = .ok (.invokestatic 207, 3) := by decide +kernel
theorem dL_reads_51 : decode cL_reads 51 = .ok (.aload 5, 2) := by decide +kernel
theorem dL_reads_53 : decode cL_reads 53 = .ok (.iconst 2, 1) := by decide +kernel
theorem dL_reads_54 : decode cL_reads 54 = .ok (.iload 6, 2) := by decide +kernel
theorem dL_reads_56 : decode cL_reads 56 = .ok (.iadd, 1) := by decide +kernel
theorem dL_reads_57 : decode cL_reads 57 = .ok (.iconst 1, 1) := by decide +kernel
theorem dL_reads_58 : decode cL_reads 58 = .ok (.iastore, 1) := by decide +kernel
theorem dL_reads_59 : decode cL_reads 59 = .ok (.aload_n 0, 1) := by decide +kernel
theorem dL_reads_60 : decode cL_reads 60 = .ok (.invokestatic 223, 3) := by decide +kernel
theorem dL_reads_63 : decode cL_reads 63 = .ok (.iload 6, 2) := by decide +kernel
theorem dL_reads_65 : decode cL_reads 65 = .ok (.iconst 4, 1) := by decide +kernel
theorem dL_reads_66 : decode cL_reads 66 = .ok (.if_icmp .ge 8, 3) := by decide +kernel
theorem dL_reads_69 : decode cL_reads 69 = .ok (.iload 6, 2) := by decide +kernel
theorem dL_reads_71 : decode cL_reads 71 = .ok (.goto 5, 3) := by decide +kernel
theorem dL_reads_74 : decode cL_reads 74 = .ok (.ldc 23, 2) := by decide +kernel
theorem dL_reads_76 : decode cL_reads 76 = .ok (.if_icmp .ne 7, 3) := by decide +kernel
theorem dL_reads_79 : decode cL_reads 79 = .ok (.iconst 1, 1) := by decide +kernel
theorem dL_reads_80 : decode cL_reads 80 = .ok (.goto 4, 3) := by decide +kernel
theorem dL_reads_83 : decode cL_reads 83 = .ok (.iconst 0, 1) := by decide +kernel
theorem dL_reads_84 : decode cL_reads 84 = .ok (.ireturn, 1) := by decide +kernel
theorem dL_reads_85 : decode cL_reads 85 = .ok (.iload_n 2, 1) := by decide +kernel
theorem dL_reads_86 : decode cL_reads 86 = .ok (.iconst 4, 1) := by decide +kernel
theorem dL_reads_87 : decode cL_reads 87 = .ok (.invokestatic 165, 3) := by decide +kernel
theorem dL_reads_90 : decode cL_reads 90 = .ok (.istore 6, 2) := by decide +kernel
theorem dL_reads_92 : decode cL_reads 92 = .ok (.aload_n 0, 1) := by decide +kernel
theorem dL_reads_93 : decode cL_reads 93 = .ok (.invokevirtual 110, 3) := by decide +kernel
theorem dL_reads_96 : decode cL_reads 96 = .ok (.istore 7, 2) := by decide +kernel
theorem dL_reads_98 : decode cL_reads 98 = .ok (.aload_n 0, 1) := by decide +kernel
theorem dL_reads_99 : decode cL_reads 99 = .ok (.iload 6, 2) := by decide +kernel
theorem dL_reads_101 : decode cL_reads 101 = .ok (.invokestatic 199, 3) := by decide +kernel
theorem dL_reads_104 : decode cL_reads 104 = .ok (.istore 8, 2) := by decide +kernel
theorem dL_reads_106 : decode cL_reads 106 = .ok (.aload_n 0, 1) := by decide +kernel
theorem dL_reads_107 : decode cL_reads 107 = .ok (.iload 6, 2) := by decide +kernel
theorem dL_reads_109 : decode cL_reads 109 = .ok (.invokestatic 226, 3) := by decide +kernel
theorem dL_reads_112 : decode cL_reads 112 = .ok (.istore 9, 2) := by decide +kernel
theorem dL_reads_114 : decode cL_reads 114 = .ok (.aload 5, 2) := by decide +kernel
theorem dL_reads_116 : decode cL_reads 116 = .ok (.iconst 2, 1) := by decide +kernel
theorem dL_reads_117 : decode cL_reads 117 = .ok (.iload 6, 2) := by decide +kernel
theorem dL_reads_119 : decode cL_reads 119 = .ok (.iadd, 1) := by decide +kernel
theorem dL_reads_120 : decode cL_reads 120 = .ok (.iaload, 1) := by decide +kernel
theorem dL_reads_121 : decode cL_reads 121 = .ok (.iconst 1, 1) := by decide +kernel
theorem dL_reads_122 : decode cL_reads 122 = .ok (.if_icmp .ne 7, 3) := by decide +kernel
theorem dL_reads_125 : decode cL_reads 125 = .ok (.iconst 1, 1) := by decide +kernel
theorem dL_reads_126 : decode cL_reads 126 = .ok (.goto 4, 3) := by decide +kernel
theorem dL_reads_129 : decode cL_reads 129 = .ok (.iconst 0, 1) := by decide +kernel
theorem dL_reads_130 : decode cL_reads 130 = .ok (.istore 10, 2) := by decide +kernel
theorem dL_reads_132 : decode cL_reads 132 = .ok (.aload 5, 2) := by decide +kernel
theorem dL_reads_134 : decode cL_reads 134 = .ok (.iconst 2, 1) := by decide +kernel
theorem dL_reads_135 : decode cL_reads 135 = .ok (.iload 6, 2) := by decide +kernel
theorem dL_reads_137 : decode cL_reads 137 = .ok (.iadd, 1) := by decide +kernel
theorem dL_reads_138 : decode cL_reads 138 = .ok (.iconst 0, 1) := by decide +kernel
theorem dL_reads_139 : decode cL_reads 139 = .ok (.iastore, 1) := by decide +kernel
theorem dL_reads_140 : decode cL_reads 140 = .ok (.iload 8, 2) := by decide +kernel
theorem dL_reads_142 : decode cL_reads 142 = .ok (.iload 9, 2) := by decide +kernel
theorem dL_reads_144 : decode cL_reads 144 = .ok (.if_icmp .ne 39, 3) := by decide +kernel
theorem dL_reads_147 : decode cL_reads 147 = .ok (.iload 10, 2) := by decide +kernel
theorem dL_reads_149 : decode cL_reads 149 = .ok (.ifCond .eq 23, 3) := by decide +kernel
theorem dL_reads_152 : decode cL_reads 152 = .ok (.iload 9, 2) := by decide +kernel
theorem dL_reads_154 : decode cL_reads 154 = .ok (.ifCond .lt 29, 3) := by decide +kernel
theorem dL_reads_157 : decode cL_reads 157 = .ok (.aload_n 0, 1) := by decide +kernel
theorem dL_reads_158 : decode cL_reads 158 = .ok (.invokevirtual 110, 3) := by decide +kernel
theorem dL_reads_161 : decode cL_reads 161 = .ok (.iload 7, 2) := by decide +kernel
theorem dL_reads_163 : decode cL_reads 163 = .ok (.iload 9, 2) := by decide +kernel
theorem dL_reads_165 : decode cL_reads 165 = .ok (.isub, 1) := by decide +kernel
theorem dL_reads_166 : decode cL_reads 166 = .ok (.if_icmp .ne 17, 3) := by decide +kernel
theorem dL_reads_169 : decode cL_reads 169 = .ok (.goto 10, 3) := by decide +kernel
theorem dL_reads_172 : decode cL_reads 172 = .ok (.iload 9, 2) := by decide +kernel
theorem dL_reads_174 : decode cL_reads 174 = .ok (.ldc 23, 2) := by decide +kernel
theorem dL_reads_176 : decode cL_reads 176 = .ok (.if_icmp .ne 7, 3) := by decide +kernel
theorem dL_reads_179 : decode cL_reads 179 = .ok (.iconst 1, 1) := by decide +kernel
theorem dL_reads_180 : decode cL_reads 180 = .ok (.goto 4, 3) := by decide +kernel
theorem dL_reads_183 : decode cL_reads 183 = .ok (.iconst 0, 1) := by decide +kernel
theorem dL_reads_184 : decode cL_reads 184 = .ok (.ireturn, 1) := by decide +kernel
theorem dL_tears_0 : decode cL_tears 0 = .ok (.aload_n 0, 1) := by decide +kernel
theorem dL_tears_1 : decode cL_tears 1 = .ok (.invokevirtual 110, 3) := by decide +kernel
theorem dL_tears_4 : decode cL_tears 4 = .ok (.istore_n 3, 1) := by decide +kernel
theorem dL_tears_5 : decode cL_tears 5 = .ok (.aload_n 0, 1) := by decide +kernel
theorem dL_tears_6 : decode cL_tears 6 = .ok (.iload_n 1, 1) := by decide +kernel
theorem dL_tears_7 : decode cL_tears 7 = .ok (.invokestatic 229, 3) := by decide +kernel
theorem dL_tears_10 : decode cL_tears 10 = .ok (.istore 4, 2) := by decide +kernel
theorem dL_tears_12 : decode cL_tears 12 = .ok (.aload_n 2, 1) := by decide +kernel
theorem dL_tears_13 : decode cL_tears 13 = .ok (.bipush 7, 2) := by decide +kernel
theorem dL_tears_15 : decode cL_tears 15 = .ok (.iload_n 1, 1) := by decide +kernel
theorem dL_tears_16 : decode cL_tears 16 = .ok (.isub, 1) := by decide +kernel
theorem dL_tears_17 : decode cL_tears 17 = .ok (.iaload, 1) := by decide +kernel
theorem dL_tears_18 : decode cL_tears 18 = .ok (.ifCond .ne 16, 3) := by decide +kernel
theorem dL_tears_21 : decode cL_tears 21 = .ok (.iload 4, 2) := by decide +kernel
theorem dL_tears_23 : decode cL_tears 23 = .ok (.ldc 30, 2) := by decide +kernel
theorem dL_tears_25 : decode cL_tears 25 = .ok (.if_icmp .ne 7, 3) := by decide +kernel
theorem dL_tears_28 : decode cL_tears 28 = .ok (.iconst 1, 1) := by decide +kernel
theorem dL_tears_29 : decode cL_tears 29 = .ok (.goto 4, 3) := by decide +kernel
theorem dL_tears_32 : decode cL_tears 32 = .ok (.iconst 0, 1) := by decide +kernel
theorem dL_tears_33 : decode cL_tears 33 = .ok (.ireturn, 1) := by decide +kernel
theorem dL_tears_34 : decode cL_tears 34 = .ok (.aload_n 2, 1) := by decide +kernel
theorem dL_tears_35 : decode cL_tears 35 = .ok (.bipush 6, 2) := by decide +kernel
theorem dL_tears_37 : decode cL_tears 37 = .ok (.iload_n 1, 1) := by decide +kernel
theorem dL_tears_38 : decode cL_tears 38 = .ok (.iadd, 1) := by decide +kernel
theorem dL_tears_39 : decode cL_tears 39 = .ok (.iconst 0, 1) := by decide +kernel
theorem dL_tears_40 : decode cL_tears 40 = .ok (.iastore, 1) := by decide +kernel
theorem dL_tears_41 : decode cL_tears 41 = .ok (.iload 4, 2) := by decide +kernel
theorem dL_tears_43 : decode cL_tears 43 = .ok (.ifCond .lt 31, 3) := by decide +kernel
theorem dL_tears_46 : decode cL_tears 46 = .ok (.aload_n 0, 1) := by decide +kernel
theorem dL_tears_47 : decode cL_tears 47 = .ok (.invokevirtual 110, 3) := by decide +kernel
theorem dL_tears_50 : decode cL_tears 50 = .ok (.iload_n 3, 1) := by decide +kernel
theorem dL_tears_51 : decode cL_tears 51 = .ok (.iload 4, 2) := by decide +kernel
theorem dL_tears_53 : decode cL_tears 53 = .ok (.isub, 1) := by decide +kernel
theorem dL_tears_54 : decode cL_tears 54 = .ok (.if_icmp .ne 20, 3) := by decide +kernel
theorem dL_tears_57 : decode cL_tears 57 = .ok (.aload_n 0, 1) := by decide +kernel
theorem dL_tears_58 : decode cL_tears 58 = .ok (.iload_n 1, 1) := by decide +kernel
theorem dL_tears_59 : decode cL_tears 59 = .ok (.iconst 3, 1) := by decide +kernel
theorem dL_tears_60 : decode cL_tears 60 = .ok (.invokestatic 126, 3) := by decide +kernel
theorem dL_tears_63 : decode cL_tears 63 = .ok (.ldc2_w 12, 3) := by decide +kernel
theorem dL_tears_66 : decode cL_tears 66 = .ok (.lcmp, 1) := by decide +kernel
theorem dL_tears_67 : decode cL_tears 67 = .ok (.ifCond .ne 7, 3) := by decide +kernel
theorem dL_tears_70 : decode cL_tears 70 = .ok (.iconst 1, 1) := by decide +kernel
theorem dL_tears_71 : decode cL_tears 71 = .ok (.goto 4, 3) := by decide +kernel
theorem dL_tears_74 : decode cL_tears 74 = .ok (.iconst 0, 1) := by decide +kernel
theorem dL_tears_75 : decode cL_tears 75 = .ok (.ireturn, 1) := by decide +kernel
theorem dL_ends_0 : decode cL_ends 0 = .ok (.iload_n 1, 1) := by decide +kernel
theorem dL_ends_1 : decode cL_ends 1 = .ok (.bipush 8, 2) := by decide +kernel
theorem dL_ends_3 : decode cL_ends 3 = .ok (.invokestatic 165, 3) := by decide +kernel
theorem dL_ends_6 : decode cL_ends 6 = .ok (.istore 6, 2) := by decide +kernel
theorem dL_ends_8 : decode cL_ends 8 = .ok (.aload_n 0, 1) := by decide +kernel
theorem dL_ends_9 : decode cL_ends 9 = .ok (.invokevirtual 116, 3) := by decide +kernel
theorem dL_ends_12 : decode cL_ends 12 = .ok (.istore 7, 2) := by decide +kernel
theorem dL_ends_14 : decode cL_ends 14 = .ok (.iconst 1, 1) := by decide +kernel
theorem dL_ends_15 : decode cL_ends 15 = .ok (.iload 7, 2) := by decide +kernel
theorem dL_ends_17 : decode cL_ends 17 = .ok (.isub, 1) := by decide +kernel
theorem dL_ends_18 : decode cL_ends 18 = .ok (.istore 8, 2) := by decide +kernel
theorem dL_ends_20 : decode cL_ends 20 = .ok (.iload 6, 2) := by decide +kernel
theorem dL_ends_22 : decode cL_ends 22 = .ok (.ifCond .ne 17, 3) := by decide +kernel
theorem dL_ends_25 : decode cL_ends 25 = .ok (.aload_n 0, 1) := by decide +kernel
theorem dL_ends_26 : decode cL_ends 26 = .ok (.aload_n 0, 1) := by decide +kernel
theorem dL_ends_27 : decode cL_ends 27 = .ok (.invokevirtual 231, 3) := by decide +kernel
theorem dL_ends_30 : decode cL_ends 30 = .ok (.aload_n 3, 1) := by decide +kernel
theorem dL_ends_31 : decode cL_ends 31 = .ok (.aload 4, 2) := by decide +kernel
theorem dL_ends_33 : decode cL_ends 33 = .ok (.aload 5, 2) := by decide +kernel
theorem dL_ends_35 : decode cL_ends 35 = .ok (.invokestatic 234, 3) := by decide +kernel
theorem dL_ends_38 : decode cL_ends 38 = .ok (.ireturn, 1) := by decide +kernel
theorem dL_ends_39 : decode cL_ends 39 = .ok (.iload 6, 2) := by decide +kernel
theorem dL_ends_41 : decode cL_ends 41 = .ok (.iconst 4, 1) := by decide +kernel
theorem dL_ends_42 : decode cL_ends 42 = .ok (.if_icmp .ge 126, 3) := by decide +kernel
theorem dL_ends_45 : decode cL_ends 45 = .ok (.iload_n 2, 1) := by decide +kernel
theorem dL_ends_46 : decode cL_ends 46 = .ok (.bipush 6, 2) := by decide +kernel
theorem dL_ends_48 : decode cL_ends 48 = .ok (.invokestatic 165, 3) := by decide +kernel
theorem dL_ends_51 : decode cL_ends 51 = .ok (.istore 9, 2) := by decide +kernel
theorem dL_ends_53 : decode cL_ends 53 = .ok (.aload_n 0, 1) := by decide +kernel
theorem dL_ends_54 : decode cL_ends 54 = .ok (.iload 9, 2) := by decide +kernel
theorem dL_ends_56 : decode cL_ends 56 = .ok (.invokestatic 238, 3) := by decide +kernel
theorem dL_ends_59 : decode cL_ends 59 = .ok (.istore 10, 2) := by decide +kernel
theorem dL_ends_61 : decode cL_ends 61 = .ok (.iload 9, 2) := by decide +kernel
theorem dL_ends_63 : decode cL_ends 63 = .ok (.iconst 5, 1) := by decide +kernel
theorem dL_ends_64 : decode cL_ends 64 = .ok (.if_icmp .eq 32, 3) := by decide +kernel
theorem dL_ends_67 : decode cL_ends 67 = .ok (.aload 5, 2) := by decide +kernel
theorem dL_ends_69 : decode cL_ends 69 = .ok (.iconst 1, 1) := by decide +kernel
theorem dL_ends_70 : decode cL_ends 70 = .ok (.iaload, 1) := by decide +kernel
theorem dL_ends_71 : decode cL_ends 71 = .ok (.ifCond .eq 25, 3) := by decide +kernel
theorem dL_ends_74 : decode cL_ends 74 = .ok (.iload 9, 2) := by decide +kernel
theorem dL_ends_76 : decode cL_ends 76 = .ok (.ifCond .le 44, 3) := by decide +kernel
theorem dL_ends_79 : decode cL_ends 79 = .ok (.iload 9, 2) := by decide +kernel
theorem dL_ends_81 : decode cL_ends 81 = .ok (.iconst 4, 1) := by decide +kernel
theorem dL_ends_82 : decode cL_ends 82 = .ok (.if_icmp .ge 38, 3) := by decide +kernel
theorem dL_ends_85 : decode cL_ends 85 = .ok (.aload 5, 2) := by decide +kernel
theorem dL_ends_87 : decode cL_ends 87 = .ok (.bipush 6, 2) := by decide +kernel
theorem dL_ends_89 : decode cL_ends 89 = .ok (.iload 7, 2) := by decide +kernel
theorem dL_ends_91 : decode cL_ends 91 = .ok (.iadd, 1) := by decide +kernel
theorem dL_ends_92 : decode cL_ends 92 = .ok (.iaload, 1) := by decide +kernel
theorem dL_ends_93 : decode cL_ends 93 = .ok (.ifCond .ne 27, 3) := by decide +kernel
theorem dL_ends_96 : decode cL_ends 96 = .ok (.iload 10, 2) := by decide +kernel
theorem dL_ends_98 : decode cL_ends 98 = .ok (.iload 9, 2) := by decide +kernel
theorem dL_ends_100 : decode cL_ends 100 = .ok (.iconst 5, 1) := by decide +kernel
theorem dL_ends_101 : decode cL_ends 101 = .ok (.if_icmp .ne 8, 3) := by decide +kernel
theorem dL_ends_104 : decode cL_ends 104 = .ok (.ldc 23, 2) := by decide +kernel
theorem dL_ends_106 : decode cL_ends 106 = .ok (.goto 5, 3) := by decide +kernel
theorem dL_ends_109 : decode cL_ends 109 = .ok (.ldc 30, 2) := by decide +kernel
theorem dL_ends_111 : decode cL_ends 111 = .ok (.if_icmp .ne 7, 3) := by decide +kernel
theorem dL_ends_114 : decode cL_ends 114 = .ok (.iconst 1, 1) := by decide +kernel
theorem dL_ends_115 : decode cL_ends 115 = .ok (.goto 4, 3) := by decide +kernel
theorem dL_ends_118 : decode cL_ends 118 = .ok (.iconst 0, 1) := by decide +kernel
theorem dL_ends_119 : decode cL_ends 119 = .ok (.ireturn, 1) := by decide +kernel
theorem dL_ends_120 : decode cL_ends 120 = .ok (.iload 9, 2) := by decide +kernel
theorem dL_ends_122 : decode cL_ends 122 = .ok (.ifCond .le 34, 3) := by decide +kernel
theorem dL_ends_125 : decode cL_ends 125 = .ok (.aload 5, 2) := by decide +kernel
theorem dL_ends_127 : decode cL_ends 127 = .ok (.bipush 6, 2) := by decide +kernel
theorem dL_ends_129 : decode cL_ends 129 = .ok (.iload 8, 2) := by decide +kernel
theorem dL_ends_131 : decode cL_ends 131 = .ok (.iadd, 1) := by decide +kernel
theorem dL_ends_132 : decode cL_ends 132 = .ok (.iload 9, 2) := by decide +kernel
theorem dL_ends_134 : decode cL_ends 134 = .ok (.iconst 4, 1) := by decide +kernel
theorem dL_ends_135 : decode cL_ends 135 = .ok (.if_icmp .ne 7, 3) := by decide +kernel
theorem dL_ends_138 : decode cL_ends 138 = .ok (.iconst 1, 1) := by decide +kernel
theorem dL_ends_139 : decode cL_ends 139 = .ok (.goto 4, 3) := by decide +kernel
theorem dL_ends_142 : decode cL_ends 142 = .ok (.iconst 0, 1) := by decide +kernel
theorem dL_ends_143 : decode cL_ends 143 = .ok (.iastore, 1) := by decide +kernel
theorem dL_ends_144 : decode cL_ends 144 = .ok (.aload_n 3, 1) := by decide +kernel
theorem dL_ends_145 : decode cL_ends 145 = .ok (.aload 4, 2) := by decide +kernel
theorem dL_ends_147 : decode cL_ends 147 = .ok (.iconst 1, 1) := by decide +kernel
theorem dL_ends_148 : decode cL_ends 148 = .ok (.bipush 6, 2) := by decide +kernel
theorem dL_ends_150 : decode cL_ends 150 = .ok (.iload 8, 2) := by decide +kernel
theorem dL_ends_152 : decode cL_ends 152 = .ok (.iadd, 1) := by decide +kernel
theorem dL_ends_153 : decode cL_ends 153 = .ok (.invokestatic 207, 3) := by decide +kernel
theorem dL_ends_156 : decode cL_ends 156 = .ok (.aload_n 0, 1) := by decide +kernel
theorem dL_ends_157 : decode cL_ends 157 = .ok (.iload 10, 2) := by decide +kernel
theorem dL_ends_159 : decode cL_ends 159 = .ok (.aload_n 3, 1) := by decide +kernel
theorem dL_ends_160 : decode cL_ends 160 = .ok (.aload 4, 2) := by decide +kernel
theorem dL_ends_162 : decode cL_ends 162 = .ok (.aload 5, 2) := by decide +kernel
theorem dL_ends_164 : decode cL_ends 164 = .ok (.invokestatic 234, 3) := by decide +kernel
theorem dL_ends_167 : decode cL_ends 167 = .ok (.ireturn, 1) := by decide +kernel
theorem dL_ends_168 : decode cL_ends 168 = .ok (.aload 5, 2) := by decide +kernel
theorem dL_ends_170 : decode cL_ends 170 = .ok (.iconst 1, 1) := by decide +kernel
theorem dL_ends_171 : decode cL_ends 171 = .ok (.iaload, 1) := by decide +kernel
theorem dL_ends_172 : decode cL_ends 172 = .ok (.ifCond .ne 31, 3) := by decide +kernel
theorem dL_ends_175 : decode cL_ends 175 = .ok (.iload 6, 2) := by decide +kernel
theorem dL_ends_177 : decode cL_ends 177 = .ok (.iconst 4, 1) := by decide +kernel
theorem dL_ends_178 : decode cL_ends 178 = .ok (.if_icmp .ne 10, 3) := by decide +kernel
theorem dL_ends_181 : decode cL_ends 181 = .ok (.aload_n 0, 1) := by decide +kernel
theorem dL_ends_182 : decode cL_ends 182 = .ok (.invokestatic 240, 3) := by decide +kernel
theorem dL_ends_185 : decode cL_ends 185 = .ok (.goto 7, 3) := by decide +kernel
theorem dL_ends_188 : decode cL_ends 188 = .ok (.aload_n 0, 1) := by decide +kernel
theorem dL_ends_189 : decode cL_ends 189 = .ok (.invokestatic 242, 3) := by decide +kernel
theorem dL_ends_192 : decode cL_ends 192 = .ok (.ldc 23, 2) := by decide +kernel
theorem dL_ends_194 : decode cL_ends 194 = .ok (.if_icmp .ne 7, 3) := by decide +kernel
theorem dL_ends_197 : decode cL_ends 197 = .ok (.iconst 1, 1) := by decide +kernel
theorem dL_ends_198 : decode cL_ends 198 = .ok (.goto 4, 3) := by decide +kernel
theorem dL_ends_201 : decode cL_ends 201 = .ok (.iconst 0, 1) := by decide +kernel
theorem dL_ends_202 : decode cL_ends 202 = .ok (.ireturn, 1) := by decide +kernel
theorem dL_ends_203 : decode cL_ends 203 = .ok (.aload 5, 2) := by decide +kernel
theorem dL_ends_205 : decode cL_ends 205 = .ok (.iconst 1, 1) := by decide +kernel
theorem dL_ends_206 : decode cL_ends 206 = .ok (.iconst 0, 1) := by decide +kernel
theorem dL_ends_207 : decode cL_ends 207 = .ok (.iastore, 1) := by decide +kernel
theorem dL_ends_208 : decode cL_ends 208 = .ok (.aload_n 0, 1) := by decide +kernel
theorem dL_ends_209 : decode cL_ends 209 = .ok (.invokevirtual 110, 3) := by decide +kernel
theorem dL_ends_212 : decode cL_ends 212 = .ok (.istore 9, 2) := by decide +kernel
theorem dL_ends_214 : decode cL_ends 214 = .ok (.iload 6, 2) := by decide +kernel
theorem dL_ends_216 : decode cL_ends 216 = .ok (.iconst 4, 1) := by decide +kernel
theorem dL_ends_217 : decode cL_ends 217 = .ok (.if_icmp .ne 32, 3) := by decide +kernel
theorem dL_ends_220 : decode cL_ends 220 = .ok (.aload_n 0, 1) := by decide +kernel
theorem dL_ends_221 : decode cL_ends 221 = .ok (.invokestatic 240, 3) := by decide +kernel
theorem dL_ends_224 : decode cL_ends 224 = .ok (.istore 10, 2) := by decide +kernel
theorem dL_ends_226 : decode cL_ends 226 = .ok (.iload 10, 2) := by decide +kernel
theorem dL_ends_228 : decode cL_ends 228 = .ok (.ifCond .lt 19, 3) := by decide +kernel
theorem dL_ends_231 : decode cL_ends 231 = .ok (.aload_n 0, 1) := by decide +kernel
theorem dL_ends_232 : decode cL_ends 232 = .ok (.invokevirtual 110, 3) := by decide +kernel
theorem dL_ends_235 : decode cL_ends 235 = .ok (.iload 9, 2) := by decide +kernel
theorem dL_ends_237 : decode cL_ends 237 = .ok (.iload 10, 2) := by decide +kernel
theorem dL_ends_239 : decode cL_ends 239 = .ok (.isub, 1) := by decide +kernel
theorem dL_ends_240 : decode cL_ends 240 = .ok (.if_icmp .ne 7, 3) := by decide +kernel
theorem dL_ends_243 : decode cL_ends 243 = .ok (.iconst 1, 1) := by decide +kernel
theorem dL_ends_244 : decode cL_ends 244 = .ok (.goto 4, 3) := by decide +kernel
theorem dL_ends_247 : decode cL_ends 247 = .ok (.iconst 0, 1) := by decide +kernel
theorem dL_ends_248 : decode cL_ends 248 = .ok (.ireturn, 1) := by decide +kernel
theorem dL_ends_249 : decode cL_ends 249 = .ok (.aload_n 3, 1) := by decide +kernel
theorem dL_ends_250 : decode cL_ends 250 = .ok (.aload 4, 2) := by decide +kernel
theorem dL_ends_252 : decode cL_ends 252 = .ok (.iconst 1, 1) := by decide +kernel
theorem dL_ends_253 : decode cL_ends 253 = .ok (.iconst 0, 1) := by decide +kernel
theorem dL_ends_254 : decode cL_ends 254 = .ok (.invokestatic 207, 3) := by decide +kernel
theorem dL_ends_257 : decode cL_ends 257 = .ok (.aload_n 3, 1) := by decide +kernel
theorem dL_ends_258 : decode cL_ends 258 = .ok (.aload 4, 2) := by decide +kernel
theorem dL_ends_260 : decode cL_ends 260 = .ok (.iconst 1, 1) := by decide +kernel
theorem dL_ends_261 : decode cL_ends 261 = .ok (.bipush 6, 2) := by decide +kernel
theorem dL_ends_263 : decode cL_ends 263 = .ok (.iload 8, 2) := by decide +kernel
theorem dL_ends_265 : decode cL_ends 265 = .ok (.iadd, 1) := by decide +kernel
theorem dL_ends_266 : decode cL_ends 266 = .ok (.invokestatic 207, 3) := by decide +kernel
theorem dL_ends_269 : decode cL_ends 269 = .ok (.aload 5, 2) := by decide +kernel
theorem dL_ends_271 : decode cL_ends 271 = .ok (.bipush 6, 2) := by decide +kernel
theorem dL_ends_273 : decode cL_ends 273 = .ok (.iload 8, 2) := by decide +kernel
theorem dL_ends_275 : decode cL_ends 275 = .ok (.iadd, 1) := by decide +kernel
theorem dL_ends_276 : decode cL_ends 276 = .ok (.iconst 1, 1) := by decide +kernel
theorem dL_ends_277 : decode cL_ends 277 = .ok (.iastore, 1) := by decide +kernel
theorem dL_ends_278 : decode cL_ends 278 = .ok (.aload_n 0, 1) := by decide +kernel
theorem dL_ends_279 : decode cL_ends 279 = .ok (.invokestatic 242, 3) := by decide +kernel
theorem dL_ends_282 : decode cL_ends 282 = .ok (.aload 4, 2) := by decide +kernel
theorem dL_ends_284 : decode cL_ends 284 = .ok (.iconst 0, 1) := by decide +kernel
theorem dL_ends_285 : decode cL_ends 285 = .ok (.iaload, 1) := by decide +kernel
theorem dL_ends_286 : decode cL_ends 286 = .ok (.if_icmp .ne 16, 3) := by decide +kernel
theorem dL_ends_289 : decode cL_ends 289 = .ok (.aload_n 0, 1) := by decide +kernel
theorem dL_ends_290 : decode cL_ends 290 = .ok (.invokevirtual 116, 3) := by decide +kernel
theorem dL_ends_293 : decode cL_ends 293 = .ok (.iload 8, 2) := by decide +kernel
theorem dL_ends_295 : decode cL_ends 295 = .ok (.if_icmp .ne 7, 3) := by decide +kernel
theorem dL_ends_298 : decode cL_ends 298 = .ok (.iconst 1, 1) := by decide +kernel
theorem dL_ends_299 : decode cL_ends 299 = .ok (.goto 4, 3) := by decide +kernel
theorem dL_ends_302 : decode cL_ends 302 = .ok (.iconst 0, 1) := by decide +kernel
theorem dL_ends_303 : decode cL_ends 303 = .ok (.ireturn, 1) := by decide +kernel
theorem dL_law_0 : decode cL_law 0 = .ok (.new 16, 3) := by decide +kernel
theorem dL_law_3 : decode cL_law 3 = .ok (.dup, 1) := by decide +kernel
theorem dL_law_4 : decode cL_law 4 = .ok (.invokespecial 244, 3) := by decide +kernel
theorem dL_law_7 : decode cL_law 7 = .ok (.astore_n 1, 1) := by decide +kernel
theorem dL_law_8 : decode cL_law 8 = .ok (.bipush 24, 2) := by decide +kernel
theorem dL_law_10 : decode cL_law 10 = .ok (.newarray .long, 2) := by decide +kernel
theorem dL_law_12 : decode cL_law 12 = .ok (.astore_n 2, 1) := by decide +kernel
theorem dL_law_13 : decode cL_law 13 = .ok (.bipush 8, 2) := by decide +kernel
theorem dL_law_15 : decode cL_law 15 = .ok (.newarray .int, 2) := by decide +kernel
theorem dL_law_17 : decode cL_law 17 = .ok (.astore_n 3, 1) := by decide +kernel
theorem dL_law_18 : decode cL_law 18 = .ok (.bipush 8, 2) := by decide +kernel
theorem dL_law_20 : decode cL_law 20 = .ok (.newarray .int, 2) := by decide +kernel
theorem dL_law_22 : decode cL_law 22 = .ok (.astore 4, 2) := by decide +kernel
theorem dL_law_24 : decode cL_law 24 = .ok (.aload 4, 2) := by decide +kernel
theorem dL_law_26 : decode cL_law 26 = .ok (.bipush 6, 2) := by decide +kernel
theorem dL_law_28 : decode cL_law 28 = .ok (.iconst 1, 1) := by decide +kernel
theorem dL_law_29 : decode cL_law 29 = .ok (.iastore, 1) := by decide +kernel
theorem dL_law_30 : decode cL_law 30 = .ok (.aload 4, 2) := by decide +kernel
theorem dL_law_32 : decode cL_law 32 = .ok (.bipush 7, 2) := by decide +kernel
theorem dL_law_34 : decode cL_law 34 = .ok (.iconst 1, 1) := by decide +kernel
theorem dL_law_35 : decode cL_law 35 = .ok (.iastore, 1) := by decide +kernel
theorem dL_law_36 : decode cL_law 36 = .ok (.aload_n 1, 1) := by decide +kernel
theorem dL_law_37 : decode cL_law 37 = .ok (.aload_n 2, 1) := by decide +kernel
theorem dL_law_38 : decode cL_law 38 = .ok (.aload_n 3, 1) := by decide +kernel
theorem dL_law_39 : decode cL_law 39 = .ok (.aload 4, 2) := by decide +kernel
theorem dL_law_41 : decode cL_law 41 = .ok (.iconst 0, 1) := by decide +kernel
theorem dL_law_42 : decode cL_law 42 = .ok (.invokestatic 245, 3) := by decide +kernel
theorem dL_law_45 : decode cL_law 45 = .ok (.istore 5, 2) := by decide +kernel
theorem dL_law_47 : decode cL_law 47 = .ok (.iconst 0, 1) := by decide +kernel
theorem dL_law_48 : decode cL_law 48 = .ok (.istore 6, 2) := by decide +kernel
theorem dL_law_50 : decode cL_law 50 = .ok (.iload 6, 2) := by decide +kernel
theorem dL_law_52 : decode cL_law 52 = .ok (.bipush 28, 2) := by decide +kernel
theorem dL_law_54 : decode cL_law 54 = .ok (.if_icmp .ge 245, 3) := by decide +kernel
theorem dL_law_57 : decode cL_law 57 = .ok (.iload 5, 2) := by decide +kernel
theorem dL_law_59 : decode cL_law 59 = .ok (.ifCond .eq 240, 3) := by decide +kernel
theorem dL_law_62 : decode cL_law 62 = .ok (.aload_n 0, 1) := by decide +kernel
theorem dL_law_63 : decode cL_law 63 = .ok (.iconst 2, 1) := by decide +kernel
theorem dL_law_64 : decode cL_law 64 = .ok (.iload 6, 2) := by decide +kernel
theorem dL_law_66 : decode cL_law 66 = .ok (.imul, 1) := by decide +kernel
theorem dL_law_67 : decode cL_law 67 = .ok (.invokestatic 249, 3) := by decide +kernel
theorem dL_law_70 : decode cL_law 70 = .ok (.istore 7, 2) := by decide +kernel
theorem dL_law_72 : decode cL_law 72 = .ok (.aload_n 0, 1) := by decide +kernel
theorem dL_law_73 : decode cL_law 73 = .ok (.iconst 2, 1) := by decide +kernel
theorem dL_law_74 : decode cL_law 74 = .ok (.iload 6, 2) := by decide +kernel
theorem dL_law_76 : decode cL_law 76 = .ok (.imul, 1) := by decide +kernel
theorem dL_law_77 : decode cL_law 77 = .ok (.iconst 1, 1) := by decide +kernel
theorem dL_law_78 : decode cL_law 78 = .ok (.iadd, 1) := by decide +kernel
theorem dL_law_79 : decode cL_law 79 = .ok (.invokestatic 249, 3) := by decide +kernel
theorem dL_law_82 : decode cL_law 82 = .ok (.istore 8, 2) := by decide +kernel
theorem dL_law_84 : decode cL_law 84 = .ok (.iload 7, 2) := by decide +kernel
theorem dL_law_86 : decode cL_law 86 = .ok (.bipush 16, 2) := by decide +kernel
theorem dL_law_88 : decode cL_law 88 = .ok (.invokestatic 165, 3) := by decide +kernel
theorem dL_law_91 : decode cL_law 91 = .ok (.istore 9, 2) := by decide +kernel
theorem dL_law_93 : decode cL_law 93 = .ok (.iload 9, 2) := by decide +kernel
theorem dL_law_95 : decode cL_law 95 = .ok (.bipush 7, 2) := by decide +kernel
theorem dL_law_97 : decode cL_law 97 = .ok (.if_icmp .ge 22, 3) := by decide +kernel
theorem dL_law_100 : decode cL_law 100 = .ok (.aload_n 1, 1) := by decide +kernel
theorem dL_law_101 : decode cL_law 101 = .ok (.iload 7, 2) := by decide +kernel
theorem dL_law_103 : decode cL_law 103 = .ok (.iload 8, 2) := by decide +kernel
theorem dL_law_105 : decode cL_law 105 = .ok (.iload 6, 2) := by decide +kernel
theorem dL_law_107 : decode cL_law 107 = .ok (.iconst 1, 1) := by decide +kernel
theorem dL_law_108 : decode cL_law 108 = .ok (.iadd, 1) := by decide +kernel
theorem dL_law_109 : decode cL_law 109 = .ok (.aload_n 2, 1) := by decide +kernel
theorem dL_law_110 : decode cL_law 110 = .ok (.aload_n 3, 1) := by decide +kernel
theorem dL_law_111 : decode cL_law 111 = .ok (.aload 4, 2) := by decide +kernel
theorem dL_law_113 : decode cL_law 113 = .ok (.invokestatic 253, 3) := by decide +kernel
theorem dL_law_116 : decode cL_law 116 = .ok (.goto 63, 3) := by decide +kernel
theorem dL_law_119 : decode cL_law 119 = .ok (.iload 9, 2) := by decide +kernel
theorem dL_law_121 : decode cL_law 121 = .ok (.bipush 10, 2) := by decide +kernel
theorem dL_law_123 : decode cL_law 123 = .ok (.if_icmp .ge 20, 3) := by decide +kernel
theorem dL_law_126 : decode cL_law 126 = .ok (.aload_n 1, 1) := by decide +kernel
theorem dL_law_127 : decode cL_law 127 = .ok (.iload 7, 2) := by decide +kernel
theorem dL_law_129 : decode cL_law 129 = .ok (.iconst 4, 1) := by decide +kernel
theorem dL_law_130 : decode cL_law 130 = .ok (.ishr, 1) := by decide +kernel
theorem dL_law_131 : decode cL_law 131 = .ok (.iload 8, 2) := by decide +kernel
theorem dL_law_133 : decode cL_law 133 = .ok (.aload_n 2, 1) := by decide +kernel
theorem dL_law_134 : decode cL_law 134 = .ok (.aload_n 3, 1) := by decide +kernel
theorem dL_law_135 : decode cL_law 135 = .ok (.aload 4, 2) := by decide +kernel
theorem dL_law_137 : decode cL_law 137 = .ok (.invokestatic 257, 3) := by decide +kernel
theorem dL_law_140 : decode cL_law 140 = .ok (.goto 39, 3) := by decide +kernel
theorem dL_law_143 : decode cL_law 143 = .ok (.iload 9, 2) := by decide +kernel
theorem dL_law_145 : decode cL_law 145 = .ok (.bipush 10, 2) := by decide +kernel
theorem dL_law_147 : decode cL_law 147 = .ok (.if_icmp .ne 18, 3) := by decide +kernel
theorem dL_law_150 : decode cL_law 150 = .ok (.aload_n 1, 1) := by decide +kernel
theorem dL_law_151 : decode cL_law 151 = .ok (.iload 8, 2) := by decide +kernel
theorem dL_law_153 : decode cL_law 153 = .ok (.iconst 2, 1) := by decide +kernel
theorem dL_law_154 : decode cL_law 154 = .ok (.invokestatic 165, 3) := by decide +kernel
theorem dL_law_157 : decode cL_law 157 = .ok (.aload 4, 2) := by decide +kernel
theorem dL_law_159 : decode cL_law 159 = .ok (.invokestatic 261, 3) := by decide +kernel
theorem dL_law_162 : decode cL_law 162 = .ok (.goto 17, 3) := by decide +kernel
theorem dL_law_165 : decode cL_law 165 = .ok (.aload_n 1, 1) := by decide +kernel
theorem dL_law_166 : decode cL_law 166 = .ok (.iload 7, 2) := by decide +kernel
theorem dL_law_168 : decode cL_law 168 = .ok (.iconst 4, 1) := by decide +kernel
theorem dL_law_169 : decode cL_law 169 = .ok (.ishr, 1) := by decide +kernel
theorem dL_law_170 : decode cL_law 170 = .ok (.iload 8, 2) := by decide +kernel
theorem dL_law_172 : decode cL_law 172 = .ok (.aload_n 2, 1) := by decide +kernel
theorem dL_law_173 : decode cL_law 173 = .ok (.aload_n 3, 1) := by decide +kernel
theorem dL_law_174 : decode cL_law 174 = .ok (.aload 4, 2) := by decide +kernel
theorem dL_law_176 : decode cL_law 176 = .ok (.invokestatic 265, 3) := by decide +kernel
theorem dL_law_179 : decode cL_law 179 = .ok (.istore 5, 2) := by decide +kernel
theorem dL_law_181 : decode cL_law 181 = .ok (.aload_n 1, 1) := by decide +kernel
theorem dL_law_182 : decode cL_law 182 = .ok (.invokestatic 268, 3) := by decide +kernel
theorem dL_law_185 : decode cL_law 185 = .ok (.lstore 10, 2) := by decide +kernel
theorem dL_law_187 : decode cL_law 187 = .ok (.iload 5, 2) := by decide +kernel
theorem dL_law_189 : decode cL_law 189 = .ok (.ifCond .eq 73, 3) := by decide +kernel
theorem dL_law_192 : decode cL_law 192 = .ok (.aload_n 1, 1) := by decide +kernel
theorem dL_law_193 : decode cL_law 193 = .ok (.iconst 4, 1) := by decide +kernel
theorem dL_law_194 : decode cL_law 194 = .ok (.invokestatic 226, 3) := by decide +kernel
theorem dL_law_197 : decode cL_law 197 = .ok (.ldc 23, 2) := by decide +kernel
theorem dL_law_199 : decode cL_law 199 = .ok (.if_icmp .ne 63, 3) := by decide +kernel
theorem dL_law_202 : decode cL_law 202 = .ok (.aload_n 1, 1) := by decide +kernel
theorem dL_law_203 : decode cL_law 203 = .ok (.iconst 2, 1) := by decide +kernel
theorem dL_law_204 : decode cL_law 204 = .ok (.invokestatic 229, 3) := by decide +kernel
theorem dL_law_207 : decode cL_law 207 = .ok (.ldc 23, 2) := by decide +kernel
theorem dL_law_209 : decode cL_law 209 = .ok (.if_icmp .ne 53, 3) := by decide +kernel
theorem dL_law_212 : decode cL_law 212 = .ok (.aload_n 1, 1) := by decide +kernel
theorem dL_law_213 : decode cL_law 213 = .ok (.aload_n 1, 1) := by decide +kernel
theorem dL_law_214 : decode cL_law 214 = .ok (.invokevirtual 113, 3) := by decide +kernel
theorem dL_law_217 : decode cL_law 217 = .ok (.invokestatic 138, 3) := by decide +kernel
theorem dL_law_220 : decode cL_law 220 = .ok (.ldc 23, 2) := by decide +kernel
theorem dL_law_222 : decode cL_law 222 = .ok (.if_icmp .ne 40, 3) := by decide +kernel
theorem dL_law_225 : decode cL_law 225 = .ok (.aload_n 1, 1) := by decide +kernel
theorem dL_law_226 : decode cL_law 226 = .ok (.iconst (-1), 1) := by decide +kernel
theorem dL_law_227 : decode cL_law 227 = .ok (.invokestatic 205, 3) := by decide +kernel
theorem dL_law_230 : decode cL_law 230 = .ok (.ldc 23, 2) := by decide +kernel
theorem dL_law_232 : decode cL_law 232 = .ok (.if_icmp .ne 30, 3) := by decide +kernel
theorem dL_law_235 : decode cL_law 235 = .ok (.aload_n 1, 1) := by decide +kernel
theorem dL_law_236 : decode cL_law 236 = .ok (.iconst 0, 1) := by decide +kernel
theorem dL_law_237 : decode cL_law 237 = .ok (.iconst 4, 1) := by decide +kernel
theorem dL_law_238 : decode cL_law 238 = .ok (.invokestatic 126, 3) := by decide +kernel
theorem dL_law_241 : decode cL_law 241 = .ok (.ldc2_w 97, 3) := by decide +kernel
theorem dL_law_244 : decode cL_law 244 = .ok (.lcmp, 1) := by decide +kernel
theorem dL_law_245 : decode cL_law 245 = .ok (.ifCond .ne 17, 3) := by decide +kernel
theorem dL_law_248 : decode cL_law 248 = .ok (.aload_n 1, 1) := by decide +kernel
theorem dL_law_249 : decode cL_law 249 = .ok (.invokestatic 268, 3) := by decide +kernel
theorem dL_law_252 : decode cL_law 252 = .ok (.lload 10, 2) := by decide +kernel
theorem dL_law_254 : decode cL_law 254 = .ok (.lcmp, 1) := by decide +kernel
theorem dL_law_255 : decode cL_law 255 = .ok (.ifCond .ne 7, 3) := by decide +kernel
theorem dL_law_258 : decode cL_law 258 = .ok (.iconst 1, 1) := by decide +kernel
theorem dL_law_259 : decode cL_law 259 = .ok (.goto 4, 3) := by decide +kernel
theorem dL_law_262 : decode cL_law 262 = .ok (.iconst 0, 1) := by decide +kernel
theorem dL_law_263 : decode cL_law 263 = .ok (.istore 5, 2) := by decide +kernel
theorem dL_law_265 : decode cL_law 265 = .ok (.iload 5, 2) := by decide +kernel
theorem dL_law_267 : decode cL_law 267 = .ok (.ifCond .eq 23, 3) := by decide +kernel
theorem dL_law_270 : decode cL_law 270 = .ok (.aload_n 1, 1) := by decide +kernel
theorem dL_law_271 : decode cL_law 271 = .ok (.aload_n 2, 1) := by decide +kernel
theorem dL_law_272 : decode cL_law 272 = .ok (.aload_n 3, 1) := by decide +kernel
theorem dL_law_273 : decode cL_law 273 = .ok (.aload 4, 2) := by decide +kernel
theorem dL_law_275 : decode cL_law 275 = .ok (.iload 8, 2) := by decide +kernel
theorem dL_law_277 : decode cL_law 277 = .ok (.bipush 7, 2) := by decide +kernel
theorem dL_law_279 : decode cL_law 279 = .ok (.ishr, 1) := by decide +kernel
theorem dL_law_280 : decode cL_law 280 = .ok (.invokestatic 245, 3) := by decide +kernel
theorem dL_law_283 : decode cL_law 283 = .ok (.ifCond .eq 7, 3) := by decide +kernel
theorem dL_law_286 : decode cL_law 286 = .ok (.iconst 1, 1) := by decide +kernel
theorem dL_law_287 : decode cL_law 287 = .ok (.goto 4, 3) := by decide +kernel
theorem dL_law_290 : decode cL_law 290 = .ok (.iconst 0, 1) := by decide +kernel
theorem dL_law_291 : decode cL_law 291 = .ok (.istore 5, 2) := by decide +kernel
theorem dL_law_293 : decode cL_law 293 = .ok (.iinc 6 1, 3) := by decide +kernel
theorem dL_law_296 : decode cL_law 296 = .ok (.goto (-246), 3) := by decide +kernel
theorem dL_law_299 : decode cL_law 299 = .ok (.iload 5, 2) := by decide +kernel
theorem dL_law_301 : decode cL_law 301 = .ok (.ireturn, 1) := by decide +kernel
