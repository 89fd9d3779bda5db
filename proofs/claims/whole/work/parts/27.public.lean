theorem d_MH_begin_0 : decode b_MH_begin 0 = .ok (.iload_n 1, 1) := by decide +kernel
theorem d_MH_begin_1 : decode b_MH_begin 1 = .ok (.bipush 16, 2) := by decide +kernel
theorem d_MH_begin_3 : decode b_MH_begin 3 = .ok (.invokestatic 40, 3) := by decide +kernel
theorem d_MH_begin_6 : decode b_MH_begin 6 = .ok (.iload_n 2, 1) := by decide +kernel
theorem d_MH_begin_7 : decode b_MH_begin 7 = .ok (.iconst 4, 1) := by decide +kernel
theorem d_MH_begin_8 : decode b_MH_begin 8 = .ok (.invokestatic 40, 3) := by decide +kernel
theorem d_MH_begin_11 : decode b_MH_begin 11 = .ok (.iload_n 3, 1) := by decide +kernel
theorem d_MH_begin_12 : decode b_MH_begin 12 = .ok (.iconst 2, 1) := by decide +kernel
theorem d_MH_begin_13 : decode b_MH_begin 13 = .ok (.invokestatic 40, 3) := by decide +kernel
theorem d_MH_get_0 : decode b_MH_get 0 = .ok (.iload_n 1, 1) := by decide +kernel
theorem d_MH_get_1 : decode b_MH_get 1 = .ok (.bipush 16, 2) := by decide +kernel
theorem d_MH_get_3 : decode b_MH_get 3 = .ok (.invokestatic 40, 3) := by decide +kernel
theorem d_MH_get_6 : decode b_MH_get 6 = .ok (.iload_n 2, 1) := by decide +kernel
theorem d_MH_get_7 : decode b_MH_get 7 = .ok (.sipush 256, 3) := by decide +kernel
theorem d_MH_get_10 : decode b_MH_get 10 = .ok (.invokestatic 40, 3) := by decide +kernel
theorem d_MH_delete_0 : decode b_MH_delete 0 = .ok (.iload_n 1, 1) := by decide +kernel
theorem d_MH_delete_1 : decode b_MH_delete 1 = .ok (.bipush 16, 2) := by decide +kernel
theorem d_MH_delete_3 : decode b_MH_delete 3 = .ok (.invokestatic 40, 3) := by decide +kernel
theorem d_MH_delete_6 : decode b_MH_delete 6 = .ok (.iload_n 2, 1) := by decide +kernel
theorem d_MH_delete_7 : decode b_MH_delete 7 = .ok (.sipush 256, 3) := by decide +kernel
theorem d_MH_delete_10 : decode b_MH_delete 10 = .ok (.invokestatic 40, 3) := by decide +kernel
theorem d_MH_put_0 : decode b_MH_put 0 = .ok (.iload_n 1, 1) := by decide +kernel
theorem d_MH_put_1 : decode b_MH_put 1 = .ok (.bipush 16, 2) := by decide +kernel
theorem d_MH_put_3 : decode b_MH_put 3 = .ok (.invokestatic 40, 3) := by decide +kernel
theorem d_MH_put_6 : decode b_MH_put 6 = .ok (.iload_n 2, 1) := by decide +kernel
theorem d_MH_put_7 : decode b_MH_put 7 = .ok (.sipush 256, 3) := by decide +kernel
theorem d_MH_put_10 : decode b_MH_put 10 = .ok (.invokestatic 40, 3) := by decide +kernel
theorem d_MH_part_0 : decode b_MH_part 0 = .ok (.iload_n 1, 1) := by decide +kernel
theorem d_MH_part_1 : decode b_MH_part 1 = .ok (.bipush 16, 2) := by decide +kernel
theorem d_MH_part_3 : decode b_MH_part 3 = .ok (.invokestatic 40, 3) := by decide +kernel
theorem d_MH_part_6 : decode b_MH_part 6 = .ok (.iload_n 2, 1) := by decide +kernel
theorem d_MH_part_7 : decode b_MH_part 7 = .ok (.iload_n 3, 1) := by decide +kernel
theorem d_MH_part_8 : decode b_MH_part 8 = .ok (.iload 4, 2) := by decide +kernel
theorem d_MH_part_10 : decode b_MH_part 10 = .ok (.invokestatic 88, 3) := by decide +kernel
theorem d_MH_look_0 : decode b_MH_look 0 = .ok (.iload_n 1, 1) := by decide +kernel
theorem d_MH_look_1 : decode b_MH_look 1 = .ok (.iconst 4, 1) := by decide +kernel
theorem d_MH_look_2 : decode b_MH_look 2 = .ok (.invokestatic 40, 3) := by decide +kernel
theorem d_MH_look_5 : decode b_MH_look 5 = .ok (.iload_n 2, 1) := by decide +kernel
theorem d_MH_look_6 : decode b_MH_look 6 = .ok (.iload_n 3, 1) := by decide +kernel
theorem d_MH_look_7 : decode b_MH_look 7 = .ok (.iload 4, 2) := by decide +kernel
theorem d_MH_look_9 : decode b_MH_look 9 = .ok (.invokestatic 88, 3) := by decide +kernel
theorem d_MH_commit_0 : decode b_MH_commit 0 = .ok (.iload_n 1, 1) := by decide +kernel
theorem d_MH_commit_1 : decode b_MH_commit 1 = .ok (.bipush 16, 2) := by decide +kernel
theorem d_MH_commit_3 : decode b_MH_commit 3 = .ok (.invokestatic 40, 3) := by decide +kernel
theorem d_MH_abort_0 : decode b_MH_abort 0 = .ok (.iload_n 1, 1) := by decide +kernel
theorem d_MH_abort_1 : decode b_MH_abort 1 = .ok (.bipush 16, 2) := by decide +kernel
theorem d_MH_abort_3 : decode b_MH_abort 3 = .ok (.invokestatic 40, 3) := by decide +kernel
theorem d_MH_advance_0 : decode b_MH_advance 0 = .ok (.iload_n 1, 1) := by decide +kernel
theorem d_MH_advance_1 : decode b_MH_advance 1 = .ok (.iconst 4, 1) := by decide +kernel
theorem d_MH_advance_2 : decode b_MH_advance 2 = .ok (.invokestatic 40, 3) := by decide +kernel
theorem d_MH_advance_5 : decode b_MH_advance 5 = .ok (.iload_n 2, 1) := by decide +kernel
theorem d_MH_advance_6 : decode b_MH_advance 6 = .ok (.sipush 401, 3) := by decide +kernel
theorem d_MH_advance_9 : decode b_MH_advance 9 = .ok (.invokestatic 40, 3) := by decide +kernel
theorem d_MH_restart_0 : decode b_MH_restart 0 = .ok (.iload_n 1, 1) := by decide +kernel
theorem d_MH_restart_1 : decode b_MH_restart 1 = .ok (.iconst 4, 1) := by decide +kernel
theorem d_MH_restart_2 : decode b_MH_restart 2 = .ok (.invokestatic 40, 3) := by decide +kernel
theorem d_MH_state_0 : decode b_MH_state 0 = .ok (.iload_n 1, 1) := by decide +kernel
theorem d_MH_state_1 : decode b_MH_state 1 = .ok (.iconst 4, 1) := by decide +kernel
theorem d_MH_state_2 : decode b_MH_state 2 = .ok (.invokestatic 40, 3) := by decide +kernel
theorem d_MH_state_5 : decode b_MH_state 5 = .ok (.iload_n 2, 1) := by decide +kernel
theorem d_MH_state_6 : decode b_MH_state 6 = .ok (.sipush 256, 3) := by decide +kernel
theorem d_MH_state_9 : decode b_MH_state 9 = .ok (.invokestatic 40, 3) := by decide +kernel
theorem d_MH_verdict_0 : decode b_MH_verdict 0 = .ok (.iload_n 1, 1) := by decide +kernel
theorem d_MH_verdict_1 : decode b_MH_verdict 1 = .ok (.iconst 4, 1) := by decide +kernel
theorem d_MH_verdict_2 : decode b_MH_verdict 2 = .ok (.invokestatic 40, 3) := by decide +kernel
theorem d_MH_intention_0 : decode b_MH_intention 0 = .ok (.iload_n 2, 1) := by decide +kernel
theorem d_MH_intention_1 : decode b_MH_intention 1 = .ok (.bipush 6, 2) := by decide +kernel
theorem d_MH_intention_3 : decode b_MH_intention 3 = .ok (.invokestatic 40, 3) := by decide +kernel
theorem d_MH_count_0 : decode b_MH_count 0 = .ok (.iload_n 1, 1) := by decide +kernel
theorem d_MH_count_1 : decode b_MH_count 1 = .ok (.iconst 5, 1) := by decide +kernel
theorem d_MH_count_2 : decode b_MH_count 2 = .ok (.invokestatic 40, 3) := by decide +kernel
theorem d_MH_get_13 : decode b_MH_get 13 = .ok (.aload_n 0, 1) := by decide +kernel
theorem d_MH_get_14 : decode b_MH_get 14 = .ok (.iload_n 1, 1) := by decide +kernel
theorem d_MH_get_15 : decode b_MH_get 15 = .ok (.invokevirtual 65, 3) := by decide +kernel
theorem d_MH_put_13 : decode b_MH_put 13 = .ok (.aload_n 0, 1) := by decide +kernel
theorem d_MH_put_14 : decode b_MH_put 14 = .ok (.iload_n 1, 1) := by decide +kernel
theorem d_MH_put_15 : decode b_MH_put 15 = .ok (.invokevirtual 65, 3) := by decide +kernel
theorem d_MH_delete_13 : decode b_MH_delete 13 = .ok (.aload_n 0, 1) := by decide +kernel
theorem d_MH_delete_14 : decode b_MH_delete 14 = .ok (.iload_n 1, 1) := by decide +kernel
theorem d_MH_delete_15 : decode b_MH_delete 15 = .ok (.invokevirtual 65, 3) := by decide +kernel
theorem d_MH_part_13 : decode b_MH_part 13 = .ok (.aload_n 0, 1) := by decide +kernel
theorem d_MH_part_14 : decode b_MH_part 14 = .ok (.iload_n 1, 1) := by decide +kernel
theorem d_MH_part_15 : decode b_MH_part 15 = .ok (.invokevirtual 65, 3) := by decide +kernel
theorem d_MH_commit_6 : decode b_MH_commit 6 = .ok (.aload_n 0, 1) := by decide +kernel
theorem d_MH_commit_7 : decode b_MH_commit 7 = .ok (.iload_n 1, 1) := by decide +kernel
theorem d_MH_commit_8 : decode b_MH_commit 8 = .ok (.invokevirtual 65, 3) := by decide +kernel
theorem d_MH_abort_6 : decode b_MH_abort 6 = .ok (.aload_n 0, 1) := by decide +kernel
theorem d_MH_abort_7 : decode b_MH_abort 7 = .ok (.iload_n 1, 1) := by decide +kernel
theorem d_MH_abort_8 : decode b_MH_abort 8 = .ok (.invokevirtual 65, 3) := by decide +kernel
theorem d_MH_begin_16 : decode b_MH_begin 16 = .ok (.aload_n 0, 1) := by decide +kernel
theorem d_MH_begin_17 : decode b_MH_begin 17 = .ok (.getfield 25, 3) := by decide +kernel
theorem d_MH_begin_20 : decode b_MH_begin 20 = .ok (.iload_n 1, 1) := by decide +kernel
theorem d_MH_begin_21 : decode b_MH_begin 21 = .ok (.aaload, 1) := by decide +kernel
theorem d_MH_begin_22 : decode b_MH_begin 22 = .ok (.ifnull 13, 3) := by decide +kernel
theorem d_MH_begin_25 : decode b_MH_begin 25 = .ok (.new 44, 3) := by decide +kernel
theorem d_MH_begin_28 : decode b_MH_begin 28 = .ok (.dup, 1) := by decide +kernel
theorem d_MH_begin_29 : decode b_MH_begin 29 = .ok (.ldc 46, 2) := by decide +kernel
theorem d_MH_begin_31 : decode b_MH_begin 31 = .ok (.invokespecial 48, 3) := by decide +kernel
theorem d_MH_begin_34 : decode b_MH_begin 34 = .ok (.athrow, 1) := by decide +kernel
theorem d_MH_begin_35 : decode b_MH_begin 35 = .ok (.aload_n 0, 1) := by decide +kernel
theorem d_MH_begin_36 : decode b_MH_begin 36 = .ok (.getfield 18, 3) := by decide +kernel
theorem d_MH_begin_39 : decode b_MH_begin 39 = .ok (.iload_n 2, 1) := by decide +kernel
theorem d_MH_begin_40 : decode b_MH_begin 40 = .ok (.aaload, 1) := by decide +kernel
theorem d_MH_begin_41 : decode b_MH_begin 41 = .ok (.astore 4, 2) := by decide +kernel
theorem d_MH_begin_43 : decode b_MH_begin 43 = .ok (.aload_n 0, 1) := by decide +kernel
theorem d_MH_begin_44 : decode b_MH_begin 44 = .ok (.getfield 25, 3) := by decide +kernel
theorem d_MH_begin_47 : decode b_MH_begin 47 = .ok (.iload_n 1, 1) := by decide +kernel
theorem d_MH_begin_48 : decode b_MH_begin 48 = .ok (.new 23, 3) := by decide +kernel
theorem d_MH_begin_51 : decode b_MH_begin 51 = .ok (.dup, 1) := by decide +kernel
theorem d_MH_begin_52 : decode b_MH_begin 52 = .ok (.iload_n 2, 1) := by decide +kernel
theorem d_MH_begin_53 : decode b_MH_begin 53 = .ok (.aload 4, 2) := by decide +kernel
theorem d_MH_begin_55 : decode b_MH_begin 55 = .ok (.getfield 51, 3) := by decide +kernel
theorem d_MH_begin_58 : decode b_MH_begin 58 = .ok (.iload_n 3, 1) := by decide +kernel
theorem d_MH_begin_59 : decode b_MH_begin 59 = .ok (.invokespecial 54, 3) := by decide +kernel
theorem d_MH_begin_62 : decode b_MH_begin 62 = .ok (.aastore, 1) := by decide +kernel
theorem d_MH_begin_63 : decode b_MH_begin 63 = .ok (.aload_n 0, 1) := by decide +kernel
theorem d_MH_begin_64 : decode b_MH_begin 64 = .ok (.getfield 31, 3) := by decide +kernel
theorem d_MH_begin_67 : decode b_MH_begin 67 = .ok (.iload_n 1, 1) := by decide +kernel
theorem d_MH_begin_68 : decode b_MH_begin 68 = .ok (.aaload, 1) := by decide +kernel
theorem d_MH_begin_69 : decode b_MH_begin 69 = .ok (.aload 4, 2) := by decide +kernel
theorem d_MH_begin_71 : decode b_MH_begin 71 = .ok (.getfield 57, 3) := by decide +kernel
theorem d_MH_begin_74 : decode b_MH_begin 74 = .ok (.invokevirtual 61, 3) := by decide +kernel
theorem d_MH_begin_77 : decode b_MH_begin 77 = .ok (.return_, 1) := by decide +kernel
theorem d_MH_get_18 : decode b_MH_get 18 = .ok (.iload_n 2, 1) := by decide +kernel
theorem d_MH_get_19 : decode b_MH_get 19 = .ok (.invokevirtual 69, 3) := by decide +kernel
theorem d_MH_get_22 : decode b_MH_get 22 = .ok (.aload_n 0, 1) := by decide +kernel
theorem d_MH_get_23 : decode b_MH_get 23 = .ok (.getfield 31, 3) := by decide +kernel
theorem d_MH_get_26 : decode b_MH_get 26 = .ok (.iload_n 1, 1) := by decide +kernel
theorem d_MH_get_27 : decode b_MH_get 27 = .ok (.aaload, 1) := by decide +kernel
theorem d_MH_get_28 : decode b_MH_get 28 = .ok (.iload_n 2, 1) := by decide +kernel
theorem d_MH_get_29 : decode b_MH_get 29 = .ok (.invokestatic 73, 3) := by decide +kernel
theorem d_MH_get_32 : decode b_MH_get 32 = .ok (.lreturn, 1) := by decide +kernel
theorem d_MH_put_18 : decode b_MH_put 18 = .ok (.iload_n 2, 1) := by decide +kernel
theorem d_MH_put_19 : decode b_MH_put 19 = .ok (.iconst 1, 1) := by decide +kernel
theorem d_MH_put_20 : decode b_MH_put 20 = .ok (.lload_n 3, 1) := by decide +kernel
theorem d_MH_put_21 : decode b_MH_put 21 = .ok (.invokestatic 77, 3) := by decide +kernel
theorem d_MH_put_24 : decode b_MH_put 24 = .ok (.istore 5, 2) := by decide +kernel
theorem d_MH_put_26 : decode b_MH_put 26 = .ok (.aload_n 0, 1) := by decide +kernel
theorem d_MH_put_27 : decode b_MH_put 27 = .ok (.getfield 31, 3) := by decide +kernel
theorem d_MH_put_30 : decode b_MH_put 30 = .ok (.iload_n 1, 1) := by decide +kernel
theorem d_MH_put_31 : decode b_MH_put 31 = .ok (.aaload, 1) := by decide +kernel
theorem d_MH_put_32 : decode b_MH_put 32 = .ok (.iload_n 2, 1) := by decide +kernel
theorem d_MH_put_33 : decode b_MH_put 33 = .ok (.lload_n 3, 1) := by decide +kernel
theorem d_MH_put_34 : decode b_MH_put 34 = .ok (.invokevirtual 81, 3) := by decide +kernel
theorem d_MH_put_37 : decode b_MH_put 37 = .ok (.iload 5, 2) := by decide +kernel
theorem d_MH_put_39 : decode b_MH_put 39 = .ok (.ireturn, 1) := by decide +kernel
theorem d_MH_delete_18 : decode b_MH_delete 18 = .ok (.iload_n 2, 1) := by decide +kernel
theorem d_MH_delete_19 : decode b_MH_delete 19 = .ok (.iconst 0, 1) := by decide +kernel
theorem d_MH_delete_20 : decode b_MH_delete 20 = .ok (.lconst 0, 1) := by decide +kernel
theorem d_MH_delete_21 : decode b_MH_delete 21 = .ok (.invokestatic 77, 3) := by decide +kernel
theorem d_MH_delete_24 : decode b_MH_delete 24 = .ok (.istore_n 3, 1) := by decide +kernel
theorem d_MH_delete_25 : decode b_MH_delete 25 = .ok (.aload_n 0, 1) := by decide +kernel
theorem d_MH_delete_26 : decode b_MH_delete 26 = .ok (.getfield 31, 3) := by decide +kernel
theorem d_MH_delete_29 : decode b_MH_delete 29 = .ok (.iload_n 1, 1) := by decide +kernel
theorem d_MH_delete_30 : decode b_MH_delete 30 = .ok (.aaload, 1) := by decide +kernel
theorem d_MH_delete_31 : decode b_MH_delete 31 = .ok (.iload_n 2, 1) := by decide +kernel
theorem d_MH_delete_32 : decode b_MH_delete 32 = .ok (.invokevirtual 85, 3) := by decide +kernel
theorem d_MH_delete_35 : decode b_MH_delete 35 = .ok (.iload_n 3, 1) := by decide +kernel
theorem d_MH_delete_36 : decode b_MH_delete 36 = .ok (.ireturn, 1) := by decide +kernel
theorem d_MH_part_18 : decode b_MH_part 18 = .ok (.astore 5, 2) := by decide +kernel
theorem d_MH_part_20 : decode b_MH_part 20 = .ok (.aload 5, 2) := by decide +kernel
theorem d_MH_part_22 : decode b_MH_part 22 = .ok (.getfield 91, 3) := by decide +kernel
theorem d_MH_part_25 : decode b_MH_part 25 = .ok (.bipush 8, 2) := by decide +kernel
theorem d_MH_part_27 : decode b_MH_part 27 = .ok (.if_icmp .lt 13, 3) := by decide +kernel
theorem d_MH_part_40 : decode b_MH_part 40 = .ok (.aload 5, 2) := by decide +kernel
theorem d_MH_part_42 : decode b_MH_part 42 = .ok (.iload_n 2, 1) := by decide +kernel
theorem d_MH_part_43 : decode b_MH_part 43 = .ok (.iload_n 3, 1) := by decide +kernel
theorem d_MH_part_44 : decode b_MH_part 44 = .ok (.invokevirtual 99, 3) := by decide +kernel
theorem d_MH_part_47 : decode b_MH_part 47 = .ok (.aload_n 0, 1) := by decide +kernel
theorem d_MH_part_48 : decode b_MH_part 48 = .ok (.getfield 31, 3) := by decide +kernel
theorem d_MH_part_51 : decode b_MH_part 51 = .ok (.iload_n 1, 1) := by decide +kernel
theorem d_MH_part_52 : decode b_MH_part 52 = .ok (.aaload, 1) := by decide +kernel
theorem d_MH_part_53 : decode b_MH_part 53 = .ok (.iload_n 2, 1) := by decide +kernel
theorem d_MH_part_54 : decode b_MH_part 54 = .ok (.iload_n 3, 1) := by decide +kernel
theorem d_MH_part_55 : decode b_MH_part 55 = .ok (.iload 4, 2) := by decide +kernel
theorem d_MH_part_57 : decode b_MH_part 57 = .ok (.invokevirtual 102, 3) := by decide +kernel
theorem d_MH_part_60 : decode b_MH_part 60 = .ok (.lreturn, 1) := by decide +kernel
theorem d_MH_part_30 : decode b_MH_part 30 = .ok (.new 94, 3) := by decide +kernel
theorem d_MH_part_33 : decode b_MH_part 33 = .ok (.dup, 1) := by decide +kernel
theorem d_MH_part_34 : decode b_MH_part 34 = .ok (.ldc 96, 2) := by decide +kernel
theorem d_MH_part_36 : decode b_MH_part 36 = .ok (.invokespecial 98, 3) := by decide +kernel
theorem d_MH_part_39 : decode b_MH_part 39 = .ok (.athrow, 1) := by decide +kernel
theorem d_MH_abort_11 : decode b_MH_abort 11 = .ok (.pop, 1) := by decide +kernel
theorem d_MH_abort_12 : decode b_MH_abort 12 = .ok (.aload_n 0, 1) := by decide +kernel
theorem d_MH_abort_13 : decode b_MH_abort 13 = .ok (.getfield 25, 3) := by decide +kernel
theorem d_MH_abort_16 : decode b_MH_abort 16 = .ok (.iload_n 1, 1) := by decide +kernel
theorem d_MH_abort_17 : decode b_MH_abort 17 = .ok (.aconst_null, 1) := by decide +kernel
theorem d_MH_abort_18 : decode b_MH_abort 18 = .ok (.aastore, 1) := by decide +kernel
theorem d_MH_abort_19 : decode b_MH_abort 19 = .ok (.return_, 1) := by decide +kernel
theorem d_MH_commit_11 : decode b_MH_commit 11 = .ok (.astore_n 2, 1) := by decide +kernel
theorem d_MH_commit_12 : decode b_MH_commit 12 = .ok (.aload_n 2, 1) := by decide +kernel
theorem d_MH_commit_13 : decode b_MH_commit 13 = .ok (.getfield 106, 3) := by decide +kernel
theorem d_MH_commit_16 : decode b_MH_commit 16 = .ok (.ifCond .ne 12, 3) := by decide +kernel
theorem d_MH_commit_19 : decode b_MH_commit 19 = .ok (.aload_n 0, 1) := by decide +kernel
theorem d_MH_commit_20 : decode b_MH_commit 20 = .ok (.getfield 25, 3) := by decide +kernel
theorem d_MH_commit_23 : decode b_MH_commit 23 = .ok (.iload_n 1, 1) := by decide +kernel
theorem d_MH_commit_24 : decode b_MH_commit 24 = .ok (.aconst_null, 1) := by decide +kernel
theorem d_MH_commit_25 : decode b_MH_commit 25 = .ok (.aastore, 1) := by decide +kernel
theorem d_MH_commit_26 : decode b_MH_commit 26 = .ok (.iconst (-1), 1) := by decide +kernel
theorem d_MH_commit_27 : decode b_MH_commit 27 = .ok (.ireturn, 1) := by decide +kernel
theorem d_MH_commit_28 : decode b_MH_commit 28 = .ok (.aload_n 0, 1) := by decide +kernel
theorem d_MH_commit_29 : decode b_MH_commit 29 = .ok (.getfield 10, 3) := by decide +kernel
theorem d_MH_commit_32 : decode b_MH_commit 32 = .ok (.invokevirtual 109, 3) := by decide +kernel
theorem d_MH_commit_35 : decode b_MH_commit 35 = .ok (.sipush 400, 3) := by decide +kernel
theorem d_MH_commit_38 : decode b_MH_commit 38 = .ok (.if_icmp .lt 13, 3) := by decide +kernel
theorem d_MH_commit_41 : decode b_MH_commit 41 = .ok (.new 94, 3) := by decide +kernel
theorem d_MH_commit_44 : decode b_MH_commit 44 = .ok (.dup, 1) := by decide +kernel
theorem d_MH_commit_45 : decode b_MH_commit 45 = .ok (.ldc 113, 2) := by decide +kernel
theorem d_MH_commit_47 : decode b_MH_commit 47 = .ok (.invokespecial 98, 3) := by decide +kernel
theorem d_MH_commit_50 : decode b_MH_commit 50 = .ok (.athrow, 1) := by decide +kernel
theorem d_MH_state_12 : decode b_MH_state 12 = .ok (.aload_n 0, 1) := by decide +kernel
theorem d_MH_state_13 : decode b_MH_state 13 = .ok (.getfield 18, 3) := by decide +kernel
theorem d_MH_state_16 : decode b_MH_state 16 = .ok (.iload_n 1, 1) := by decide +kernel
theorem d_MH_state_17 : decode b_MH_state 17 = .ok (.aaload, 1) := by decide +kernel
theorem d_MH_state_18 : decode b_MH_state 18 = .ok (.getfield 57, 3) := by decide +kernel
theorem d_MH_state_21 : decode b_MH_state 21 = .ok (.iload_n 2, 1) := by decide +kernel
theorem d_MH_state_22 : decode b_MH_state 22 = .ok (.invokestatic 73, 3) := by decide +kernel
theorem d_MH_state_25 : decode b_MH_state 25 = .ok (.lreturn, 1) := by decide +kernel
theorem d_MH_look_12 : decode b_MH_look 12 = .ok (.aload_n 0, 1) := by decide +kernel
theorem d_MH_look_13 : decode b_MH_look 13 = .ok (.getfield 18, 3) := by decide +kernel
theorem d_MH_look_16 : decode b_MH_look 16 = .ok (.iload_n 1, 1) := by decide +kernel
theorem d_MH_look_17 : decode b_MH_look 17 = .ok (.aaload, 1) := by decide +kernel
theorem d_MH_look_18 : decode b_MH_look 18 = .ok (.getfield 57, 3) := by decide +kernel
theorem d_MH_look_21 : decode b_MH_look 21 = .ok (.iload_n 2, 1) := by decide +kernel
theorem d_MH_look_22 : decode b_MH_look 22 = .ok (.iload_n 3, 1) := by decide +kernel
theorem d_MH_look_23 : decode b_MH_look 23 = .ok (.iload 4, 2) := by decide +kernel
theorem d_MH_look_25 : decode b_MH_look 25 = .ok (.invokevirtual 102, 3) := by decide +kernel
theorem d_MH_look_28 : decode b_MH_look 28 = .ok (.lreturn, 1) := by decide +kernel
theorem d_MH_verdict_5 : decode b_MH_verdict 5 = .ok (.aload_n 0, 1) := by decide +kernel
theorem d_MH_verdict_6 : decode b_MH_verdict 6 = .ok (.iload_n 2, 1) := by decide +kernel
theorem d_MH_verdict_7 : decode b_MH_verdict 7 = .ok (.invokevirtual 149, 3) := by decide +kernel
theorem d_MH_verdict_10 : decode b_MH_verdict 10 = .ok (.astore_n 3, 1) := by decide +kernel
theorem d_MH_verdict_11 : decode b_MH_verdict 11 = .ok (.iload_n 2, 1) := by decide +kernel
theorem d_MH_verdict_12 : decode b_MH_verdict 12 = .ok (.aload_n 0, 1) := by decide +kernel
theorem d_MH_verdict_13 : decode b_MH_verdict 13 = .ok (.getfield 18, 3) := by decide +kernel
theorem d_MH_verdict_16 : decode b_MH_verdict 16 = .ok (.iload_n 1, 1) := by decide +kernel
theorem d_MH_verdict_17 : decode b_MH_verdict 17 = .ok (.aaload, 1) := by decide +kernel
theorem d_MH_verdict_18 : decode b_MH_verdict 18 = .ok (.getfield 51, 3) := by decide +kernel
theorem d_MH_verdict_21 : decode b_MH_verdict 21 = .ok (.if_icmp .lt 5, 3) := by decide +kernel
theorem d_MH_verdict_26 : decode b_MH_verdict 26 = .ok (.aload_n 3, 1) := by decide +kernel
theorem d_MH_verdict_27 : decode b_MH_verdict 27 = .ok (.getfield 119, 3) := by decide +kernel
theorem d_MH_verdict_30 : decode b_MH_verdict 30 = .ok (.ifCond .eq 7, 3) := by decide +kernel
theorem d_MH_verdict_37 : decode b_MH_verdict 37 = .ok (.iconst 2, 1) := by decide +kernel
theorem d_MH_verdict_38 : decode b_MH_verdict 38 = .ok (.ireturn, 1) := by decide +kernel
theorem d_MH_verdict_33 : decode b_MH_verdict 33 = .ok (.iconst 1, 1) := by decide +kernel
theorem d_MH_verdict_34 : decode b_MH_verdict 34 = .ok (.goto 4, 3) := by decide +kernel
theorem d_MH_verdict_24 : decode b_MH_verdict 24 = .ok (.iconst 0, 1) := by decide +kernel
theorem d_MH_verdict_25 : decode b_MH_verdict 25 = .ok (.ireturn, 1) := by decide +kernel
theorem d_MH_intention_6 : decode b_MH_intention 6 = .ok (.aload_n 0, 1) := by decide +kernel
theorem d_MH_intention_7 : decode b_MH_intention 7 = .ok (.iload_n 1, 1) := by decide +kernel
theorem d_MH_intention_8 : decode b_MH_intention 8 = .ok (.invokevirtual 149, 3) := by decide +kernel
theorem d_MH_intention_11 : decode b_MH_intention 11 = .ok (.iload_n 2, 1) := by decide +kernel
theorem d_MH_intention_12 : decode b_MH_intention 12 = .ok (.invokevirtual 152, 3) := by decide +kernel
theorem d_MH_intention_15 : decode b_MH_intention 15 = .ok (.ireturn, 1) := by decide +kernel
theorem d_MH_count_5 : decode b_MH_count 5 = .ok (.iload_n 1, 1) := by decide +kernel
theorem d_MH_count_6 : decode b_MH_count 6 = .ok (.ifCond .ne 11, 3) := by decide +kernel
theorem d_MH_count_9 : decode b_MH_count 9 = .ok (.aload_n 0, 1) := by decide +kernel
theorem d_MH_count_10 : decode b_MH_count 10 = .ok (.getfield 10, 3) := by decide +kernel
theorem d_MH_count_13 : decode b_MH_count 13 = .ok (.invokevirtual 109, 3) := by decide +kernel
theorem d_MH_count_16 : decode b_MH_count 16 = .ok (.ireturn, 1) := by decide +kernel
theorem d_MH_count_17 : decode b_MH_count 17 = .ok (.iload_n 1, 1) := by decide +kernel
theorem d_MH_count_18 : decode b_MH_count 18 = .ok (.iconst 1, 1) := by decide +kernel
theorem d_MH_count_19 : decode b_MH_count 19 = .ok (.if_icmp .ne 8, 3) := by decide +kernel
theorem d_MH_count_22 : decode b_MH_count 22 = .ok (.aload_n 0, 1) := by decide +kernel
theorem d_MH_count_23 : decode b_MH_count 23 = .ok (.invokevirtual 155, 3) := by decide +kernel
theorem d_MH_count_26 : decode b_MH_count 26 = .ok (.ireturn, 1) := by decide +kernel
theorem d_MH_count_27 : decode b_MH_count 27 = .ok (.iload_n 2, 1) := by decide +kernel
theorem d_MH_count_28 : decode b_MH_count 28 = .ok (.iconst 4, 1) := by decide +kernel
theorem d_MH_count_29 : decode b_MH_count 29 = .ok (.invokestatic 40, 3) := by decide +kernel
theorem d_MH_count_32 : decode b_MH_count 32 = .ok (.iload_n 1, 1) := by decide +kernel
theorem d_MH_count_33 : decode b_MH_count 33 = .ok (.iconst 2, 1) := by decide +kernel
theorem d_MH_count_34 : decode b_MH_count 34 = .ok (.if_icmp .ne 13, 3) := by decide +kernel
theorem d_MH_count_37 : decode b_MH_count 37 = .ok (.aload_n 0, 1) := by decide +kernel
theorem d_MH_count_38 : decode b_MH_count 38 = .ok (.getfield 18, 3) := by decide +kernel
theorem d_MH_count_41 : decode b_MH_count 41 = .ok (.iload_n 2, 1) := by decide +kernel
theorem d_MH_count_42 : decode b_MH_count 42 = .ok (.aaload, 1) := by decide +kernel
theorem d_MH_count_43 : decode b_MH_count 43 = .ok (.getfield 51, 3) := by decide +kernel
theorem d_MH_count_46 : decode b_MH_count 46 = .ok (.ireturn, 1) := by decide +kernel
theorem d_MH_count_47 : decode b_MH_count 47 = .ok (.iload_n 1, 1) := by decide +kernel
theorem d_MH_count_48 : decode b_MH_count 48 = .ok (.iconst 3, 1) := by decide +kernel
theorem d_MH_count_49 : decode b_MH_count 49 = .ok (.if_icmp .ne 13, 3) := by decide +kernel
theorem d_MH_count_52 : decode b_MH_count 52 = .ok (.aload_n 0, 1) := by decide +kernel
theorem d_MH_count_53 : decode b_MH_count 53 = .ok (.getfield 18, 3) := by decide +kernel
theorem d_MH_count_56 : decode b_MH_count 56 = .ok (.iload_n 2, 1) := by decide +kernel
theorem d_MH_count_57 : decode b_MH_count 57 = .ok (.aaload, 1) := by decide +kernel
theorem d_MH_count_58 : decode b_MH_count 58 = .ok (.getfield 158, 3) := by decide +kernel
theorem d_MH_count_61 : decode b_MH_count 61 = .ok (.ireturn, 1) := by decide +kernel
theorem d_MH_count_62 : decode b_MH_count 62 = .ok (.iload_n 3, 1) := by decide +kernel
theorem d_MH_count_63 : decode b_MH_count 63 = .ok (.sipush 256, 3) := by decide +kernel
theorem d_MH_count_66 : decode b_MH_count 66 = .ok (.invokestatic 40, 3) := by decide +kernel
theorem d_MH_count_69 : decode b_MH_count 69 = .ok (.aload_n 0, 1) := by decide +kernel
theorem d_MH_count_70 : decode b_MH_count 70 = .ok (.getfield 18, 3) := by decide +kernel
theorem d_MH_count_73 : decode b_MH_count 73 = .ok (.iload_n 2, 1) := by decide +kernel
theorem d_MH_count_74 : decode b_MH_count 74 = .ok (.aaload, 1) := by decide +kernel
theorem d_MH_count_75 : decode b_MH_count 75 = .ok (.getfield 161, 3) := by decide +kernel
theorem d_MH_count_78 : decode b_MH_count 78 = .ok (.iload_n 3, 1) := by decide +kernel
theorem d_MH_count_79 : decode b_MH_count 79 = .ok (.iaload, 1) := by decide +kernel
theorem d_MH_count_80 : decode b_MH_count 80 = .ok (.ireturn, 1) := by decide +kernel
set_option maxHeartbeats 4000000 in
set_option maxRecDepth 100000 in
theorem c_MH_begin_1 {l : Launch} {b : Nat} {dC : Nat → ClassId} {dI : Nat → Nat → Nat} {dA : Nat → ClassId} {zs : Nat → Nat} {w : mh_w} (hl0 : l.stackTraces = false) {x0 : Nat} {g : st_G} (hR : rC dA zs w x0 g) (hG : sg_ok g) {t u lv : Int32} (h : (st_in t 16 && (st_in u 4 && st_in lv 2)) = false) : mh_Met l b dC dI dA zs y_MH_begin (mh_rm 8 20 1000) [.ref x0, .int t, .int u, .int lv] w (mh_T 8 (fun w' => rC dA zs w' x0 g ∧ mh_C w w')) := by
  have hR2 := hR
  obtain ⟨aL, aS, aD, aV, sv, dr, vw, lg, hP⟩ := hR
  have hP2 := hP
  obtain ⟨r0, rLg, r3, r10, r11, rs, rv, rd, rl⟩ := hP2
  obtain ⟨mc, ar, r1, rAr⟩ := rLg
  have hG2 := hG
  obtain ⟨gn, grs, gat, glo, gdr⟩ := hG2
  refine mh_ofW (cc := b_MH_begin) (n := 5) (ret := none) (hs := []) (by decide) k142 ?_
  intro p e s m below meth c hx hb hr hml hown hts hlocks hnm hT hOK hadm
  have K0 : mh_K0 p s m ([.ref x0, .int t, .int u, .int lv]).toArray c "MeldHost" b_MH_begin dC dI dA := ⟨hx, hb, hown, hts, hOK.1, hOK.2.1⟩
  have hX := hOK.2.2.2.2
  have hb0 := hOK.2.2.2.1
  have hS : va_S (mh_A b) s.heap s.heap [] := va_S.rf
  have hl := lv_entry ([.ref x0, .int t, .int u, .int lv]) (n := 5) (Nat.le_of_ble_eq_true rfl)
  rw [lg_entry_eq]
  generalize (lg_sl ([.ref x0, .int t, .int u, .int lv]) ++ List.replicate (5 - (lg_sl ([.ref x0, .int t, .int u, .int lv])).length) Slot.unset).toArray = ls at hl ⊢
  have hl : lv_has ls 5 [(0, .ref x0), (1, .int t), (2, .int u), (3, .int lv)] := hl
  refine lv_iload_n hx hb d_MH_begin_0 rfl (lv_at hl 1 rfl) ?_
  refine lv_bipush (v := nI 16) hx hb d_MH_begin_1 (by decide) ?_
  by_cases c1 : st_in t 16 = true
  · skip
    obtain ⟨j1, i1, e1⟩ := st_in_of (by decide) c1
    subst e1
    refine mh_callR (mh_sS (rest := []) (av := [.int (nI j1), .int (nI 16)]) K0 e_MH_needBelow l_MH_40 k144 rfl rfl d_MH_begin_3) (c_MH_needBelow i1 (by decide)) K0 hOK hml hl.1 e_MH_needBelow hX hS d_MH_begin_3 (Nat.le_of_ble_eq_true rfl) (Nat.le_of_ble_eq_true rfl) (Nat.le_of_ble_eq_true rfl) (Nat.le_of_ble_eq_true rfl) (Nat.le_of_ble_eq_true rfl) (fun H locs hX hS => ?_)
    refine W.eq (g2 := F0 m 6 ls []) rfl ?_
    refine lv_iload_n hx hb d_MH_begin_6 rfl (lv_at hl 2 rfl) ?_
    refine lv_iconst (v := nI 4) hx hb d_MH_begin_7 (by decide) ?_
    by_cases c2 : st_in u 4 = true
    · skip
      obtain ⟨j2, i2, e2⟩ := st_in_of (by decide) c2
      subst e2
      refine mh_callR (mh_sS (rest := []) (av := [.int (nI j2), .int (nI 4)]) K0 e_MH_needBelow l_MH_40 k144 rfl rfl d_MH_begin_8) (c_MH_needBelow i2 (by decide)) K0 hOK hml hl.1 e_MH_needBelow hX hS d_MH_begin_8 (Nat.le_of_ble_eq_true rfl) (Nat.le_of_ble_eq_true rfl) (Nat.le_of_ble_eq_true rfl) (Nat.le_of_ble_eq_true rfl) (Nat.le_of_ble_eq_true rfl) (fun H locs hX hS => ?_)
      refine W.eq (g2 := F0 m 11 ls []) rfl ?_
      refine lv_iload_n hx hb d_MH_begin_11 rfl (lv_at hl 3 rfl) ?_
      refine lv_iconst (v := nI 2) hx hb d_MH_begin_12 (by decide) ?_
      by_cases c3 : st_in lv 2 = true
      · skip
        obtain ⟨j3, i3, e3⟩ := st_in_of (by decide) c3
        subst e3
        exact absurd h (by simp [c1, c2, c3])
      · skip
        refine mh_callT (mh_sS (rest := []) (av := [.int lv, .int (nI 2)]) K0 e_MH_needBelow l_MH_40 k144 rfl rfl d_MH_begin_13) (c_MH_needBelow_no hl0 (Bool.eq_false_iff.mpr c3)) K0 hOK hml hl.1 e_MH_needBelow hX hS d_MH_begin_13 (Nat.le_of_ble_eq_true rfl) (Nat.le_of_ble_eq_true rfl) (Nat.le_of_ble_eq_true rfl) (Nat.le_of_ble_eq_true rfl) (Nat.le_of_ble_eq_true rfl) (fun q w1 H locs hq hw hX hS => ?_)
        exact mh_leave hlocks hT hX hS (⟨q, rfl, hq, hR2.x hw, hw.C⟩) (Nat.le_of_ble_eq_true rfl) (Nat.le_of_ble_eq_true rfl)
    · skip
      refine mh_callT (mh_sS (rest := []) (av := [.int u, .int (nI 4)]) K0 e_MH_needBelow l_MH_40 k144 rfl rfl d_MH_begin_8) (c_MH_needBelow_no hl0 (Bool.eq_false_iff.mpr c2)) K0 hOK hml hl.1 e_MH_needBelow hX hS d_MH_begin_8 (Nat.le_of_ble_eq_true rfl) (Nat.le_of_ble_eq_true rfl) (Nat.le_of_ble_eq_true rfl) (Nat.le_of_ble_eq_true rfl) (Nat.le_of_ble_eq_true rfl) (fun q w1 H locs hq hw hX hS => ?_)
      exact mh_leave hlocks hT hX hS (⟨q, rfl, hq, hR2.x hw, hw.C⟩) (Nat.le_of_ble_eq_true rfl) (Nat.le_of_ble_eq_true rfl)
  · skip
    refine mh_callT (mh_sS (rest := []) (av := [.int t, .int (nI 16)]) K0 e_MH_needBelow l_MH_40 k144 rfl rfl d_MH_begin_3) (c_MH_needBelow_no hl0 (Bool.eq_false_iff.mpr c1)) K0 hOK hml hl.1 e_MH_needBelow hX hS d_MH_begin_3 (Nat.le_of_ble_eq_true rfl) (Nat.le_of_ble_eq_true rfl) (Nat.le_of_ble_eq_true rfl) (Nat.le_of_ble_eq_true rfl) (Nat.le_of_ble_eq_true rfl) (fun q w1 H locs hq hw hX hS => ?_)
    exact mh_leave hlocks hT hX hS (⟨q, rfl, hq, hR2.x hw, hw.C⟩) (Nat.le_of_ble_eq_true rfl) (Nat.le_of_ble_eq_true rfl)
set_option maxHeartbeats 4000000 in
set_option maxRecDepth 100000 in
theorem c_MH_get_1 {l : Launch} {b : Nat} {dC : Nat → ClassId} {dI : Nat → Nat → Nat} {dA : Nat → ClassId} {zs : Nat → Nat} {w : mh_w} (hl0 : l.stackTraces = false) {x0 : Nat} {g : st_G} (hR : rC dA zs w x0 g) (hG : sg_ok g) {t key : Int32} (h : (st_in t 16 && st_in key 256) = false) : mh_Met l b dC dI dA zs y_MH_get (mh_rm 8 20 1000) [.ref x0, .int t, .int key] w (mh_T 8 (fun w' => rC dA zs w' x0 g ∧ mh_C w w')) := by
  have hR2 := hR
  obtain ⟨aL, aS, aD, aV, sv, dr, vw, lg, hP⟩ := hR
  have hP2 := hP
  obtain ⟨r0, rLg, r3, r10, r11, rs, rv, rd, rl⟩ := hP2
  obtain ⟨mc, ar, r1, rAr⟩ := rLg
  have hG2 := hG
  obtain ⟨gn, grs, gat, glo, gdr⟩ := hG2
  refine mh_ofW (cc := b_MH_get) (n := 3) (ret := (some .long)) (hs := []) (by decide) k300 ?_
  intro p e s m below meth c hx hb hr hml hown hts hlocks hnm hT hOK hadm
  have K0 : mh_K0 p s m ([.ref x0, .int t, .int key]).toArray c "MeldHost" b_MH_get dC dI dA := ⟨hx, hb, hown, hts, hOK.1, hOK.2.1⟩
  have hX := hOK.2.2.2.2
  have hb0 := hOK.2.2.2.1
  have hS : va_S (mh_A b) s.heap s.heap [] := va_S.rf
  have hl := lv_entry ([.ref x0, .int t, .int key]) (n := 3) (Nat.le_of_ble_eq_true rfl)
  rw [lg_entry_eq]
  generalize (lg_sl ([.ref x0, .int t, .int key]) ++ List.replicate (3 - (lg_sl ([.ref x0, .int t, .int key])).length) Slot.unset).toArray = ls at hl ⊢
  have hl : lv_has ls 3 [(0, .ref x0), (1, .int t), (2, .int key)] := hl
  refine lv_iload_n hx hb d_MH_get_0 rfl (lv_at hl 1 rfl) ?_
  refine lv_bipush (v := nI 16) hx hb d_MH_get_1 (by decide) ?_
  by_cases c1 : st_in t 16 = true
  · skip
    obtain ⟨j1, i1, e1⟩ := st_in_of (by decide) c1
    subst e1
    refine mh_callR (mh_sS (rest := []) (av := [.int (nI j1), .int (nI 16)]) K0 e_MH_needBelow l_MH_40 k144 rfl rfl d_MH_get_3) (c_MH_needBelow i1 (by decide)) K0 hOK hml hl.1 e_MH_needBelow hX hS d_MH_get_3 (Nat.le_of_ble_eq_true rfl) (Nat.le_of_ble_eq_true rfl) (Nat.le_of_ble_eq_true rfl) (Nat.le_of_ble_eq_true rfl) (Nat.le_of_ble_eq_true rfl) (fun H locs hX hS => ?_)
    refine W.eq (g2 := F0 m 6 ls []) rfl ?_
    refine lv_iload_n hx hb d_MH_get_6 rfl (lv_at hl 2 rfl) ?_
    refine lv_sipush (v := nI 256) hx hb d_MH_get_7 (by decide) ?_
    by_cases c2 : st_in key 256 = true
    · skip
      obtain ⟨j2, i2, e2⟩ := st_in_of (by decide) c2
      subst e2
      exact absurd h (by simp [c1, c2])
    · skip
      refine mh_callT (mh_sS (rest := []) (av := [.int key, .int (nI 256)]) K0 e_MH_needBelow l_MH_40 k144 rfl rfl d_MH_get_10) (c_MH_needBelow_no hl0 (Bool.eq_false_iff.mpr c2)) K0 hOK hml hl.1 e_MH_needBelow hX hS d_MH_get_10 (Nat.le_of_ble_eq_true rfl) (Nat.le_of_ble_eq_true rfl) (Nat.le_of_ble_eq_true rfl) (Nat.le_of_ble_eq_true rfl) (Nat.le_of_ble_eq_true rfl) (fun q w1 H locs hq hw hX hS => ?_)
      exact mh_leave hlocks hT hX hS (⟨q, rfl, hq, hR2.x hw, hw.C⟩) (Nat.le_of_ble_eq_true rfl) (Nat.le_of_ble_eq_true rfl)
  · skip
    refine mh_callT (mh_sS (rest := []) (av := [.int t, .int (nI 16)]) K0 e_MH_needBelow l_MH_40 k144 rfl rfl d_MH_get_3) (c_MH_needBelow_no hl0 (Bool.eq_false_iff.mpr c1)) K0 hOK hml hl.1 e_MH_needBelow hX hS d_MH_get_3 (Nat.le_of_ble_eq_true rfl) (Nat.le_of_ble_eq_true rfl) (Nat.le_of_ble_eq_true rfl) (Nat.le_of_ble_eq_true rfl) (Nat.le_of_ble_eq_true rfl) (fun q w1 H locs hq hw hX hS => ?_)
    exact mh_leave hlocks hT hX hS (⟨q, rfl, hq, hR2.x hw, hw.C⟩) (Nat.le_of_ble_eq_true rfl) (Nat.le_of_ble_eq_true rfl)
set_option maxHeartbeats 4000000 in
set_option maxRecDepth 100000 in
theorem c_MH_delete_1 {l : Launch} {b : Nat} {dC : Nat → ClassId} {dI : Nat → Nat → Nat} {dA : Nat → ClassId} {zs : Nat → Nat} {w : mh_w} (hl0 : l.stackTraces = false) {x0 : Nat} {g : st_G} (hR : rC dA zs w x0 g) (hG : sg_ok g) {t key : Int32} (h : (st_in t 16 && st_in key 256) = false) : mh_Met l b dC dI dA zs y_MH_delete (mh_rm 8 20 1000) [.ref x0, .int t, .int key] w (mh_T 8 (fun w' => rC dA zs w' x0 g ∧ mh_C w w')) := by
  have hR2 := hR
  obtain ⟨aL, aS, aD, aV, sv, dr, vw, lg, hP⟩ := hR
  have hP2 := hP
  obtain ⟨r0, rLg, r3, r10, r11, rs, rv, rd, rl⟩ := hP2
  obtain ⟨mc, ar, r1, rAr⟩ := rLg
  have hG2 := hG
  obtain ⟨gn, grs, gat, glo, gdr⟩ := hG2
  refine mh_ofW (cc := b_MH_delete) (n := 4) (ret := (some .int)) (hs := []) (by decide) k394 ?_
  intro p e s m below meth c hx hb hr hml hown hts hlocks hnm hT hOK hadm
  have K0 : mh_K0 p s m ([.ref x0, .int t, .int key]).toArray c "MeldHost" b_MH_delete dC dI dA := ⟨hx, hb, hown, hts, hOK.1, hOK.2.1⟩
  have hX := hOK.2.2.2.2
  have hb0 := hOK.2.2.2.1
  have hS : va_S (mh_A b) s.heap s.heap [] := va_S.rf
  have hl := lv_entry ([.ref x0, .int t, .int key]) (n := 4) (Nat.le_of_ble_eq_true rfl)
  rw [lg_entry_eq]
  generalize (lg_sl ([.ref x0, .int t, .int key]) ++ List.replicate (4 - (lg_sl ([.ref x0, .int t, .int key])).length) Slot.unset).toArray = ls at hl ⊢
  have hl : lv_has ls 4 [(0, .ref x0), (1, .int t), (2, .int key)] := hl
  refine lv_iload_n hx hb d_MH_delete_0 rfl (lv_at hl 1 rfl) ?_
  refine lv_bipush (v := nI 16) hx hb d_MH_delete_1 (by decide) ?_
  by_cases c1 : st_in t 16 = true
  · skip
    obtain ⟨j1, i1, e1⟩ := st_in_of (by decide) c1
    subst e1
    refine mh_callR (mh_sS (rest := []) (av := [.int (nI j1), .int (nI 16)]) K0 e_MH_needBelow l_MH_40 k144 rfl rfl d_MH_delete_3) (c_MH_needBelow i1 (by decide)) K0 hOK hml hl.1 e_MH_needBelow hX hS d_MH_delete_3 (Nat.le_of_ble_eq_true rfl) (Nat.le_of_ble_eq_true rfl) (Nat.le_of_ble_eq_true rfl) (Nat.le_of_ble_eq_true rfl) (Nat.le_of_ble_eq_true rfl) (fun H locs hX hS => ?_)
    refine W.eq (g2 := F0 m 6 ls []) rfl ?_
    refine lv_iload_n hx hb d_MH_delete_6 rfl (lv_at hl 2 rfl) ?_
    refine lv_sipush (v := nI 256) hx hb d_MH_delete_7 (by decide) ?_
    by_cases c2 : st_in key 256 = true
    · skip
      obtain ⟨j2, i2, e2⟩ := st_in_of (by decide) c2
      subst e2
      exact absurd h (by simp [c1, c2])
    · skip
      refine mh_callT (mh_sS (rest := []) (av := [.int key, .int (nI 256)]) K0 e_MH_needBelow l_MH_40 k144 rfl rfl d_MH_delete_10) (c_MH_needBelow_no hl0 (Bool.eq_false_iff.mpr c2)) K0 hOK hml hl.1 e_MH_needBelow hX hS d_MH_delete_10 (Nat.le_of_ble_eq_true rfl) (Nat.le_of_ble_eq_true rfl) (Nat.le_of_ble_eq_true rfl) (Nat.le_of_ble_eq_true rfl) (Nat.le_of_ble_eq_true rfl) (fun q w1 H locs hq hw hX hS => ?_)
      exact mh_leave hlocks hT hX hS (⟨q, rfl, hq, hR2.x hw, hw.C⟩) (Nat.le_of_ble_eq_true rfl) (Nat.le_of_ble_eq_true rfl)
  · skip
    refine mh_callT (mh_sS (rest := []) (av := [.int t, .int (nI 16)]) K0 e_MH_needBelow l_MH_40 k144 rfl rfl d_MH_delete_3) (c_MH_needBelow_no hl0 (Bool.eq_false_iff.mpr c1)) K0 hOK hml hl.1 e_MH_needBelow hX hS d_MH_delete_3 (Nat.le_of_ble_eq_true rfl) (Nat.le_of_ble_eq_true rfl) (Nat.le_of_ble_eq_true rfl) (Nat.le_of_ble_eq_true rfl) (Nat.le_of_ble_eq_true rfl) (fun q w1 H locs hq hw hX hS => ?_)
    exact mh_leave hlocks hT hX hS (⟨q, rfl, hq, hR2.x hw, hw.C⟩) (Nat.le_of_ble_eq_true rfl) (Nat.le_of_ble_eq_true rfl)
set_option maxHeartbeats 4000000 in
set_option maxRecDepth 100000 in
theorem c_MH_put_1 {l : Launch} {b : Nat} {dC : Nat → ClassId} {dI : Nat → Nat → Nat} {dA : Nat → ClassId} {zs : Nat → Nat} {w : mh_w} (hl0 : l.stackTraces = false) {x0 : Nat} {g : st_G} (hR : rC dA zs w x0 g) (hG : sg_ok g) {t key : Int32} {v : Int64} (h : (st_in t 16 && st_in key 256) = false) : mh_Met l b dC dI dA zs y_MH_put (mh_rm 8 20 1000) [.ref x0, .int t, .int key, .long v] w (mh_T 8 (fun w' => rC dA zs w' x0 g ∧ mh_C w w')) := by
  have hR2 := hR
  obtain ⟨aL, aS, aD, aV, sv, dr, vw, lg, hP⟩ := hR
  have hP2 := hP
  obtain ⟨r0, rLg, r3, r10, r11, rs, rv, rd, rl⟩ := hP2
  obtain ⟨mc, ar, r1, rAr⟩ := rLg
  have hG2 := hG
  obtain ⟨gn, grs, gat, glo, gdr⟩ := hG2
  refine mh_ofW (cc := b_MH_put) (n := 6) (ret := (some .int)) (hs := []) (by decide) k352 ?_
  intro p e s m below meth c hx hb hr hml hown hts hlocks hnm hT hOK hadm
  have K0 : mh_K0 p s m ([.ref x0, .int t, .int key, .long v]).toArray c "MeldHost" b_MH_put dC dI dA := ⟨hx, hb, hown, hts, hOK.1, hOK.2.1⟩
  have hX := hOK.2.2.2.2
  have hb0 := hOK.2.2.2.1
  have hS : va_S (mh_A b) s.heap s.heap [] := va_S.rf
  have hl := lv_entry ([.ref x0, .int t, .int key, .long v]) (n := 6) (Nat.le_of_ble_eq_true rfl)
  rw [lg_entry_eq]
  generalize (lg_sl ([.ref x0, .int t, .int key, .long v]) ++ List.replicate (6 - (lg_sl ([.ref x0, .int t, .int key, .long v])).length) Slot.unset).toArray = ls at hl ⊢
  have hl : lv_has ls 6 [(0, .ref x0), (1, .int t), (2, .int key), (3, .long v)] := hl
  refine lv_iload_n hx hb d_MH_put_0 rfl (lv_at hl 1 rfl) ?_
  refine lv_bipush (v := nI 16) hx hb d_MH_put_1 (by decide) ?_
  by_cases c1 : st_in t 16 = true
  · skip
    obtain ⟨j1, i1, e1⟩ := st_in_of (by decide) c1
    subst e1
    refine mh_callR (mh_sS (rest := []) (av := [.int (nI j1), .int (nI 16)]) K0 e_MH_needBelow l_MH_40 k144 rfl rfl d_MH_put_3) (c_MH_needBelow i1 (by decide)) K0 hOK hml hl.1 e_MH_needBelow hX hS d_MH_put_3 (Nat.le_of_ble_eq_true rfl) (Nat.le_of_ble_eq_true rfl) (Nat.le_of_ble_eq_true rfl) (Nat.le_of_ble_eq_true rfl) (Nat.le_of_ble_eq_true rfl) (fun H locs hX hS => ?_)
    refine W.eq (g2 := F0 m 6 ls []) rfl ?_
    refine lv_iload_n hx hb d_MH_put_6 rfl (lv_at hl 2 rfl) ?_
    refine lv_sipush (v := nI 256) hx hb d_MH_put_7 (by decide) ?_
    by_cases c2 : st_in key 256 = true
    · skip
      obtain ⟨j2, i2, e2⟩ := st_in_of (by decide) c2
      subst e2
      exact absurd h (by simp [c1, c2])
    · skip
      refine mh_callT (mh_sS (rest := []) (av := [.int key, .int (nI 256)]) K0 e_MH_needBelow l_MH_40 k144 rfl rfl d_MH_put_10) (c_MH_needBelow_no hl0 (Bool.eq_false_iff.mpr c2)) K0 hOK hml hl.1 e_MH_needBelow hX hS d_MH_put_10 (Nat.le_of_ble_eq_true rfl) (Nat.le_of_ble_eq_true rfl) (Nat.le_of_ble_eq_true rfl) (Nat.le_of_ble_eq_true rfl) (Nat.le_of_ble_eq_true rfl) (fun q w1 H locs hq hw hX hS => ?_)
      exact mh_leave hlocks hT hX hS (⟨q, rfl, hq, hR2.x hw, hw.C⟩) (Nat.le_of_ble_eq_true rfl) (Nat.le_of_ble_eq_true rfl)
  · skip
    refine mh_callT (mh_sS (rest := []) (av := [.int t, .int (nI 16)]) K0 e_MH_needBelow l_MH_40 k144 rfl rfl d_MH_put_3) (c_MH_needBelow_no hl0 (Bool.eq_false_iff.mpr c1)) K0 hOK hml hl.1 e_MH_needBelow hX hS d_MH_put_3 (Nat.le_of_ble_eq_true rfl) (Nat.le_of_ble_eq_true rfl) (Nat.le_of_ble_eq_true rfl) (Nat.le_of_ble_eq_true rfl) (Nat.le_of_ble_eq_true rfl) (fun q w1 H locs hq hw hX hS => ?_)
    exact mh_leave hlocks hT hX hS (⟨q, rfl, hq, hR2.x hw, hw.C⟩) (Nat.le_of_ble_eq_true rfl) (Nat.le_of_ble_eq_true rfl)
set_option maxHeartbeats 4000000 in
set_option maxRecDepth 100000 in
theorem c_MH_part_1 {l : Launch} {b : Nat} {dC : Nat → ClassId} {dI : Nat → Nat → Nat} {dA : Nat → ClassId} {zs : Nat → Nat} {w : mh_w} (hl0 : l.stackTraces = false) {x0 : Nat} {g : st_G} (hR : rC dA zs w x0 g) (hG : sg_ok g) {t low high what : Int32} (h : (st_in t 16 && sp_pt low high what) = false) : mh_Met l b dC dI dA zs y_MH_part (mh_rm 8 20 1000) [.ref x0, .int t, .int low, .int high, .int what] w (mh_T 8 (fun w' => rC dA zs w' x0 g ∧ mh_C w w')) := by
  have hR2 := hR
  obtain ⟨aL, aS, aD, aV, sv, dr, vw, lg, hP⟩ := hR
  have hP2 := hP
  obtain ⟨r0, rLg, r3, r10, r11, rs, rv, rd, rl⟩ := hP2
  obtain ⟨mc, ar, r1, rAr⟩ := rLg
  have hG2 := hG
  obtain ⟨gn, grs, gat, glo, gdr⟩ := hG2
  refine mh_ofW (cc := b_MH_part) (n := 6) (ret := (some .long)) (hs := []) (by decide) k410 ?_
  intro p e s m below meth c hx hb hr hml hown hts hlocks hnm hT hOK hadm
  have K0 : mh_K0 p s m ([.ref x0, .int t, .int low, .int high, .int what]).toArray c "MeldHost" b_MH_part dC dI dA := ⟨hx, hb, hown, hts, hOK.1, hOK.2.1⟩
  have hX := hOK.2.2.2.2
  have hb0 := hOK.2.2.2.1
  have hS : va_S (mh_A b) s.heap s.heap [] := va_S.rf
  have hl := lv_entry ([.ref x0, .int t, .int low, .int high, .int what]) (n := 6) (Nat.le_of_ble_eq_true rfl)
  rw [lg_entry_eq]
  generalize (lg_sl ([.ref x0, .int t, .int low, .int high, .int what]) ++ List.replicate (6 - (lg_sl ([.ref x0, .int t, .int low, .int high, .int what])).length) Slot.unset).toArray = ls at hl ⊢
  have hl : lv_has ls 6 [(0, .ref x0), (1, .int t), (2, .int low), (3, .int high), (4, .int what)] := hl
  refine lv_iload_n hx hb d_MH_part_0 rfl (lv_at hl 1 rfl) ?_
  refine lv_bipush (v := nI 16) hx hb d_MH_part_1 (by decide) ?_
  by_cases c1 : st_in t 16 = true
  · skip
    obtain ⟨j1, i1, e1⟩ := st_in_of (by decide) c1
    subst e1
    refine mh_callR (mh_sS (rest := []) (av := [.int (nI j1), .int (nI 16)]) K0 e_MH_needBelow l_MH_40 k144 rfl rfl d_MH_part_3) (c_MH_needBelow i1 (by decide)) K0 hOK hml hl.1 e_MH_needBelow hX hS d_MH_part_3 (Nat.le_of_ble_eq_true rfl) (Nat.le_of_ble_eq_true rfl) (Nat.le_of_ble_eq_true rfl) (Nat.le_of_ble_eq_true rfl) (Nat.le_of_ble_eq_true rfl) (fun H locs hX hS => ?_)
    refine W.eq (g2 := F0 m 6 ls []) rfl ?_
    refine lv_iload_n hx hb d_MH_part_6 rfl (lv_at hl 2 rfl) ?_
    refine lv_iload_n hx hb d_MH_part_7 rfl (lv_at hl 3 rfl) ?_
    refine lv_iload hx hb d_MH_part_8 (lv_at hl 4 rfl) ?_
    by_cases c2 : sp_pt low high what = true
    · skip
      exact absurd h (by simp [c1, c2])
    · skip
      refine mh_callT (mh_sS (rest := []) (av := [.int low, .int high, .int what]) K0 e_MH_needPart l_MH_88 k412 rfl rfl d_MH_part_10) (c_MH_needPart_no hl0 (Bool.eq_false_iff.mpr c2)) K0 hOK hml hl.1 e_MH_needPart hX hS d_MH_part_10 (Nat.le_of_ble_eq_true rfl) (Nat.le_of_ble_eq_true rfl) (Nat.le_of_ble_eq_true rfl) (Nat.le_of_ble_eq_true rfl) (Nat.le_of_ble_eq_true rfl) (fun q w1 H locs hq hw hX hS => ?_)
      exact mh_leave hlocks hT hX hS (⟨q, rfl, hq, hR2.x hw, hw.C⟩) (Nat.le_of_ble_eq_true rfl) (Nat.le_of_ble_eq_true rfl)
  · skip
    refine mh_callT (mh_sS (rest := []) (av := [.int t, .int (nI 16)]) K0 e_MH_needBelow l_MH_40 k144 rfl rfl d_MH_part_3) (c_MH_needBelow_no hl0 (Bool.eq_false_iff.mpr c1)) K0 hOK hml hl.1 e_MH_needBelow hX hS d_MH_part_3 (Nat.le_of_ble_eq_true rfl) (Nat.le_of_ble_eq_true rfl) (Nat.le_of_ble_eq_true rfl) (Nat.le_of_ble_eq_true rfl) (Nat.le_of_ble_eq_true rfl) (fun q w1 H locs hq hw hX hS => ?_)
    exact mh_leave hlocks hT hX hS (⟨q, rfl, hq, hR2.x hw, hw.C⟩) (Nat.le_of_ble_eq_true rfl) (Nat.le_of_ble_eq_true rfl)
set_option maxHeartbeats 4000000 in
set_option maxRecDepth 100000 in
theorem c_MH_look_1 {l : Launch} {b : Nat} {dC : Nat → ClassId} {dI : Nat → Nat → Nat} {dA : Nat → ClassId} {zs : Nat → Nat} {w : mh_w} (hl0 : l.stackTraces = false) {x0 : Nat} {g : st_G} (hR : rC dA zs w x0 g) (hG : sg_ok g) {u low high what : Int32} (h : (st_in u 4 && sp_pt low high what) = false) : mh_Met l b dC dI dA zs y_MH_look (mh_rm 8 20 1000) [.ref x0, .int u, .int low, .int high, .int what] w (mh_T 8 (fun w' => rC dA zs w' x0 g ∧ mh_C w w')) := by
  have hR2 := hR
  obtain ⟨aL, aS, aD, aV, sv, dr, vw, lg, hP⟩ := hR
  have hP2 := hP
  obtain ⟨r0, rLg, r3, r10, r11, rs, rv, rd, rl⟩ := hP2
  obtain ⟨mc, ar, r1, rAr⟩ := rLg
  have hG2 := hG
  obtain ⟨gn, grs, gat, glo, gdr⟩ := hG2
  refine mh_ofW (cc := b_MH_look) (n := 5) (ret := (some .long)) (hs := []) (by decide) k599 ?_
  intro p e s m below meth c hx hb hr hml hown hts hlocks hnm hT hOK hadm
  have K0 : mh_K0 p s m ([.ref x0, .int u, .int low, .int high, .int what]).toArray c "MeldHost" b_MH_look dC dI dA := ⟨hx, hb, hown, hts, hOK.1, hOK.2.1⟩
  have hX := hOK.2.2.2.2
  have hb0 := hOK.2.2.2.1
  have hS : va_S (mh_A b) s.heap s.heap [] := va_S.rf
  have hl := lv_entry ([.ref x0, .int u, .int low, .int high, .int what]) (n := 5) (Nat.le_of_ble_eq_true rfl)
  rw [lg_entry_eq]
  generalize (lg_sl ([.ref x0, .int u, .int low, .int high, .int what]) ++ List.replicate (5 - (lg_sl ([.ref x0, .int u, .int low, .int high, .int what])).length) Slot.unset).toArray = ls at hl ⊢
  have hl : lv_has ls 5 [(0, .ref x0), (1, .int u), (2, .int low), (3, .int high), (4, .int what)] := hl
  refine lv_iload_n hx hb d_MH_look_0 rfl (lv_at hl 1 rfl) ?_
  refine lv_iconst (v := nI 4) hx hb d_MH_look_1 (by decide) ?_
  by_cases c1 : st_in u 4 = true
  · skip
    obtain ⟨j1, i1, e1⟩ := st_in_of (by decide) c1
    subst e1
    refine mh_callR (mh_sS (rest := []) (av := [.int (nI j1), .int (nI 4)]) K0 e_MH_needBelow l_MH_40 k144 rfl rfl d_MH_look_2) (c_MH_needBelow i1 (by decide)) K0 hOK hml hl.1 e_MH_needBelow hX hS d_MH_look_2 (Nat.le_of_ble_eq_true rfl) (Nat.le_of_ble_eq_true rfl) (Nat.le_of_ble_eq_true rfl) (Nat.le_of_ble_eq_true rfl) (Nat.le_of_ble_eq_true rfl) (fun H locs hX hS => ?_)
    refine W.eq (g2 := F0 m 5 ls []) rfl ?_
    refine lv_iload_n hx hb d_MH_look_5 rfl (lv_at hl 2 rfl) ?_
    refine lv_iload_n hx hb d_MH_look_6 rfl (lv_at hl 3 rfl) ?_
    refine lv_iload hx hb d_MH_look_7 (lv_at hl 4 rfl) ?_
    by_cases c2 : sp_pt low high what = true
    · skip
      exact absurd h (by simp [c1, c2])
    · skip
      refine mh_callT (mh_sS (rest := []) (av := [.int low, .int high, .int what]) K0 e_MH_needPart l_MH_88 k412 rfl rfl d_MH_look_9) (c_MH_needPart_no hl0 (Bool.eq_false_iff.mpr c2)) K0 hOK hml hl.1 e_MH_needPart hX hS d_MH_look_9 (Nat.le_of_ble_eq_true rfl) (Nat.le_of_ble_eq_true rfl) (Nat.le_of_ble_eq_true rfl) (Nat.le_of_ble_eq_true rfl) (Nat.le_of_ble_eq_true rfl) (fun q w1 H locs hq hw hX hS => ?_)
      exact mh_leave hlocks hT hX hS (⟨q, rfl, hq, hR2.x hw, hw.C⟩) (Nat.le_of_ble_eq_true rfl) (Nat.le_of_ble_eq_true rfl)
  · skip
    refine mh_callT (mh_sS (rest := []) (av := [.int u, .int (nI 4)]) K0 e_MH_needBelow l_MH_40 k144 rfl rfl d_MH_look_2) (c_MH_needBelow_no hl0 (Bool.eq_false_iff.mpr c1)) K0 hOK hml hl.1 e_MH_needBelow hX hS d_MH_look_2 (Nat.le_of_ble_eq_true rfl) (Nat.le_of_ble_eq_true rfl) (Nat.le_of_ble_eq_true rfl) (Nat.le_of_ble_eq_true rfl) (Nat.le_of_ble_eq_true rfl) (fun q w1 H locs hq hw hX hS => ?_)
    exact mh_leave hlocks hT hX hS (⟨q, rfl, hq, hR2.x hw, hw.C⟩) (Nat.le_of_ble_eq_true rfl) (Nat.le_of_ble_eq_true rfl)
set_option maxHeartbeats 4000000 in
set_option maxRecDepth 100000 in
theorem c_MH_commit_1 {l : Launch} {b : Nat} {dC : Nat → ClassId} {dI : Nat → Nat → Nat} {dA : Nat → ClassId} {zs : Nat → Nat} {w : mh_w} (hl0 : l.stackTraces = false) {x0 : Nat} {g : st_G} (hR : rC dA zs w x0 g) (hG : sg_ok g) {t : Int32} (h : st_in t 16 = false) : mh_Met l b dC dI dA zs y_MH_commit (mh_rm 8 20 1000) [.ref x0, .int t] w (mh_T 8 (fun w' => rC dA zs w' x0 g ∧ mh_C w w')) := by
  have hR2 := hR
  obtain ⟨aL, aS, aD, aV, sv, dr, vw, lg, hP⟩ := hR
  have hP2 := hP
  obtain ⟨r0, rLg, r3, r10, r11, rs, rv, rd, rl⟩ := hP2
  obtain ⟨mc, ar, r1, rAr⟩ := rLg
  have hG2 := hG
  obtain ⟨gn, grs, gat, glo, gdr⟩ := hG2
  refine mh_ofW (cc := b_MH_commit) (n := 3) (ret := (some .int)) (hs := []) (by decide) k446 ?_
  intro p e s m below meth c hx hb hr hml hown hts hlocks hnm hT hOK hadm
  have K0 : mh_K0 p s m ([.ref x0, .int t]).toArray c "MeldHost" b_MH_commit dC dI dA := ⟨hx, hb, hown, hts, hOK.1, hOK.2.1⟩
  have hX := hOK.2.2.2.2
  have hb0 := hOK.2.2.2.1
  have hS : va_S (mh_A b) s.heap s.heap [] := va_S.rf
  have hl := lv_entry ([.ref x0, .int t]) (n := 3) (Nat.le_of_ble_eq_true rfl)
  rw [lg_entry_eq]
  generalize (lg_sl ([.ref x0, .int t]) ++ List.replicate (3 - (lg_sl ([.ref x0, .int t])).length) Slot.unset).toArray = ls at hl ⊢
  have hl : lv_has ls 3 [(0, .ref x0), (1, .int t)] := hl
  refine lv_iload_n hx hb d_MH_commit_0 rfl (lv_at hl 1 rfl) ?_
  refine lv_bipush (v := nI 16) hx hb d_MH_commit_1 (by decide) ?_
  by_cases c1 : st_in t 16 = true
  · skip
    obtain ⟨j1, i1, e1⟩ := st_in_of (by decide) c1
    subst e1
    exact absurd h (by simp [c1])
  · skip
    refine mh_callT (mh_sS (rest := []) (av := [.int t, .int (nI 16)]) K0 e_MH_needBelow l_MH_40 k144 rfl rfl d_MH_commit_3) (c_MH_needBelow_no hl0 (Bool.eq_false_iff.mpr c1)) K0 hOK hml hl.1 e_MH_needBelow hX hS d_MH_commit_3 (Nat.le_of_ble_eq_true rfl) (Nat.le_of_ble_eq_true rfl) (Nat.le_of_ble_eq_true rfl) (Nat.le_of_ble_eq_true rfl) (Nat.le_of_ble_eq_true rfl) (fun q w1 H locs hq hw hX hS => ?_)
    exact mh_leave hlocks hT hX hS (⟨q, rfl, hq, hR2.x hw, hw.C⟩) (Nat.le_of_ble_eq_true rfl) (Nat.le_of_ble_eq_true rfl)
set_option maxHeartbeats 4000000 in
set_option maxRecDepth 100000 in
theorem c_MH_abort_1 {l : Launch} {b : Nat} {dC : Nat → ClassId} {dI : Nat → Nat → Nat} {dA : Nat → ClassId} {zs : Nat → Nat} {w : mh_w} (hl0 : l.stackTraces = false) {x0 : Nat} {g : st_G} (hR : rC dA zs w x0 g) (hG : sg_ok g) {t : Int32} (h : st_in t 16 = false) : mh_Met l b dC dI dA zs y_MH_abort (mh_rm 8 20 1000) [.ref x0, .int t] w (mh_T 8 (fun w' => rC dA zs w' x0 g ∧ mh_C w w')) := by
  have hR2 := hR
  obtain ⟨aL, aS, aD, aV, sv, dr, vw, lg, hP⟩ := hR
  have hP2 := hP
  obtain ⟨r0, rLg, r3, r10, r11, rs, rv, rd, rl⟩ := hP2
  obtain ⟨mc, ar, r1, rAr⟩ := rLg
  have hG2 := hG
  obtain ⟨gn, grs, gat, glo, gdr⟩ := hG2
  refine mh_ofW (cc := b_MH_abort) (n := 2) (ret := none) (hs := []) (by decide) k540 ?_
  intro p e s m below meth c hx hb hr hml hown hts hlocks hnm hT hOK hadm
  have K0 : mh_K0 p s m ([.ref x0, .int t]).toArray c "MeldHost" b_MH_abort dC dI dA := ⟨hx, hb, hown, hts, hOK.1, hOK.2.1⟩
  have hX := hOK.2.2.2.2
  have hb0 := hOK.2.2.2.1
  have hS : va_S (mh_A b) s.heap s.heap [] := va_S.rf
  have hl := lv_entry ([.ref x0, .int t]) (n := 2) (Nat.le_of_ble_eq_true rfl)
  rw [lg_entry_eq]
  generalize (lg_sl ([.ref x0, .int t]) ++ List.replicate (2 - (lg_sl ([.ref x0, .int t])).length) Slot.unset).toArray = ls at hl ⊢
  have hl : lv_has ls 2 [(0, .ref x0), (1, .int t)] := hl
  refine lv_iload_n hx hb d_MH_abort_0 rfl (lv_at hl 1 rfl) ?_
  refine lv_bipush (v := nI 16) hx hb d_MH_abort_1 (by decide) ?_
  by_cases c1 : st_in t 16 = true
  · skip
    obtain ⟨j1, i1, e1⟩ := st_in_of (by decide) c1
    subst e1
    exact absurd h (by simp [c1])
  · skip
    refine mh_callT (mh_sS (rest := []) (av := [.int t, .int (nI 16)]) K0 e_MH_needBelow l_MH_40 k144 rfl rfl d_MH_abort_3) (c_MH_needBelow_no hl0 (Bool.eq_false_iff.mpr c1)) K0 hOK hml hl.1 e_MH_needBelow hX hS d_MH_abort_3 (Nat.le_of_ble_eq_true rfl) (Nat.le_of_ble_eq_true rfl) (Nat.le_of_ble_eq_true rfl) (Nat.le_of_ble_eq_true rfl) (Nat.le_of_ble_eq_true rfl) (fun q w1 H locs hq hw hX hS => ?_)
    exact mh_leave hlocks hT hX hS (⟨q, rfl, hq, hR2.x hw, hw.C⟩) (Nat.le_of_ble_eq_true rfl) (Nat.le_of_ble_eq_true rfl)
set_option maxHeartbeats 4000000 in
set_option maxRecDepth 100000 in
theorem c_MH_advance_1 {l : Launch} {b : Nat} {dC : Nat → ClassId} {dI : Nat → Nat → Nat} {dA : Nat → ClassId} {zs : Nat → Nat} {w : mh_w} (hl0 : l.stackTraces = false) {x0 : Nat} {g : st_G} (hR : rC dA zs w x0 g) (hG : sg_ok g) {u k : Int32} (h : (st_in u 4 && st_in k 401) = false) : mh_Met l b dC dI dA zs y_MH_advance (mh_rm 8 20 1000) [.ref x0, .int u, .int k] w (mh_T 8 (fun w' => rC dA zs w' x0 g ∧ mh_C w w')) := by
  have hR2 := hR
  obtain ⟨aL, aS, aD, aV, sv, dr, vw, lg, hP⟩ := hR
  have hP2 := hP
  obtain ⟨r0, rLg, r3, r10, r11, rs, rv, rd, rl⟩ := hP2
  obtain ⟨mc, ar, r1, rAr⟩ := rLg
  have hG2 := hG
  obtain ⟨gn, grs, gat, glo, gdr⟩ := hG2
  refine mh_ofW (cc := b_MH_advance) (n := 6) (ret := (some .int)) (hs := []) (by decide) k547 ?_
  intro p e s m below meth c hx hb hr hml hown hts hlocks hnm hT hOK hadm
  have K0 : mh_K0 p s m ([.ref x0, .int u, .int k]).toArray c "MeldHost" b_MH_advance dC dI dA := ⟨hx, hb, hown, hts, hOK.1, hOK.2.1⟩
  have hX := hOK.2.2.2.2
  have hb0 := hOK.2.2.2.1
  have hS : va_S (mh_A b) s.heap s.heap [] := va_S.rf
  have hl := lv_entry ([.ref x0, .int u, .int k]) (n := 6) (Nat.le_of_ble_eq_true rfl)
  rw [lg_entry_eq]
  generalize (lg_sl ([.ref x0, .int u, .int k]) ++ List.replicate (6 - (lg_sl ([.ref x0, .int u, .int k])).length) Slot.unset).toArray = ls at hl ⊢
  have hl : lv_has ls 6 [(0, .ref x0), (1, .int u), (2, .int k)] := hl
  refine lv_iload_n hx hb d_MH_advance_0 rfl (lv_at hl 1 rfl) ?_
  refine lv_iconst (v := nI 4) hx hb d_MH_advance_1 (by decide) ?_
  by_cases c1 : st_in u 4 = true
  · skip
    obtain ⟨j1, i1, e1⟩ := st_in_of (by decide) c1
    subst e1
    refine mh_callR (mh_sS (rest := []) (av := [.int (nI j1), .int (nI 4)]) K0 e_MH_needBelow l_MH_40 k144 rfl rfl d_MH_advance_2) (c_MH_needBelow i1 (by decide)) K0 hOK hml hl.1 e_MH_needBelow hX hS d_MH_advance_2 (Nat.le_of_ble_eq_true rfl) (Nat.le_of_ble_eq_true rfl) (Nat.le_of_ble_eq_true rfl) (Nat.le_of_ble_eq_true rfl) (Nat.le_of_ble_eq_true rfl) (fun H locs hX hS => ?_)
    refine W.eq (g2 := F0 m 5 ls []) rfl ?_
    refine lv_iload_n hx hb d_MH_advance_5 rfl (lv_at hl 2 rfl) ?_
    refine lv_sipush (v := nI 401) hx hb d_MH_advance_6 (by decide) ?_
    by_cases c2 : st_in k 401 = true
    · skip
      obtain ⟨j2, i2, e2⟩ := st_in_of (by decide) c2
      subst e2
      exact absurd h (by simp [c1, c2])
    · skip
      refine mh_callT (mh_sS (rest := []) (av := [.int k, .int (nI 401)]) K0 e_MH_needBelow l_MH_40 k144 rfl rfl d_MH_advance_9) (c_MH_needBelow_no hl0 (Bool.eq_false_iff.mpr c2)) K0 hOK hml hl.1 e_MH_needBelow hX hS d_MH_advance_9 (Nat.le_of_ble_eq_true rfl) (Nat.le_of_ble_eq_true rfl) (Nat.le_of_ble_eq_true rfl) (Nat.le_of_ble_eq_true rfl) (Nat.le_of_ble_eq_true rfl) (fun q w1 H locs hq hw hX hS => ?_)
      exact mh_leave hlocks hT hX hS (⟨q, rfl, hq, hR2.x hw, hw.C⟩) (Nat.le_of_ble_eq_true rfl) (Nat.le_of_ble_eq_true rfl)
  · skip
    refine mh_callT (mh_sS (rest := []) (av := [.int u, .int (nI 4)]) K0 e_MH_needBelow l_MH_40 k144 rfl rfl d_MH_advance_2) (c_MH_needBelow_no hl0 (Bool.eq_false_iff.mpr c1)) K0 hOK hml hl.1 e_MH_needBelow hX hS d_MH_advance_2 (Nat.le_of_ble_eq_true rfl) (Nat.le_of_ble_eq_true rfl) (Nat.le_of_ble_eq_true rfl) (Nat.le_of_ble_eq_true rfl) (Nat.le_of_ble_eq_true rfl) (fun q w1 H locs hq hw hX hS => ?_)
    exact mh_leave hlocks hT hX hS (⟨q, rfl, hq, hR2.x hw, hw.C⟩) (Nat.le_of_ble_eq_true rfl) (Nat.le_of_ble_eq_true rfl)
set_option maxHeartbeats 4000000 in
set_option maxRecDepth 100000 in
theorem c_MH_restart_1 {l : Launch} {b : Nat} {dC : Nat → ClassId} {dI : Nat → Nat → Nat} {dA : Nat → ClassId} {zs : Nat → Nat} {w : mh_w} (hl0 : l.stackTraces = false) {x0 : Nat} {g : st_G} (hR : rC dA zs w x0 g) (hG : sg_ok g) {u : Int32} (h : st_in u 4 = false) : mh_Met l b dC dI dA zs y_MH_restart (mh_rm 8 20 1000) [.ref x0, .int u] w (mh_T 8 (fun w' => rC dA zs w' x0 g ∧ mh_C w w')) := by
  have hR2 := hR
  obtain ⟨aL, aS, aD, aV, sv, dr, vw, lg, hP⟩ := hR
  have hP2 := hP
  obtain ⟨r0, rLg, r3, r10, r11, rs, rv, rd, rl⟩ := hP2
  obtain ⟨mc, ar, r1, rAr⟩ := rLg
  have hG2 := hG
  obtain ⟨gn, grs, gat, glo, gdr⟩ := hG2
  refine mh_ofW (cc := b_MH_restart) (n := 3) (ret := none) (hs := []) (by decide) k569 ?_
  intro p e s m below meth c hx hb hr hml hown hts hlocks hnm hT hOK hadm
  have K0 : mh_K0 p s m ([.ref x0, .int u]).toArray c "MeldHost" b_MH_restart dC dI dA := ⟨hx, hb, hown, hts, hOK.1, hOK.2.1⟩
  have hX := hOK.2.2.2.2
  have hb0 := hOK.2.2.2.1
  have hS : va_S (mh_A b) s.heap s.heap [] := va_S.rf
  have hl := lv_entry ([.ref x0, .int u]) (n := 3) (Nat.le_of_ble_eq_true rfl)
  rw [lg_entry_eq]
  generalize (lg_sl ([.ref x0, .int u]) ++ List.replicate (3 - (lg_sl ([.ref x0, .int u])).length) Slot.unset).toArray = ls at hl ⊢
  have hl : lv_has ls 3 [(0, .ref x0), (1, .int u)] := hl
  refine lv_iload_n hx hb d_MH_restart_0 rfl (lv_at hl 1 rfl) ?_
  refine lv_iconst (v := nI 4) hx hb d_MH_restart_1 (by decide) ?_
  by_cases c1 : st_in u 4 = true
  · skip
    obtain ⟨j1, i1, e1⟩ := st_in_of (by decide) c1
    subst e1
    exact absurd h (by simp [c1])
  · skip
    refine mh_callT (mh_sS (rest := []) (av := [.int u, .int (nI 4)]) K0 e_MH_needBelow l_MH_40 k144 rfl rfl d_MH_restart_2) (c_MH_needBelow_no hl0 (Bool.eq_false_iff.mpr c1)) K0 hOK hml hl.1 e_MH_needBelow hX hS d_MH_restart_2 (Nat.le_of_ble_eq_true rfl) (Nat.le_of_ble_eq_true rfl) (Nat.le_of_ble_eq_true rfl) (Nat.le_of_ble_eq_true rfl) (Nat.le_of_ble_eq_true rfl) (fun q w1 H locs hq hw hX hS => ?_)
    exact mh_leave hlocks hT hX hS (⟨q, rfl, hq, hR2.x hw, hw.C⟩) (Nat.le_of_ble_eq_true rfl) (Nat.le_of_ble_eq_true rfl)
set_option maxHeartbeats 4000000 in
set_option maxRecDepth 100000 in
theorem c_MH_state_1 {l : Launch} {b : Nat} {dC : Nat → ClassId} {dI : Nat → Nat → Nat} {dA : Nat → ClassId} {zs : Nat → Nat} {w : mh_w} (hl0 : l.stackTraces = false) {x0 : Nat} {g : st_G} (hR : rC dA zs w x0 g) (hG : sg_ok g) {u key : Int32} (h : (st_in u 4 && st_in key 256) = false) : mh_Met l b dC dI dA zs y_MH_state (mh_rm 8 20 1000) [.ref x0, .int u, .int key] w (mh_T 8 (fun w' => rC dA zs w' x0 g ∧ mh_C w w')) := by
  have hR2 := hR
  obtain ⟨aL, aS, aD, aV, sv, dr, vw, lg, hP⟩ := hR
  have hP2 := hP
  obtain ⟨r0, rLg, r3, r10, r11, rs, rv, rd, rl⟩ := hP2
  obtain ⟨mc, ar, r1, rAr⟩ := rLg
  have hG2 := hG
  obtain ⟨gn, grs, gat, glo, gdr⟩ := hG2
  refine mh_ofW (cc := b_MH_state) (n := 3) (ret := (some .long)) (hs := []) (by decide) k592 ?_
  intro p e s m below meth c hx hb hr hml hown hts hlocks hnm hT hOK hadm
  have K0 : mh_K0 p s m ([.ref x0, .int u, .int key]).toArray c "MeldHost" b_MH_state dC dI dA := ⟨hx, hb, hown, hts, hOK.1, hOK.2.1⟩
  have hX := hOK.2.2.2.2
  have hb0 := hOK.2.2.2.1
  have hS : va_S (mh_A b) s.heap s.heap [] := va_S.rf
  have hl := lv_entry ([.ref x0, .int u, .int key]) (n := 3) (Nat.le_of_ble_eq_true rfl)
  rw [lg_entry_eq]
  generalize (lg_sl ([.ref x0, .int u, .int key]) ++ List.replicate (3 - (lg_sl ([.ref x0, .int u, .int key])).length) Slot.unset).toArray = ls at hl ⊢
  have hl : lv_has ls 3 [(0, .ref x0), (1, .int u), (2, .int key)] := hl
  refine lv_iload_n hx hb d_MH_state_0 rfl (lv_at hl 1 rfl) ?_
  refine lv_iconst (v := nI 4) hx hb d_MH_state_1 (by decide) ?_
  by_cases c1 : st_in u 4 = true
  · skip
    obtain ⟨j1, i1, e1⟩ := st_in_of (by decide) c1
    subst e1
    refine mh_callR (mh_sS (rest := []) (av := [.int (nI j1), .int (nI 4)]) K0 e_MH_needBelow l_MH_40 k144 rfl rfl d_MH_state_2) (c_MH_needBelow i1 (by decide)) K0 hOK hml hl.1 e_MH_needBelow hX hS d_MH_state_2 (Nat.le_of_ble_eq_true rfl) (Nat.le_of_ble_eq_true rfl) (Nat.le_of_ble_eq_true rfl) (Nat.le_of_ble_eq_true rfl) (Nat.le_of_ble_eq_true rfl) (fun H locs hX hS => ?_)
    refine W.eq (g2 := F0 m 5 ls []) rfl ?_
    refine lv_iload_n hx hb d_MH_state_5 rfl (lv_at hl 2 rfl) ?_
    refine lv_sipush (v := nI 256) hx hb d_MH_state_6 (by decide) ?_
    by_cases c2 : st_in key 256 = true
    · skip
      obtain ⟨j2, i2, e2⟩ := st_in_of (by decide) c2
      subst e2
      exact absurd h (by simp [c1, c2])
    · skip
      refine mh_callT (mh_sS (rest := []) (av := [.int key, .int (nI 256)]) K0 e_MH_needBelow l_MH_40 k144 rfl rfl d_MH_state_9) (c_MH_needBelow_no hl0 (Bool.eq_false_iff.mpr c2)) K0 hOK hml hl.1 e_MH_needBelow hX hS d_MH_state_9 (Nat.le_of_ble_eq_true rfl) (Nat.le_of_ble_eq_true rfl) (Nat.le_of_ble_eq_true rfl) (Nat.le_of_ble_eq_true rfl) (Nat.le_of_ble_eq_true rfl) (fun q w1 H locs hq hw hX hS => ?_)
      exact mh_leave hlocks hT hX hS (⟨q, rfl, hq, hR2.x hw, hw.C⟩) (Nat.le_of_ble_eq_true rfl) (Nat.le_of_ble_eq_true rfl)
  · skip
    refine mh_callT (mh_sS (rest := []) (av := [.int u, .int (nI 4)]) K0 e_MH_needBelow l_MH_40 k144 rfl rfl d_MH_state_2) (c_MH_needBelow_no hl0 (Bool.eq_false_iff.mpr c1)) K0 hOK hml hl.1 e_MH_needBelow hX hS d_MH_state_2 (Nat.le_of_ble_eq_true rfl) (Nat.le_of_ble_eq_true rfl) (Nat.le_of_ble_eq_true rfl) (Nat.le_of_ble_eq_true rfl) (Nat.le_of_ble_eq_true rfl) (fun q w1 H locs hq hw hX hS => ?_)
    exact mh_leave hlocks hT hX hS (⟨q, rfl, hq, hR2.x hw, hw.C⟩) (Nat.le_of_ble_eq_true rfl) (Nat.le_of_ble_eq_true rfl)
set_option maxHeartbeats 4000000 in
set_option maxRecDepth 100000 in
theorem c_MH_verdict_1 {l : Launch} {b : Nat} {dC : Nat → ClassId} {dI : Nat → Nat → Nat} {dA : Nat → ClassId} {zs : Nat → Nat} {w : mh_w} (hl0 : l.stackTraces = false) {x0 : Nat} {g : st_G} (hR : rC dA zs w x0 g) (hG : sg_ok g) {u k : Int32} (h : st_in u 4 = false) : mh_Met l b dC dI dA zs y_MH_verdict (mh_rm 8 20 1000) [.ref x0, .int u, .int k] w (mh_T 8 (fun w' => rC dA zs w' x0 g ∧ mh_C w w')) := by
  have hR2 := hR
  obtain ⟨aL, aS, aD, aV, sv, dr, vw, lg, hP⟩ := hR
  have hP2 := hP
  obtain ⟨r0, rLg, r3, r10, r11, rs, rv, rd, rl⟩ := hP2
  obtain ⟨mc, ar, r1, rAr⟩ := rLg
  have hG2 := hG
  obtain ⟨gn, grs, gat, glo, gdr⟩ := hG2
  refine mh_ofW (cc := b_MH_verdict) (n := 4) (ret := (some .int)) (hs := []) (by decide) k606 ?_
  intro p e s m below meth c hx hb hr hml hown hts hlocks hnm hT hOK hadm
  have K0 : mh_K0 p s m ([.ref x0, .int u, .int k]).toArray c "MeldHost" b_MH_verdict dC dI dA := ⟨hx, hb, hown, hts, hOK.1, hOK.2.1⟩
  have hX := hOK.2.2.2.2
  have hb0 := hOK.2.2.2.1
  have hS : va_S (mh_A b) s.heap s.heap [] := va_S.rf
  have hl := lv_entry ([.ref x0, .int u, .int k]) (n := 4) (Nat.le_of_ble_eq_true rfl)
  rw [lg_entry_eq]
  generalize (lg_sl ([.ref x0, .int u, .int k]) ++ List.replicate (4 - (lg_sl ([.ref x0, .int u, .int k])).length) Slot.unset).toArray = ls at hl ⊢
  have hl : lv_has ls 4 [(0, .ref x0), (1, .int u), (2, .int k)] := hl
  refine lv_iload_n hx hb d_MH_verdict_0 rfl (lv_at hl 1 rfl) ?_
  refine lv_iconst (v := nI 4) hx hb d_MH_verdict_1 (by decide) ?_
  refine mh_callT (mh_sS (rest := []) (av := [.int u, .int (nI 4)]) K0 e_MH_needBelow l_MH_40 k144 rfl rfl d_MH_verdict_2) (c_MH_needBelow_no hl0 h) K0 hOK hml hl.1 e_MH_needBelow hX hS d_MH_verdict_2 (Nat.le_of_ble_eq_true rfl) (Nat.le_of_ble_eq_true rfl) (Nat.le_of_ble_eq_true rfl) (Nat.le_of_ble_eq_true rfl) (Nat.le_of_ble_eq_true rfl) (fun q w1 H locs hq hw hX hS => ?_)
  exact mh_leave hlocks hT hX hS (⟨q, rfl, hq, hR2.x hw, hw.C⟩) (Nat.le_of_ble_eq_true rfl) (Nat.le_of_ble_eq_true rfl)
set_option maxHeartbeats 4000000 in
set_option maxRecDepth 100000 in
theorem c_MH_intention_1 {l : Launch} {b : Nat} {dC : Nat → ClassId} {dI : Nat → Nat → Nat} {dA : Nat → ClassId} {zs : Nat → Nat} {w : mh_w} (hl0 : l.stackTraces = false) {x0 : Nat} {g : st_G} (hR : rC dA zs w x0 g) (hG : sg_ok g) {k what : Int32} (h : st_in what 6 = false) : mh_Met l b dC dI dA zs y_MH_intention (mh_rm 8 20 1000) [.ref x0, .int k, .int what] w (mh_T 8 (fun w' => rC dA zs w' x0 g ∧ mh_C w w')) := by
  have hR2 := hR
  obtain ⟨aL, aS, aD, aV, sv, dr, vw, lg, hP⟩ := hR
  have hP2 := hP
  obtain ⟨r0, rLg, r3, r10, r11, rs, rv, rd, rl⟩ := hP2
  obtain ⟨mc, ar, r1, rAr⟩ := rLg
  have hG2 := hG
  obtain ⟨gn, grs, gat, glo, gdr⟩ := hG2
  refine mh_ofW (cc := b_MH_intention) (n := 3) (ret := (some .int)) (hs := []) (by decide) k618 ?_
  intro p e s m below meth c hx hb hr hml hown hts hlocks hnm hT hOK hadm
  have K0 : mh_K0 p s m ([.ref x0, .int k, .int what]).toArray c "MeldHost" b_MH_intention dC dI dA := ⟨hx, hb, hown, hts, hOK.1, hOK.2.1⟩
  have hX := hOK.2.2.2.2
  have hb0 := hOK.2.2.2.1
  have hS : va_S (mh_A b) s.heap s.heap [] := va_S.rf
  have hl := lv_entry ([.ref x0, .int k, .int what]) (n := 3) (Nat.le_of_ble_eq_true rfl)
  rw [lg_entry_eq]
  generalize (lg_sl ([.ref x0, .int k, .int what]) ++ List.replicate (3 - (lg_sl ([.ref x0, .int k, .int what])).length) Slot.unset).toArray = ls at hl ⊢
  have hl : lv_has ls 3 [(0, .ref x0), (1, .int k), (2, .int what)] := hl
  refine lv_iload_n hx hb d_MH_intention_0 rfl (lv_at hl 2 rfl) ?_
  refine lv_bipush (v := nI 6) hx hb d_MH_intention_1 (by decide) ?_
  refine mh_callT (mh_sS (rest := []) (av := [.int what, .int (nI 6)]) K0 e_MH_needBelow l_MH_40 k144 rfl rfl d_MH_intention_3) (c_MH_needBelow_no hl0 h) K0 hOK hml hl.1 e_MH_needBelow hX hS d_MH_intention_3 (Nat.le_of_ble_eq_true rfl) (Nat.le_of_ble_eq_true rfl) (Nat.le_of_ble_eq_true rfl) (Nat.le_of_ble_eq_true rfl) (Nat.le_of_ble_eq_true rfl) (fun q w1 H locs hq hw hX hS => ?_)
  exact mh_leave hlocks hT hX hS (⟨q, rfl, hq, hR2.x hw, hw.C⟩) (Nat.le_of_ble_eq_true rfl) (Nat.le_of_ble_eq_true rfl)
set_option maxHeartbeats 4000000 in
set_option maxRecDepth 100000 in
theorem c_MH_count_1 {l : Launch} {b : Nat} {dC : Nat → ClassId} {dI : Nat → Nat → Nat} {dA : Nat → ClassId} {zs : Nat → Nat} {w : mh_w} (hl0 : l.stackTraces = false) {x0 : Nat} {g : st_G} (hR : rC dA zs w x0 g) (hG : sg_ok g) {what k j : Int32} (h : st_in what 5 = false) : mh_Met l b dC dI dA zs y_MH_count (mh_rm 8 20 1000) [.ref x0, .int what, .int k, .int j] w (mh_T 8 (fun w' => rC dA zs w' x0 g ∧ mh_C w w')) := by
  have hR2 := hR
  obtain ⟨aL, aS, aD, aV, sv, dr, vw, lg, hP⟩ := hR
  have hP2 := hP
  obtain ⟨r0, rLg, r3, r10, r11, rs, rv, rd, rl⟩ := hP2
  obtain ⟨mc, ar, r1, rAr⟩ := rLg
  have hG2 := hG
  obtain ⟨gn, grs, gat, glo, gdr⟩ := hG2
  refine mh_ofW (cc := b_MH_count) (n := 4) (ret := (some .int)) (hs := []) (by decide) k639 ?_
  intro p e s m below meth c hx hb hr hml hown hts hlocks hnm hT hOK hadm
  have K0 : mh_K0 p s m ([.ref x0, .int what, .int k, .int j]).toArray c "MeldHost" b_MH_count dC dI dA := ⟨hx, hb, hown, hts, hOK.1, hOK.2.1⟩
  have hX := hOK.2.2.2.2
  have hb0 := hOK.2.2.2.1
  have hS : va_S (mh_A b) s.heap s.heap [] := va_S.rf
  have hl := lv_entry ([.ref x0, .int what, .int k, .int j]) (n := 4) (Nat.le_of_ble_eq_true rfl)
  rw [lg_entry_eq]
  generalize (lg_sl ([.ref x0, .int what, .int k, .int j]) ++ List.replicate (4 - (lg_sl ([.ref x0, .int what, .int k, .int j])).length) Slot.unset).toArray = ls at hl ⊢
  have hl : lv_has ls 4 [(0, .ref x0), (1, .int what), (2, .int k), (3, .int j)] := hl
  refine lv_iload_n hx hb d_MH_count_0 rfl (lv_at hl 1 rfl) ?_
  refine lv_iconst (v := nI 5) hx hb d_MH_count_1 (by decide) ?_
  refine mh_callT (mh_sS (rest := []) (av := [.int what, .int (nI 5)]) K0 e_MH_needBelow l_MH_40 k144 rfl rfl d_MH_count_2) (c_MH_needBelow_no hl0 h) K0 hOK hml hl.1 e_MH_needBelow hX hS d_MH_count_2 (Nat.le_of_ble_eq_true rfl) (Nat.le_of_ble_eq_true rfl) (Nat.le_of_ble_eq_true rfl) (Nat.le_of_ble_eq_true rfl) (Nat.le_of_ble_eq_true rfl) (fun q w1 H locs hq hw hX hS => ?_)
  exact mh_leave hlocks hT hX hS (⟨q, rfl, hq, hR2.x hw, hw.C⟩) (Nat.le_of_ble_eq_true rfl) (Nat.le_of_ble_eq_true rfl)
set_option maxHeartbeats 4000000 in
set_option maxRecDepth 100000 in
theorem c_MH_get_2 {l : Launch} {b : Nat} {dC : Nat → ClassId} {dI : Nat → Nat → Nat} {dA : Nat → ClassId} {zs : Nat → Nat} {w : mh_w} (hl0 : l.stackTraces = false) {x0 : Nat} {g : st_G} (hR : rC dA zs w x0 g) (hG : sg_ok g) {t : Nat} (ht : t < 16) {key : Nat} (hk : key < 256) (hd : sg_dr g t = none) : mh_Met l b dC dI dA zs y_MH_get (mh_rm 8 20 1000) [.ref x0, .int (nI t), .int (nI key)] w (mh_T 9 (fun w' => rC dA zs w' x0 g ∧ mh_C w w')) := by
  have hR2 := hR
  obtain ⟨aL, aS, aD, aV, sv, dr, vw, lg, hP⟩ := hR
  have hP2 := hP
  obtain ⟨r0, rLg, r3, r10, r11, rs, rv, rd, rl⟩ := hP2
  obtain ⟨mc, ar, r1, rAr⟩ := rLg
  have hG2 := hG
  obtain ⟨gn, grs, gat, glo, gdr⟩ := hG2
  refine mh_ofW (cc := b_MH_get) (n := 3) (ret := (some .long)) (hs := []) (by decide) k300 ?_
  intro p e s m below meth c hx hb hr hml hown hts hlocks hnm hT hOK hadm
  have K0 : mh_K0 p s m ([.ref x0, .int (nI t), .int (nI key)]).toArray c "MeldHost" b_MH_get dC dI dA := ⟨hx, hb, hown, hts, hOK.1, hOK.2.1⟩
  have hX := hOK.2.2.2.2
  have hb0 := hOK.2.2.2.1
  have hS : va_S (mh_A b) s.heap s.heap [] := va_S.rf
  have hl := lv_entry ([.ref x0, .int (nI t), .int (nI key)]) (n := 3) (Nat.le_of_ble_eq_true rfl)
  rw [lg_entry_eq]
  generalize (lg_sl ([.ref x0, .int (nI t), .int (nI key)]) ++ List.replicate (3 - (lg_sl ([.ref x0, .int (nI t), .int (nI key)])).length) Slot.unset).toArray = ls at hl ⊢
  have hl : lv_has ls 3 [(0, .ref x0), (1, .int (nI t)), (2, .int (nI key))] := hl
  refine lv_iload_n hx hb d_MH_get_0 rfl (lv_at hl 1 rfl) ?_
  refine lv_bipush (v := nI 16) hx hb d_MH_get_1 (by decide) ?_
  refine mh_callR (mh_sS (rest := []) (av := [.int (nI t), .int (nI 16)]) K0 e_MH_needBelow l_MH_40 k144 rfl rfl d_MH_get_3) (c_MH_needBelow ht (by decide)) K0 hOK hml hl.1 e_MH_needBelow hX hS d_MH_get_3 (Nat.le_of_ble_eq_true rfl) (Nat.le_of_ble_eq_true rfl) (Nat.le_of_ble_eq_true rfl) (Nat.le_of_ble_eq_true rfl) (Nat.le_of_ble_eq_true rfl) (fun H locs hX hS => ?_)
  refine W.eq (g2 := F0 m 6 ls []) rfl ?_
  refine lv_iload_n hx hb d_MH_get_6 rfl (lv_at hl 2 rfl) ?_
  refine lv_sipush (v := nI 256) hx hb d_MH_get_7 (by decide) ?_
  refine mh_callR (mh_sS (rest := []) (av := [.int (nI key), .int (nI 256)]) K0 e_MH_needBelow l_MH_40 k144 rfl rfl d_MH_get_10) (c_MH_needBelow hk (by decide)) K0 hOK hml hl.1 e_MH_needBelow hX hS d_MH_get_10 (Nat.le_of_ble_eq_true rfl) (Nat.le_of_ble_eq_true rfl) (Nat.le_of_ble_eq_true rfl) (Nat.le_of_ble_eq_true rfl) (Nat.le_of_ble_eq_true rfl) (fun H locs hX hS => ?_)
  refine W.eq (g2 := F0 m 13 ls []) rfl ?_
  refine lv_aload_n hx hb d_MH_get_13 rfl (lv_at hl 0 rfl) ?_
  refine lv_iload_n hx hb d_MH_get_14 rfl (lv_at hl 1 rfl) ?_
  refine mh_callT (mh_sV (rest := []) (av := [.int (nI t)]) K0 hX r0 rfl e_MH_openDraft l_MH_65 k303 kp1 rfl rfl d_MH_get_15) (c_MH_openDraft_no hl0 r0 r10 ht ((rd t ht).none hd)) K0 hOK hml hl.1 e_MH_openDraft hX hS d_MH_get_15 (Nat.le_of_ble_eq_true rfl) (Nat.le_of_ble_eq_true rfl) (Nat.le_of_ble_eq_true rfl) (Nat.le_of_ble_eq_true rfl) (Nat.le_of_ble_eq_true rfl) (fun q w1 H locs hq hw hX hS => ?_)
  exact mh_leave hlocks hT hX hS (⟨q, rfl, hq, hR2.x hw, hw.C⟩) (Nat.le_of_ble_eq_true rfl) (Nat.le_of_ble_eq_true rfl)
set_option maxHeartbeats 4000000 in
set_option maxRecDepth 100000 in
theorem c_MH_put_2 {l : Launch} {b : Nat} {dC : Nat → ClassId} {dI : Nat → Nat → Nat} {dA : Nat → ClassId} {zs : Nat → Nat} {w : mh_w} (hl0 : l.stackTraces = false) {x0 : Nat} {g : st_G} (hR : rC dA zs w x0 g) (hG : sg_ok g) {t : Nat} (ht : t < 16) {key : Nat} (hk : key < 256) {v : Int64} (hd : sg_dr g t = none) : mh_Met l b dC dI dA zs y_MH_put (mh_rm 8 20 1000) [.ref x0, .int (nI t), .int (nI key), .long v] w (mh_T 9 (fun w' => rC dA zs w' x0 g ∧ mh_C w w')) := by
  have hR2 := hR
  obtain ⟨aL, aS, aD, aV, sv, dr, vw, lg, hP⟩ := hR
  have hP2 := hP
  obtain ⟨r0, rLg, r3, r10, r11, rs, rv, rd, rl⟩ := hP2
  obtain ⟨mc, ar, r1, rAr⟩ := rLg
  have hG2 := hG
  obtain ⟨gn, grs, gat, glo, gdr⟩ := hG2
  refine mh_ofW (cc := b_MH_put) (n := 6) (ret := (some .int)) (hs := []) (by decide) k352 ?_
  intro p e s m below meth c hx hb hr hml hown hts hlocks hnm hT hOK hadm
  have K0 : mh_K0 p s m ([.ref x0, .int (nI t), .int (nI key), .long v]).toArray c "MeldHost" b_MH_put dC dI dA := ⟨hx, hb, hown, hts, hOK.1, hOK.2.1⟩
  have hX := hOK.2.2.2.2
  have hb0 := hOK.2.2.2.1
  have hS : va_S (mh_A b) s.heap s.heap [] := va_S.rf
  have hl := lv_entry ([.ref x0, .int (nI t), .int (nI key), .long v]) (n := 6) (Nat.le_of_ble_eq_true rfl)
  rw [lg_entry_eq]
  generalize (lg_sl ([.ref x0, .int (nI t), .int (nI key), .long v]) ++ List.replicate (6 - (lg_sl ([.ref x0, .int (nI t), .int (nI key), .long v])).length) Slot.unset).toArray = ls at hl ⊢
  have hl : lv_has ls 6 [(0, .ref x0), (1, .int (nI t)), (2, .int (nI key)), (3, .long v)] := hl
  refine lv_iload_n hx hb d_MH_put_0 rfl (lv_at hl 1 rfl) ?_
  refine lv_bipush (v := nI 16) hx hb d_MH_put_1 (by decide) ?_
  refine mh_callR (mh_sS (rest := []) (av := [.int (nI t), .int (nI 16)]) K0 e_MH_needBelow l_MH_40 k144 rfl rfl d_MH_put_3) (c_MH_needBelow ht (by decide)) K0 hOK hml hl.1 e_MH_needBelow hX hS d_MH_put_3 (Nat.le_of_ble_eq_true rfl) (Nat.le_of_ble_eq_true rfl) (Nat.le_of_ble_eq_true rfl) (Nat.le_of_ble_eq_true rfl) (Nat.le_of_ble_eq_true rfl) (fun H locs hX hS => ?_)
  refine W.eq (g2 := F0 m 6 ls []) rfl ?_
  refine lv_iload_n hx hb d_MH_put_6 rfl (lv_at hl 2 rfl) ?_
  refine lv_sipush (v := nI 256) hx hb d_MH_put_7 (by decide) ?_
  refine mh_callR (mh_sS (rest := []) (av := [.int (nI key), .int (nI 256)]) K0 e_MH_needBelow l_MH_40 k144 rfl rfl d_MH_put_10) (c_MH_needBelow hk (by decide)) K0 hOK hml hl.1 e_MH_needBelow hX hS d_MH_put_10 (Nat.le_of_ble_eq_true rfl) (Nat.le_of_ble_eq_true rfl) (Nat.le_of_ble_eq_true rfl) (Nat.le_of_ble_eq_true rfl) (Nat.le_of_ble_eq_true rfl) (fun H locs hX hS => ?_)
  refine W.eq (g2 := F0 m 13 ls []) rfl ?_
  refine lv_aload_n hx hb d_MH_put_13 rfl (lv_at hl 0 rfl) ?_
  refine lv_iload_n hx hb d_MH_put_14 rfl (lv_at hl 1 rfl) ?_
  refine mh_callT (mh_sV (rest := []) (av := [.int (nI t)]) K0 hX r0 rfl e_MH_openDraft l_MH_65 k303 kp1 rfl rfl d_MH_put_15) (c_MH_openDraft_no hl0 r0 r10 ht ((rd t ht).none hd)) K0 hOK hml hl.1 e_MH_openDraft hX hS d_MH_put_15 (Nat.le_of_ble_eq_true rfl) (Nat.le_of_ble_eq_true rfl) (Nat.le_of_ble_eq_true rfl) (Nat.le_of_ble_eq_true rfl) (Nat.le_of_ble_eq_true rfl) (fun q w1 H locs hq hw hX hS => ?_)
  exact mh_leave hlocks hT hX hS (⟨q, rfl, hq, hR2.x hw, hw.C⟩) (Nat.le_of_ble_eq_true rfl) (Nat.le_of_ble_eq_true rfl)
set_option maxHeartbeats 4000000 in
set_option maxRecDepth 100000 in
theorem c_MH_delete_2 {l : Launch} {b : Nat} {dC : Nat → ClassId} {dI : Nat → Nat → Nat} {dA : Nat → ClassId} {zs : Nat → Nat} {w : mh_w} (hl0 : l.stackTraces = false) {x0 : Nat} {g : st_G} (hR : rC dA zs w x0 g) (hG : sg_ok g) {t : Nat} (ht : t < 16) {key : Nat} (hk : key < 256) (hd : sg_dr g t = none) : mh_Met l b dC dI dA zs y_MH_delete (mh_rm 8 20 1000) [.ref x0, .int (nI t), .int (nI key)] w (mh_T 9 (fun w' => rC dA zs w' x0 g ∧ mh_C w w')) := by
  have hR2 := hR
  obtain ⟨aL, aS, aD, aV, sv, dr, vw, lg, hP⟩ := hR
  have hP2 := hP
  obtain ⟨r0, rLg, r3, r10, r11, rs, rv, rd, rl⟩ := hP2
  obtain ⟨mc, ar, r1, rAr⟩ := rLg
  have hG2 := hG
  obtain ⟨gn, grs, gat, glo, gdr⟩ := hG2
  refine mh_ofW (cc := b_MH_delete) (n := 4) (ret := (some .int)) (hs := []) (by decide) k394 ?_
  intro p e s m below meth c hx hb hr hml hown hts hlocks hnm hT hOK hadm
  have K0 : mh_K0 p s m ([.ref x0, .int (nI t), .int (nI key)]).toArray c "MeldHost" b_MH_delete dC dI dA := ⟨hx, hb, hown, hts, hOK.1, hOK.2.1⟩
  have hX := hOK.2.2.2.2
  have hb0 := hOK.2.2.2.1
  have hS : va_S (mh_A b) s.heap s.heap [] := va_S.rf
  have hl := lv_entry ([.ref x0, .int (nI t), .int (nI key)]) (n := 4) (Nat.le_of_ble_eq_true rfl)
  rw [lg_entry_eq]
  generalize (lg_sl ([.ref x0, .int (nI t), .int (nI key)]) ++ List.replicate (4 - (lg_sl ([.ref x0, .int (nI t), .int (nI key)])).length) Slot.unset).toArray = ls at hl ⊢
  have hl : lv_has ls 4 [(0, .ref x0), (1, .int (nI t)), (2, .int (nI key))] := hl
  refine lv_iload_n hx hb d_MH_delete_0 rfl (lv_at hl 1 rfl) ?_
  refine lv_bipush (v := nI 16) hx hb d_MH_delete_1 (by decide) ?_
  refine mh_callR (mh_sS (rest := []) (av := [.int (nI t), .int (nI 16)]) K0 e_MH_needBelow l_MH_40 k144 rfl rfl d_MH_delete_3) (c_MH_needBelow ht (by decide)) K0 hOK hml hl.1 e_MH_needBelow hX hS d_MH_delete_3 (Nat.le_of_ble_eq_true rfl) (Nat.le_of_ble_eq_true rfl) (Nat.le_of_ble_eq_true rfl) (Nat.le_of_ble_eq_true rfl) (Nat.le_of_ble_eq_true rfl) (fun H locs hX hS => ?_)
  refine W.eq (g2 := F0 m 6 ls []) rfl ?_
  refine lv_iload_n hx hb d_MH_delete_6 rfl (lv_at hl 2 rfl) ?_
  refine lv_sipush (v := nI 256) hx hb d_MH_delete_7 (by decide) ?_
  refine mh_callR (mh_sS (rest := []) (av := [.int (nI key), .int (nI 256)]) K0 e_MH_needBelow l_MH_40 k144 rfl rfl d_MH_delete_10) (c_MH_needBelow hk (by decide)) K0 hOK hml hl.1 e_MH_needBelow hX hS d_MH_delete_10 (Nat.le_of_ble_eq_true rfl) (Nat.le_of_ble_eq_true rfl) (Nat.le_of_ble_eq_true rfl) (Nat.le_of_ble_eq_true rfl) (Nat.le_of_ble_eq_true rfl) (fun H locs hX hS => ?_)
  refine W.eq (g2 := F0 m 13 ls []) rfl ?_
  refine lv_aload_n hx hb d_MH_delete_13 rfl (lv_at hl 0 rfl) ?_
  refine lv_iload_n hx hb d_MH_delete_14 rfl (lv_at hl 1 rfl) ?_
  refine mh_callT (mh_sV (rest := []) (av := [.int (nI t)]) K0 hX r0 rfl e_MH_openDraft l_MH_65 k303 kp1 rfl rfl d_MH_delete_15) (c_MH_openDraft_no hl0 r0 r10 ht ((rd t ht).none hd)) K0 hOK hml hl.1 e_MH_openDraft hX hS d_MH_delete_15 (Nat.le_of_ble_eq_true rfl) (Nat.le_of_ble_eq_true rfl) (Nat.le_of_ble_eq_true rfl) (Nat.le_of_ble_eq_true rfl) (Nat.le_of_ble_eq_true rfl) (fun q w1 H locs hq hw hX hS => ?_)
  exact mh_leave hlocks hT hX hS (⟨q, rfl, hq, hR2.x hw, hw.C⟩) (Nat.le_of_ble_eq_true rfl) (Nat.le_of_ble_eq_true rfl)
set_option maxHeartbeats 4000000 in
set_option maxRecDepth 100000 in
theorem c_MH_part_2 {l : Launch} {b : Nat} {dC : Nat → ClassId} {dI : Nat → Nat → Nat} {dA : Nat → ClassId} {zs : Nat → Nat} {w : mh_w} (hl0 : l.stackTraces = false) {x0 : Nat} {g : st_G} (hR : rC dA zs w x0 g) (hG : sg_ok g) {t : Nat} (ht : t < 16) {low high q9 : Nat} (h1 : low ≤ high) (h2 : high < 256) (h3 : q9 < 4) (hd : sg_dr g t = none) : mh_Met l b dC dI dA zs y_MH_part (mh_rm 8 20 1000) [.ref x0, .int (nI t), .int (nI low), .int (nI high), .int (nI q9)] w (mh_T 9 (fun w' => rC dA zs w' x0 g ∧ mh_C w w')) := by
  have hR2 := hR
  obtain ⟨aL, aS, aD, aV, sv, dr, vw, lg, hP⟩ := hR
  have hP2 := hP
  obtain ⟨r0, rLg, r3, r10, r11, rs, rv, rd, rl⟩ := hP2
  obtain ⟨mc, ar, r1, rAr⟩ := rLg
  have hG2 := hG
  obtain ⟨gn, grs, gat, glo, gdr⟩ := hG2
  refine mh_ofW (cc := b_MH_part) (n := 6) (ret := (some .long)) (hs := []) (by decide) k410 ?_
  intro p e s m below meth c hx hb hr hml hown hts hlocks hnm hT hOK hadm
  have K0 : mh_K0 p s m ([.ref x0, .int (nI t), .int (nI low), .int (nI high), .int (nI q9)]).toArray c "MeldHost" b_MH_part dC dI dA := ⟨hx, hb, hown, hts, hOK.1, hOK.2.1⟩
  have hX := hOK.2.2.2.2
  have hb0 := hOK.2.2.2.1
  have hS : va_S (mh_A b) s.heap s.heap [] := va_S.rf
  have hl := lv_entry ([.ref x0, .int (nI t), .int (nI low), .int (nI high), .int (nI q9)]) (n := 6) (Nat.le_of_ble_eq_true rfl)
  rw [lg_entry_eq]
  generalize (lg_sl ([.ref x0, .int (nI t), .int (nI low), .int (nI high), .int (nI q9)]) ++ List.replicate (6 - (lg_sl ([.ref x0, .int (nI t), .int (nI low), .int (nI high), .int (nI q9)])).length) Slot.unset).toArray = ls at hl ⊢
  have hl : lv_has ls 6 [(0, .ref x0), (1, .int (nI t)), (2, .int (nI low)), (3, .int (nI high)), (4, .int (nI q9))] := hl
  refine lv_iload_n hx hb d_MH_part_0 rfl (lv_at hl 1 rfl) ?_
  refine lv_bipush (v := nI 16) hx hb d_MH_part_1 (by decide) ?_
  refine mh_callR (mh_sS (rest := []) (av := [.int (nI t), .int (nI 16)]) K0 e_MH_needBelow l_MH_40 k144 rfl rfl d_MH_part_3) (c_MH_needBelow ht (by decide)) K0 hOK hml hl.1 e_MH_needBelow hX hS d_MH_part_3 (Nat.le_of_ble_eq_true rfl) (Nat.le_of_ble_eq_true rfl) (Nat.le_of_ble_eq_true rfl) (Nat.le_of_ble_eq_true rfl) (Nat.le_of_ble_eq_true rfl) (fun H locs hX hS => ?_)
  refine W.eq (g2 := F0 m 6 ls []) rfl ?_
  refine lv_iload_n hx hb d_MH_part_6 rfl (lv_at hl 2 rfl) ?_
  refine lv_iload_n hx hb d_MH_part_7 rfl (lv_at hl 3 rfl) ?_
  refine lv_iload hx hb d_MH_part_8 (lv_at hl 4 rfl) ?_
  refine mh_callR (mh_sS (rest := []) (av := [.int (nI low), .int (nI high), .int (nI q9)]) K0 e_MH_needPart l_MH_88 k412 rfl rfl d_MH_part_10) (c_MH_needPart h1 h2 h3) K0 hOK hml hl.1 e_MH_needPart hX hS d_MH_part_10 (Nat.le_of_ble_eq_true rfl) (Nat.le_of_ble_eq_true rfl) (Nat.le_of_ble_eq_true rfl) (Nat.le_of_ble_eq_true rfl) (Nat.le_of_ble_eq_true rfl) (fun H locs hX hS => ?_)
  refine W.eq (g2 := F0 m 13 ls []) rfl ?_
  refine lv_aload_n hx hb d_MH_part_13 rfl (lv_at hl 0 rfl) ?_
  refine lv_iload_n hx hb d_MH_part_14 rfl (lv_at hl 1 rfl) ?_
  refine mh_callT (mh_sV (rest := []) (av := [.int (nI t)]) K0 hX r0 rfl e_MH_openDraft l_MH_65 k303 kp1 rfl rfl d_MH_part_15) (c_MH_openDraft_no hl0 r0 r10 ht ((rd t ht).none hd)) K0 hOK hml hl.1 e_MH_openDraft hX hS d_MH_part_15 (Nat.le_of_ble_eq_true rfl) (Nat.le_of_ble_eq_true rfl) (Nat.le_of_ble_eq_true rfl) (Nat.le_of_ble_eq_true rfl) (Nat.le_of_ble_eq_true rfl) (fun q w1 H locs hq hw hX hS => ?_)
  exact mh_leave hlocks hT hX hS (⟨q, rfl, hq, hR2.x hw, hw.C⟩) (Nat.le_of_ble_eq_true rfl) (Nat.le_of_ble_eq_true rfl)
set_option maxHeartbeats 4000000 in
set_option maxRecDepth 100000 in
theorem c_MH_commit_2 {l : Launch} {b : Nat} {dC : Nat → ClassId} {dI : Nat → Nat → Nat} {dA : Nat → ClassId} {zs : Nat → Nat} {w : mh_w} (hl0 : l.stackTraces = false) {x0 : Nat} {g : st_G} (hR : rC dA zs w x0 g) (hG : sg_ok g) {t : Nat} (ht : t < 16) (hd : sg_dr g t = none) : mh_Met l b dC dI dA zs y_MH_commit (mh_rm 8 20 1000) [.ref x0, .int (nI t)] w (mh_T 9 (fun w' => rC dA zs w' x0 g ∧ mh_C w w')) := by
  have hR2 := hR
  obtain ⟨aL, aS, aD, aV, sv, dr, vw, lg, hP⟩ := hR
  have hP2 := hP
  obtain ⟨r0, rLg, r3, r10, r11, rs, rv, rd, rl⟩ := hP2
  obtain ⟨mc, ar, r1, rAr⟩ := rLg
  have hG2 := hG
  obtain ⟨gn, grs, gat, glo, gdr⟩ := hG2
  refine mh_ofW (cc := b_MH_commit) (n := 3) (ret := (some .int)) (hs := []) (by decide) k446 ?_
  intro p e s m below meth c hx hb hr hml hown hts hlocks hnm hT hOK hadm
  have K0 : mh_K0 p s m ([.ref x0, .int (nI t)]).toArray c "MeldHost" b_MH_commit dC dI dA := ⟨hx, hb, hown, hts, hOK.1, hOK.2.1⟩
  have hX := hOK.2.2.2.2
  have hb0 := hOK.2.2.2.1
  have hS : va_S (mh_A b) s.heap s.heap [] := va_S.rf
  have hl := lv_entry ([.ref x0, .int (nI t)]) (n := 3) (Nat.le_of_ble_eq_true rfl)
  rw [lg_entry_eq]
  generalize (lg_sl ([.ref x0, .int (nI t)]) ++ List.replicate (3 - (lg_sl ([.ref x0, .int (nI t)])).length) Slot.unset).toArray = ls at hl ⊢
  have hl : lv_has ls 3 [(0, .ref x0), (1, .int (nI t))] := hl
  refine lv_iload_n hx hb d_MH_commit_0 rfl (lv_at hl 1 rfl) ?_
  refine lv_bipush (v := nI 16) hx hb d_MH_commit_1 (by decide) ?_
  refine mh_callR (mh_sS (rest := []) (av := [.int (nI t), .int (nI 16)]) K0 e_MH_needBelow l_MH_40 k144 rfl rfl d_MH_commit_3) (c_MH_needBelow ht (by decide)) K0 hOK hml hl.1 e_MH_needBelow hX hS d_MH_commit_3 (Nat.le_of_ble_eq_true rfl) (Nat.le_of_ble_eq_true rfl) (Nat.le_of_ble_eq_true rfl) (Nat.le_of_ble_eq_true rfl) (Nat.le_of_ble_eq_true rfl) (fun H locs hX hS => ?_)
  refine W.eq (g2 := F0 m 6 ls []) rfl ?_
  refine lv_aload_n hx hb d_MH_commit_6 rfl (lv_at hl 0 rfl) ?_
  refine lv_iload_n hx hb d_MH_commit_7 rfl (lv_at hl 1 rfl) ?_
  refine mh_callT (mh_sV (rest := []) (av := [.int (nI t)]) K0 hX r0 rfl e_MH_openDraft l_MH_65 k303 kp1 rfl rfl d_MH_commit_8) (c_MH_openDraft_no hl0 r0 r10 ht ((rd t ht).none hd)) K0 hOK hml hl.1 e_MH_openDraft hX hS d_MH_commit_8 (Nat.le_of_ble_eq_true rfl) (Nat.le_of_ble_eq_true rfl) (Nat.le_of_ble_eq_true rfl) (Nat.le_of_ble_eq_true rfl) (Nat.le_of_ble_eq_true rfl) (fun q w1 H locs hq hw hX hS => ?_)
  exact mh_leave hlocks hT hX hS (⟨q, rfl, hq, hR2.x hw, hw.C⟩) (Nat.le_of_ble_eq_true rfl) (Nat.le_of_ble_eq_true rfl)
set_option maxHeartbeats 4000000 in
set_option maxRecDepth 100000 in
theorem c_MH_abort_2 {l : Launch} {b : Nat} {dC : Nat → ClassId} {dI : Nat → Nat → Nat} {dA : Nat → ClassId} {zs : Nat → Nat} {w : mh_w} (hl0 : l.stackTraces = false) {x0 : Nat} {g : st_G} (hR : rC dA zs w x0 g) (hG : sg_ok g) {t : Nat} (ht : t < 16) (hd : sg_dr g t = none) : mh_Met l b dC dI dA zs y_MH_abort (mh_rm 8 20 1000) [.ref x0, .int (nI t)] w (mh_T 9 (fun w' => rC dA zs w' x0 g ∧ mh_C w w')) := by
  have hR2 := hR
  obtain ⟨aL, aS, aD, aV, sv, dr, vw, lg, hP⟩ := hR
  have hP2 := hP
  obtain ⟨r0, rLg, r3, r10, r11, rs, rv, rd, rl⟩ := hP2
  obtain ⟨mc, ar, r1, rAr⟩ := rLg
  have hG2 := hG
  obtain ⟨gn, grs, gat, glo, gdr⟩ := hG2
  refine mh_ofW (cc := b_MH_abort) (n := 2) (ret := none) (hs := []) (by decide) k540 ?_
  intro p e s m below meth c hx hb hr hml hown hts hlocks hnm hT hOK hadm
  have K0 : mh_K0 p s m ([.ref x0, .int (nI t)]).toArray c "MeldHost" b_MH_abort dC dI dA := ⟨hx, hb, hown, hts, hOK.1, hOK.2.1⟩
  have hX := hOK.2.2.2.2
  have hb0 := hOK.2.2.2.1
  have hS : va_S (mh_A b) s.heap s.heap [] := va_S.rf
  have hl := lv_entry ([.ref x0, .int (nI t)]) (n := 2) (Nat.le_of_ble_eq_true rfl)
  rw [lg_entry_eq]
  generalize (lg_sl ([.ref x0, .int (nI t)]) ++ List.replicate (2 - (lg_sl ([.ref x0, .int (nI t)])).length) Slot.unset).toArray = ls at hl ⊢
  have hl : lv_has ls 2 [(0, .ref x0), (1, .int (nI t))] := hl
  refine lv_iload_n hx hb d_MH_abort_0 rfl (lv_at hl 1 rfl) ?_
  refine lv_bipush (v := nI 16) hx hb d_MH_abort_1 (by decide) ?_
  refine mh_callR (mh_sS (rest := []) (av := [.int (nI t), .int (nI 16)]) K0 e_MH_needBelow l_MH_40 k144 rfl rfl d_MH_abort_3) (c_MH_needBelow ht (by decide)) K0 hOK hml hl.1 e_MH_needBelow hX hS d_MH_abort_3 (Nat.le_of_ble_eq_true rfl) (Nat.le_of_ble_eq_true rfl) (Nat.le_of_ble_eq_true rfl) (Nat.le_of_ble_eq_true rfl) (Nat.le_of_ble_eq_true rfl) (fun H locs hX hS => ?_)
  refine W.eq (g2 := F0 m 6 ls []) rfl ?_
  refine lv_aload_n hx hb d_MH_abort_6 rfl (lv_at hl 0 rfl) ?_
  refine lv_iload_n hx hb d_MH_abort_7 rfl (lv_at hl 1 rfl) ?_
  refine mh_callT (mh_sV (rest := []) (av := [.int (nI t)]) K0 hX r0 rfl e_MH_openDraft l_MH_65 k303 kp1 rfl rfl d_MH_abort_8) (c_MH_openDraft_no hl0 r0 r10 ht ((rd t ht).none hd)) K0 hOK hml hl.1 e_MH_openDraft hX hS d_MH_abort_8 (Nat.le_of_ble_eq_true rfl) (Nat.le_of_ble_eq_true rfl) (Nat.le_of_ble_eq_true rfl) (Nat.le_of_ble_eq_true rfl) (Nat.le_of_ble_eq_true rfl) (fun q w1 H locs hq hw hX hS => ?_)
  exact mh_leave hlocks hT hX hS (⟨q, rfl, hq, hR2.x hw, hw.C⟩) (Nat.le_of_ble_eq_true rfl) (Nat.le_of_ble_eq_true rfl)
set_option maxHeartbeats 4000000 in
set_option maxRecDepth 100000 in
theorem c_MH_begin_2 {l : Launch} {b : Nat} {dC : Nat → ClassId} {dI : Nat → Nat → Nat} {dA : Nat → ClassId} {zs : Nat → Nat} {w : mh_w} (hl0 : l.stackTraces = false) {x0 : Nat} {g : st_G} (hR : rC dA zs w x0 g) (hG : sg_ok g) {t : Nat} (ht : t < 16) {u : Nat} (hu : u < 4) {lv : Nat} (hlv : lv < 2) {x : st_I} (hd : sg_dr g t = some x) : mh_Met l b dC dI dA zs y_MH_begin (mh_rm 8 20 1000) [.ref x0, .int (nI t), .int (nI u), .int (nI lv)] w (mh_T 9 (fun w' => rC dA zs w' x0 g ∧ mh_C w w')) := by
  have hR2 := hR
  obtain ⟨aL, aS, aD, aV, sv, dr, vw, lg, hP⟩ := hR
  have hP2 := hP
  obtain ⟨r0, rLg, r3, r10, r11, rs, rv, rd, rl⟩ := hP2
  obtain ⟨mc, ar, r1, rAr⟩ := rLg
  have hG2 := hG
  obtain ⟨gn, grs, gat, glo, gdr⟩ := hG2
  refine mh_ofW (cc := b_MH_begin) (n := 5) (ret := none) (hs := []) (by decide) k142 ?_
  intro p e s m below meth c hx hb hr hml hown hts hlocks hnm hT hOK hadm
  have K0 : mh_K0 p s m ([.ref x0, .int (nI t), .int (nI u), .int (nI lv)]).toArray c "MeldHost" b_MH_begin dC dI dA := ⟨hx, hb, hown, hts, hOK.1, hOK.2.1⟩
  have hX := hOK.2.2.2.2
  have hb0 := hOK.2.2.2.1
  have hS : va_S (mh_A b) s.heap s.heap [] := va_S.rf
  have hl := lv_entry ([.ref x0, .int (nI t), .int (nI u), .int (nI lv)]) (n := 5) (Nat.le_of_ble_eq_true rfl)
  rw [lg_entry_eq]
  generalize (lg_sl ([.ref x0, .int (nI t), .int (nI u), .int (nI lv)]) ++ List.replicate (5 - (lg_sl ([.ref x0, .int (nI t), .int (nI u), .int (nI lv)])).length) Slot.unset).toArray = ls at hl ⊢
  have hl : lv_has ls 5 [(0, .ref x0), (1, .int (nI t)), (2, .int (nI u)), (3, .int (nI lv))] := hl
  obtain ⟨y, hy1, hy2⟩ := (rd t ht).some hd
  obtain ⟨d1, d3, d4, d5, d6, d7, j0⟩ := hy2.fst
  have ho := gdr t x ht hd
  have ho2 := ho
  obtain ⟨o1, o2, o3, o4, o5, o6, o7, o8⟩ := ho2
  refine lv_iload_n hx hb d_MH_begin_0 rfl (lv_at hl 1 rfl) ?_
  refine lv_bipush (v := nI 16) hx hb d_MH_begin_1 (by decide) ?_
  refine mh_callR (mh_sS (rest := []) (av := [.int (nI t), .int (nI 16)]) K0 e_MH_needBelow l_MH_40 k144 rfl rfl d_MH_begin_3) (c_MH_needBelow ht (by decide)) K0 hOK hml hl.1 e_MH_needBelow hX hS d_MH_begin_3 (Nat.le_of_ble_eq_true rfl) (Nat.le_of_ble_eq_true rfl) (Nat.le_of_ble_eq_true rfl) (Nat.le_of_ble_eq_true rfl) (Nat.le_of_ble_eq_true rfl) (fun H locs hX hS => ?_)
  refine W.eq (g2 := F0 m 6 ls []) rfl ?_
  refine lv_iload_n hx hb d_MH_begin_6 rfl (lv_at hl 2 rfl) ?_
  refine lv_iconst (v := nI 4) hx hb d_MH_begin_7 (by decide) ?_
  refine mh_callR (mh_sS (rest := []) (av := [.int (nI u), .int (nI 4)]) K0 e_MH_needBelow l_MH_40 k144 rfl rfl d_MH_begin_8) (c_MH_needBelow hu (by decide)) K0 hOK hml hl.1 e_MH_needBelow hX hS d_MH_begin_8 (Nat.le_of_ble_eq_true rfl) (Nat.le_of_ble_eq_true rfl) (Nat.le_of_ble_eq_true rfl) (Nat.le_of_ble_eq_true rfl) (Nat.le_of_ble_eq_true rfl) (fun H locs hX hS => ?_)
  refine W.eq (g2 := F0 m 11 ls []) rfl ?_
  refine lv_iload_n hx hb d_MH_begin_11 rfl (lv_at hl 3 rfl) ?_
  refine lv_iconst (v := nI 2) hx hb d_MH_begin_12 (by decide) ?_
  refine mh_callR (mh_sS (rest := []) (av := [.int (nI lv), .int (nI 2)]) K0 e_MH_needBelow l_MH_40 k144 rfl rfl d_MH_begin_13) (c_MH_needBelow hlv (by decide)) K0 hOK hml hl.1 e_MH_needBelow hX hS d_MH_begin_13 (Nat.le_of_ble_eq_true rfl) (Nat.le_of_ble_eq_true rfl) (Nat.le_of_ble_eq_true rfl) (Nat.le_of_ble_eq_true rfl) (Nat.le_of_ble_eq_true rfl) (fun H locs hX hS => ?_)
  refine W.eq (g2 := F0 m 16 ls []) rfl ?_
  refine lv_aload_n hx hb d_MH_begin_16 rfl (lv_at hl 0 rfl) ?_
  refine mh_get K0 hX r0 f_MH_25 rfl d_MH_begin_17 ?_
  refine lv_iload_n hx hb d_MH_begin_20 rfl (lv_at hl 1 rfl) ?_
  refine mh_aaldN 5 rfl K0 hX r10 (by omega) (by omega) (r := (some y)) (hy1) d_MH_begin_21 ?_
  refine W.eq (g2 := F0 m 22 ls [.ref y]) rfl ?_
  refine lv_ifnull hx hb d_MH_begin_22 ?_
  exact mh_throw hl0 K0 hOK ex_IS (is := 46) (tx := "the transaction is open") (by decide) k215 hlocks hT hml hl.1 hX hS (fun q => ⟨q, rfl, mh_set_eq _ _ _ _, hR2.x mh_x.of, mh_x.of.C⟩) (Nat.le_of_ble_eq_true rfl) (Nat.le_of_ble_eq_true rfl) (Nat.le_of_ble_eq_true rfl) (Nat.le_of_ble_eq_true rfl) (Nat.le_of_ble_eq_true rfl) (Nat.le_of_ble_eq_true rfl) d_MH_begin_25 d_MH_begin_28 d_MH_begin_29 d_MH_begin_31 d_MH_begin_34
set_option maxHeartbeats 4000000 in
set_option maxRecDepth 100000 in
theorem c_MH_begin_0 {l : Launch} {b : Nat} {dC : Nat → ClassId} {dI : Nat → Nat → Nat} {dA : Nat → ClassId} {zs : Nat → Nat} {w : mh_w} {x0 : Nat} {g : st_G} (hR : rC dA zs w x0 g) (hG : sg_ok g) {t : Nat} (ht : t < 16) {u : Nat} (hu : u < 4) {lv : Nat} (hlv : lv < 2) (hd : sg_dr g t = none) : mh_Met l b dC dI dA zs y_MH_begin (mh_rm 8 20 1000) [.ref x0, .int (nI t), .int (nI u), .int (nI lv)] w (mh_V none (fun w' => rC dA zs w' x0 (g.1, g.2.1, va_up (sg_dr g) t (some (st_new u (sg_at g u) lv)), g.2.2.2) ∧ mh_C w w')) := by
  have hR2 := hR
  obtain ⟨aL, aS, aD, aV, sv, dr, vw, lg, hP⟩ := hR
  have hP2 := hP
  obtain ⟨r0, rLg, r3, r10, r11, rs, rv, rd, rl⟩ := hP2
  obtain ⟨mc, ar, r1, rAr⟩ := rLg
  have hG2 := hG
  obtain ⟨gn, grs, gat, glo, gdr⟩ := hG2
  refine mh_ofW (cc := b_MH_begin) (n := 5) (ret := none) (hs := []) (by decide) k142 ?_
  intro p e s m below meth c hx hb hr hml hown hts hlocks hnm hT hOK hadm
  have K0 : mh_K0 p s m ([.ref x0, .int (nI t), .int (nI u), .int (nI lv)]).toArray c "MeldHost" b_MH_begin dC dI dA := ⟨hx, hb, hown, hts, hOK.1, hOK.2.1⟩
  have hX := hOK.2.2.2.2
  have hb0 := hOK.2.2.2.1
  have hS : va_S (mh_A b) s.heap s.heap [] := va_S.rf
  have hl := lv_entry ([.ref x0, .int (nI t), .int (nI u), .int (nI lv)]) (n := 5) (Nat.le_of_ble_eq_true rfl)
  rw [lg_entry_eq]
  generalize (lg_sl ([.ref x0, .int (nI t), .int (nI u), .int (nI lv)]) ++ List.replicate (5 - (lg_sl ([.ref x0, .int (nI t), .int (nI u), .int (nI lv)])).length) Slot.unset).toArray = ls at hl ⊢
  have hl : lv_has ls 5 [(0, .ref x0), (1, .int (nI t)), (2, .int (nI u)), (3, .int (nI lv))] := hl
  obtain ⟨au, hs1, hs2⟩ := rs u hu
  have hs3 := hs2
  obtain ⟨a5, a9, f9, s0, sN, s9, sf⟩ := hs2
  obtain ⟨n1, n3, sn0⟩ := sN.fst
  obtain ⟨av, hv1, st, hv2, hv3⟩ := rv t ht
  obtain ⟨v1, v3, vn0⟩ := hv2.fst
  refine lv_iload_n hx hb d_MH_begin_0 rfl (lv_at hl 1 rfl) ?_
  refine lv_bipush (v := nI 16) hx hb d_MH_begin_1 (by decide) ?_
  refine mh_callR (mh_sS (rest := []) (av := [.int (nI t), .int (nI 16)]) K0 e_MH_needBelow l_MH_40 k144 rfl rfl d_MH_begin_3) (c_MH_needBelow ht (by decide)) K0 hOK hml hl.1 e_MH_needBelow hX hS d_MH_begin_3 (Nat.le_of_ble_eq_true rfl) (Nat.le_of_ble_eq_true rfl) (Nat.le_of_ble_eq_true rfl) (Nat.le_of_ble_eq_true rfl) (Nat.le_of_ble_eq_true rfl) (fun H locs hX hS => ?_)
  refine W.eq (g2 := F0 m 6 ls []) rfl ?_
  refine lv_iload_n hx hb d_MH_begin_6 rfl (lv_at hl 2 rfl) ?_
  refine lv_iconst (v := nI 4) hx hb d_MH_begin_7 (by decide) ?_
  refine mh_callR (mh_sS (rest := []) (av := [.int (nI u), .int (nI 4)]) K0 e_MH_needBelow l_MH_40 k144 rfl rfl d_MH_begin_8) (c_MH_needBelow hu (by decide)) K0 hOK hml hl.1 e_MH_needBelow hX hS d_MH_begin_8 (Nat.le_of_ble_eq_true rfl) (Nat.le_of_ble_eq_true rfl) (Nat.le_of_ble_eq_true rfl) (Nat.le_of_ble_eq_true rfl) (Nat.le_of_ble_eq_true rfl) (fun H locs hX hS => ?_)
  refine W.eq (g2 := F0 m 11 ls []) rfl ?_
  refine lv_iload_n hx hb d_MH_begin_11 rfl (lv_at hl 3 rfl) ?_
  refine lv_iconst (v := nI 2) hx hb d_MH_begin_12 (by decide) ?_
  refine mh_callR (mh_sS (rest := []) (av := [.int (nI lv), .int (nI 2)]) K0 e_MH_needBelow l_MH_40 k144 rfl rfl d_MH_begin_13) (c_MH_needBelow hlv (by decide)) K0 hOK hml hl.1 e_MH_needBelow hX hS d_MH_begin_13 (Nat.le_of_ble_eq_true rfl) (Nat.le_of_ble_eq_true rfl) (Nat.le_of_ble_eq_true rfl) (Nat.le_of_ble_eq_true rfl) (Nat.le_of_ble_eq_true rfl) (fun H locs hX hS => ?_)
  refine W.eq (g2 := F0 m 16 ls []) rfl ?_
  refine lv_aload_n hx hb d_MH_begin_16 rfl (lv_at hl 0 rfl) ?_
  refine mh_get K0 hX r0 f_MH_25 rfl d_MH_begin_17 ?_
  refine lv_iload_n hx hb d_MH_begin_20 rfl (lv_at hl 1 rfl) ?_
  refine mh_aaldN 5 rfl K0 hX r10 (by omega) (by omega) (r := none) ((rd t ht).none hd) d_MH_begin_21 ?_
  refine W.eq (g2 := F0 m 22 ls [.null]) rfl ?_
  refine lv_ifnullN (tgt := 35) hx hb d_MH_begin_22 (by decide) ?_
  refine lv_aload_n hx hb d_MH_begin_35 rfl (lv_at hl 0 rfl) ?_
  refine mh_get K0 hX r0 f_MH_18 rfl d_MH_begin_36 ?_
  refine lv_iload_n hx hb d_MH_begin_39 rfl (lv_at hl 2 rfl) ?_
  refine mh_aaldN 4 rfl K0 hX r3 (by omega) (by omega) (r := (some au)) (hs1) d_MH_begin_40 ?_
  refine W.eq (g2 := F0 m 41 ls [.ref au]) rfl ?_
  refine lv_astore (lv' := [(4, .ref au), (0, .ref x0), (1, .int (nI t)), (2, .int (nI u)), (3, .int (nI lv))]) hx hb d_MH_begin_41 hl (by decide) rfl (fun ls hl => ?_)
  refine lv_aload_n hx hb d_MH_begin_43 rfl (lv_at hl 1 rfl) ?_
  refine mh_get K0 hX r0 f_MH_25 rfl d_MH_begin_44 ?_
  refine lv_iload_n hx hb d_MH_begin_47 rfl (lv_at hl 2 rfl) ?_
  refine mh_new 16 t K0 hX hS hb0 (ci := 2) rfl i_IN ty_IN ty_IN_ok k113 k231 k16 (fs := [.int (nI 0), .int (nI 0), .int (nI 0), .null, .null, .null, .null, .null, .null, .int (nI 0), .int (nI 0), .int (nI 0)]) (by decide) (Nat.le_of_ble_eq_true rfl) (Nat.le_of_ble_eq_true rfl) d_MH_begin_48 (fun q H hX hS => ?_)
  have fs60 := mh_self hX
  refine lv_dup hx hb d_MH_begin_51 rfl ?_
  refine lv_iload_n hx hb d_MH_begin_52 rfl (lv_at hl 3 rfl) ?_
  refine lv_aload hx hb d_MH_begin_53 (lv_at hl 0 rfl) ?_
  refine mh_get K0 hX (mh_kp s0 (by omega)) f_MH_51 rfl d_MH_begin_55 ?_
  refine lv_iload_n hx hb d_MH_begin_58 rfl (lv_at hl 4 rfl) ?_
  refine mh_callV (mh_sI (rest := [.ref q, .int (nI t), .ref aD]) (av := [.int (nI u), .int (nI (sg_at g u)), .int (nI lv)]) K0 e_IN_init l_MH_54 k233 rfl rfl rfl d_MH_begin_59) (c_IN_init (mh_set_eq _ _ _ _)) K0 hOK hml hl.1 e_IN_init hX hS d_MH_begin_59 (Nat.le_of_ble_eq_true rfl) (Nat.le_of_ble_eq_true rfl) (Nat.le_of_ble_eq_true rfl) (Nat.le_of_ble_eq_true rfl) (Nat.le_of_ble_eq_true rfl) (fun w1 H locs ⟨hI, hF⟩ hX hS => ?_)
  refine W.eq (g2 := F0 m 62 ls [.ref q, .int (nI t), .ref aD]) rfl ?_
  obtain ⟨d1, d3, d4, d5, d6, d7, j0⟩ := hI.fst
  refine mh_aastX 5 rfl rfl K0 hX hS ((hF 10 0 (by omega)).trans (mh_kp r10 (by omega))) j0 (by omega) (by omega) d_MH_begin_62 (fun H locs hX hS => ?_)
  have fs61 := mh_self hX
  refine lv_aload_n hx hb d_MH_begin_63 rfl (lv_at hl 1 rfl) ?_
  refine mh_get K0 hX (mh_kp ((hF 0 0 (by omega)).trans (mh_kp r0 (by omega))) (by omega)) f_MH_31 rfl d_MH_begin_64 ?_
  refine lv_iload_n hx hb d_MH_begin_67 rfl (lv_at hl 2 rfl) ?_
  refine mh_aaldN 6 rfl K0 hX (mh_kp ((hF 11 0 (by omega)).trans (mh_kp r11 (by omega))) (by omega)) (by omega) (by omega) (r := (some av)) (hv1) d_MH_begin_68 ?_
  refine W.eq (g2 := F0 m 69 ls [.ref av]) rfl ?_
  refine lv_aload hx hb d_MH_begin_69 (lv_at hl 0 rfl) ?_
  refine mh_get K0 hX (mh_kp ((hF 4 u (by omega)).trans (mh_kp s0 (by omega))) (by omega)) f_MH_57 rfl d_MH_begin_71 ?_
  refine mh_callV (mh_sV (rest := []) (av := [.ref a5]) K0 hX (mh_kp ((hF 12 t (by omega)).trans (mh_kp vn0 (by omega))) (by omega)) rfl e_NU_copyFrom l_MH_61 k282 k283 rfl rfl d_MH_begin_74) (c_NU_copyFrom (hv2.to (fun z hz => by rw [mh_set_ne _ _ _ _ (by omega), hF _ _ (by omega), mh_set_ne _ _ _ _ (by omega)]) (fun _ _ => rfl)) (sN.to (fun z hz => by rw [mh_set_ne _ _ _ _ (by omega), hF _ _ (by omega), mh_set_ne _ _ _ _ (by omega)]) (fun _ _ => rfl)) (by omega)) K0 hOK hml hl.1 e_NU_copyFrom hX hS d_MH_begin_74 (Nat.le_of_ble_eq_true rfl) (Nat.le_of_ble_eq_true rfl) (Nat.le_of_ble_eq_true rfl) (Nat.le_of_ble_eq_true rfl) (Nat.le_of_ble_eq_true rfl) (fun w2 H locs ⟨hN2, hF2⟩ hX hS => ?_)
  refine W.eq (g2 := F0 m 77 ls []) rfl ?_
  exact mh_vret K0 hr hlocks hX hS (⟨rfl, ⟨aL, aS, aD, aV, sv, _, vw, lg, hP.tx (fun k i h0 h1 h2 => by rw [hF2 _ _ (by omega), mh_set_ne _ _ _ _ (by omega), hF _ _ (by omega), mh_set_ne _ _ _ _ (by omega)]) (((hF2 10 0 (by omega)).trans fs61)) (fun z hz => va_up_ne _ _ hz) ⟨q, va_up_self _ _ _, hI.to (fun z hz => by rw [hF2 _ _ (by omega), mh_set_ne _ _ _ _ (by omega)])⟩ ⟨av, hv1, _, hN2, fun x hx j hj => by cases hx; rfl⟩⟩, fun k i h1 h2 => by rw [hF2 _ _ (by omega), mh_set_ne _ _ _ _ (by omega), hF _ _ (by omega), mh_set_ne _ _ _ _ (by omega)]⟩) (Nat.le_of_ble_eq_true rfl) (Nat.le_of_ble_eq_true rfl) d_MH_begin_77
set_option maxHeartbeats 4000000 in
set_option maxRecDepth 100000 in
theorem c_MH_get_0 {l : Launch} {b : Nat} {dC : Nat → ClassId} {dI : Nat → Nat → Nat} {dA : Nat → ClassId} {zs : Nat → Nat} {w : mh_w} {x0 : Nat} {g : st_G} (hR : rC dA zs w x0 g) (hG : sg_ok g) {t : Nat} (ht : t < 16) {key : Nat} (hk : key < 256) {x : st_I} (hd : sg_dr g t = some x) {v : Int64} (hv : st_vw (sg_lg g) x key = some v) : mh_Met l b dC dI dA zs y_MH_get (mh_rm 8 20 1000) [.ref x0, .int (nI t), .int (nI key)] w (mh_V (some (.long v)) (fun w' => rC dA zs w' x0 (g.1, g.2.1, va_up (sg_dr g) t (some (st_get x key)), g.2.2.2) ∧ mh_C w w')) := by
  have hR2 := hR
  obtain ⟨aL, aS, aD, aV, sv, dr, vw, lg, hP⟩ := hR
  have hP2 := hP
  obtain ⟨r0, rLg, r3, r10, r11, rs, rv, rd, rl⟩ := hP2
  obtain ⟨mc, ar, r1, rAr⟩ := rLg
  have hG2 := hG
  obtain ⟨gn, grs, gat, glo, gdr⟩ := hG2
  refine mh_ofW (cc := b_MH_get) (n := 3) (ret := (some .long)) (hs := []) (by decide) k300 ?_
  intro p e s m below meth c hx hb hr hml hown hts hlocks hnm hT hOK hadm
  have K0 : mh_K0 p s m ([.ref x0, .int (nI t), .int (nI key)]).toArray c "MeldHost" b_MH_get dC dI dA := ⟨hx, hb, hown, hts, hOK.1, hOK.2.1⟩
  have hX := hOK.2.2.2.2
  have hb0 := hOK.2.2.2.1
  have hS : va_S (mh_A b) s.heap s.heap [] := va_S.rf
  have hl := lv_entry ([.ref x0, .int (nI t), .int (nI key)]) (n := 3) (Nat.le_of_ble_eq_true rfl)
  rw [lg_entry_eq]
  generalize (lg_sl ([.ref x0, .int (nI t), .int (nI key)]) ++ List.replicate (3 - (lg_sl ([.ref x0, .int (nI t), .int (nI key)])).length) Slot.unset).toArray = ls at hl ⊢
  have hl : lv_has ls 3 [(0, .ref x0), (1, .int (nI t)), (2, .int (nI key))] := hl
  obtain ⟨y, hy1, hy2⟩ := (rd t ht).some hd
  obtain ⟨d1, d3, d4, d5, d6, d7, j0⟩ := hy2.fst
  have ho := gdr t x ht hd
  have ho2 := ho
  obtain ⟨o1, o2, o3, o4, o5, o6, o7, o8⟩ := ho2
  obtain ⟨av, hv1, st, hv2, hv3⟩ := rv t ht
  obtain ⟨v1, v3, vn0⟩ := hv2.fst
  refine lv_iload_n hx hb d_MH_get_0 rfl (lv_at hl 1 rfl) ?_
  refine lv_bipush (v := nI 16) hx hb d_MH_get_1 (by decide) ?_
  refine mh_callR (mh_sS (rest := []) (av := [.int (nI t), .int (nI 16)]) K0 e_MH_needBelow l_MH_40 k144 rfl rfl d_MH_get_3) (c_MH_needBelow ht (by decide)) K0 hOK hml hl.1 e_MH_needBelow hX hS d_MH_get_3 (Nat.le_of_ble_eq_true rfl) (Nat.le_of_ble_eq_true rfl) (Nat.le_of_ble_eq_true rfl) (Nat.le_of_ble_eq_true rfl) (Nat.le_of_ble_eq_true rfl) (fun H locs hX hS => ?_)
  refine W.eq (g2 := F0 m 6 ls []) rfl ?_
  refine lv_iload_n hx hb d_MH_get_6 rfl (lv_at hl 2 rfl) ?_
  refine lv_sipush (v := nI 256) hx hb d_MH_get_7 (by decide) ?_
  refine mh_callR (mh_sS (rest := []) (av := [.int (nI key), .int (nI 256)]) K0 e_MH_needBelow l_MH_40 k144 rfl rfl d_MH_get_10) (c_MH_needBelow hk (by decide)) K0 hOK hml hl.1 e_MH_needBelow hX hS d_MH_get_10 (Nat.le_of_ble_eq_true rfl) (Nat.le_of_ble_eq_true rfl) (Nat.le_of_ble_eq_true rfl) (Nat.le_of_ble_eq_true rfl) (Nat.le_of_ble_eq_true rfl) (fun H locs hX hS => ?_)
  refine W.eq (g2 := F0 m 13 ls []) rfl ?_
  refine lv_aload_n hx hb d_MH_get_13 rfl (lv_at hl 0 rfl) ?_
  refine lv_iload_n hx hb d_MH_get_14 rfl (lv_at hl 1 rfl) ?_
  refine mh_callR (mh_sV (rest := []) (av := [.int (nI t)]) K0 hX r0 rfl e_MH_openDraft l_MH_65 k303 kp1 rfl rfl d_MH_get_15) (c_MH_openDraft r0 r10 ht hy1) K0 hOK hml hl.1 e_MH_openDraft hX hS d_MH_get_15 (Nat.le_of_ble_eq_true rfl) (Nat.le_of_ble_eq_true rfl) (Nat.le_of_ble_eq_true rfl) (Nat.le_of_ble_eq_true rfl) (Nat.le_of_ble_eq_true rfl) (fun H locs hX hS => ?_)
  refine W.eq (g2 := F0 m 18 ls [.ref y]) rfl ?_
  refine lv_iload_n hx hb d_MH_get_18 rfl (lv_at hl 2 rfl) ?_
  refine mh_callV (mh_sV (rest := []) (av := [.int (nI key)]) K0 hX j0 rfl e_IN_readKey l_MH_69 k307 k308 rfl rfl d_MH_get_19) (c_IN_readKey hy2 ho hk) K0 hOK hml hl.1 e_IN_readKey hX hS d_MH_get_19 (Nat.le_of_ble_eq_true rfl) (Nat.le_of_ble_eq_true rfl) (Nat.le_of_ble_eq_true rfl) (Nat.le_of_ble_eq_true rfl) (Nat.le_of_ble_eq_true rfl) (fun w1 H locs ⟨hI, hF⟩ hX hS => ?_)
  refine W.eq (g2 := F0 m 22 ls []) rfl ?_
  refine lv_aload_n hx hb d_MH_get_22 rfl (lv_at hl 0 rfl) ?_
  refine mh_get K0 hX ((hF 0 0 (by omega)).trans r0) f_MH_31 rfl d_MH_get_23 ?_
  refine lv_iload_n hx hb d_MH_get_26 rfl (lv_at hl 1 rfl) ?_
  refine mh_aaldN 6 rfl K0 hX ((hF 11 0 (by omega)).trans r11) (by omega) (by omega) (r := (some av)) (hv1) d_MH_get_27 ?_
  refine W.eq (g2 := F0 m 28 ls [.ref av]) rfl ?_
  refine lv_iload_n hx hb d_MH_get_28 rfl (lv_at hl 2 rfl) ?_
  have hC : rC dA zs w1 x0 (g.1, g.2.1, va_up (sg_dr g) t (some (st_get x key)), g.2.2.2) := ⟨aL, aS, aD, aV, sv, dr, vw, lg, hP.tx (fun k i h0 h1 h2 => by rw [hF _ _ (by omega)]) (((hF 10 0 (by omega)).trans r10)) (fun _ _ => rfl) ⟨y, hy1, hI⟩ ⟨av, hv1, st, hv2.to (fun z hz => by rw [hF _ _ (by omega)]) (fun _ _ => rfl), fun x2 hx2 j hj => by cases hx2; rw [st_get_vw]; exact hv3 x hd j hj⟩⟩
  refine mh_callR (mh_sS (rest := []) (av := [.ref av, .int (nI key)]) K0 e_MH_numberIn l_MH_73 k323 rfl rfl d_MH_get_29) (c_MH_numberIn (hv2.to (fun z hz => by rw [hF _ _ (by omega)]) (fun _ _ => rfl)) hk ((hv3 x hd key hk).trans hv)) K0 hOK hml hl.1 e_MH_numberIn hX hS d_MH_get_29 (Nat.le_of_ble_eq_true rfl) (Nat.le_of_ble_eq_true rfl) (Nat.le_of_ble_eq_true rfl) (Nat.le_of_ble_eq_true rfl) (Nat.le_of_ble_eq_true rfl) (fun H locs hX hS => ?_)
  refine W.eq (g2 := F0 m 32 ls [.long v]) rfl ?_
  exact mh_lret K0 hr hlocks hX hS (⟨rfl, hC, fun k i h1 h2 => by rw [hF _ _ (by omega)]⟩) (Nat.le_of_ble_eq_true rfl) (Nat.le_of_ble_eq_true rfl) d_MH_get_32
set_option maxHeartbeats 4000000 in
set_option maxRecDepth 100000 in
theorem c_MH_get_3 {l : Launch} {b : Nat} {dC : Nat → ClassId} {dI : Nat → Nat → Nat} {dA : Nat → ClassId} {zs : Nat → Nat} {w : mh_w} (hl0 : l.stackTraces = false) {x0 : Nat} {g : st_G} (hR : rC dA zs w x0 g) (hG : sg_ok g) {t : Nat} (ht : t < 16) {key : Nat} (hk : key < 256) {x : st_I} (hd : sg_dr g t = some x) (hv : st_vw (sg_lg g) x key = none) : mh_Met l b dC dI dA zs y_MH_get (mh_rm 8 20 1000) [.ref x0, .int (nI t), .int (nI key)] w (mh_T 11 (fun w' => rC dA zs w' x0 (g.1, g.2.1, va_up (sg_dr g) t (some (st_get x key)), g.2.2.2) ∧ mh_C w w')) := by
  have hR2 := hR
  obtain ⟨aL, aS, aD, aV, sv, dr, vw, lg, hP⟩ := hR
  have hP2 := hP
  obtain ⟨r0, rLg, r3, r10, r11, rs, rv, rd, rl⟩ := hP2
  obtain ⟨mc, ar, r1, rAr⟩ := rLg
  have hG2 := hG
  obtain ⟨gn, grs, gat, glo, gdr⟩ := hG2
  refine mh_ofW (cc := b_MH_get) (n := 3) (ret := (some .long)) (hs := []) (by decide) k300 ?_
  intro p e s m below meth c hx hb hr hml hown hts hlocks hnm hT hOK hadm
  have K0 : mh_K0 p s m ([.ref x0, .int (nI t), .int (nI key)]).toArray c "MeldHost" b_MH_get dC dI dA := ⟨hx, hb, hown, hts, hOK.1, hOK.2.1⟩
  have hX := hOK.2.2.2.2
  have hb0 := hOK.2.2.2.1
  have hS : va_S (mh_A b) s.heap s.heap [] := va_S.rf
  have hl := lv_entry ([.ref x0, .int (nI t), .int (nI key)]) (n := 3) (Nat.le_of_ble_eq_true rfl)
  rw [lg_entry_eq]
  generalize (lg_sl ([.ref x0, .int (nI t), .int (nI key)]) ++ List.replicate (3 - (lg_sl ([.ref x0, .int (nI t), .int (nI key)])).length) Slot.unset).toArray = ls at hl ⊢
  have hl : lv_has ls 3 [(0, .ref x0), (1, .int (nI t)), (2, .int (nI key))] := hl
  obtain ⟨y, hy1, hy2⟩ := (rd t ht).some hd
  obtain ⟨d1, d3, d4, d5, d6, d7, j0⟩ := hy2.fst
  have ho := gdr t x ht hd
  have ho2 := ho
  obtain ⟨o1, o2, o3, o4, o5, o6, o7, o8⟩ := ho2
  obtain ⟨av, hv1, st, hv2, hv3⟩ := rv t ht
  obtain ⟨v1, v3, vn0⟩ := hv2.fst
  refine lv_iload_n hx hb d_MH_get_0 rfl (lv_at hl 1 rfl) ?_
  refine lv_bipush (v := nI 16) hx hb d_MH_get_1 (by decide) ?_
  refine mh_callR (mh_sS (rest := []) (av := [.int (nI t), .int (nI 16)]) K0 e_MH_needBelow l_MH_40 k144 rfl rfl d_MH_get_3) (c_MH_needBelow ht (by decide)) K0 hOK hml hl.1 e_MH_needBelow hX hS d_MH_get_3 (Nat.le_of_ble_eq_true rfl) (Nat.le_of_ble_eq_true rfl) (Nat.le_of_ble_eq_true rfl) (Nat.le_of_ble_eq_true rfl) (Nat.le_of_ble_eq_true rfl) (fun H locs hX hS => ?_)
  refine W.eq (g2 := F0 m 6 ls []) rfl ?_
  refine lv_iload_n hx hb d_MH_get_6 rfl (lv_at hl 2 rfl) ?_
  refine lv_sipush (v := nI 256) hx hb d_MH_get_7 (by decide) ?_
  refine mh_callR (mh_sS (rest := []) (av := [.int (nI key), .int (nI 256)]) K0 e_MH_needBelow l_MH_40 k144 rfl rfl d_MH_get_10) (c_MH_needBelow hk (by decide)) K0 hOK hml hl.1 e_MH_needBelow hX hS d_MH_get_10 (Nat.le_of_ble_eq_true rfl) (Nat.le_of_ble_eq_true rfl) (Nat.le_of_ble_eq_true rfl) (Nat.le_of_ble_eq_true rfl) (Nat.le_of_ble_eq_true rfl) (fun H locs hX hS => ?_)
  refine W.eq (g2 := F0 m 13 ls []) rfl ?_
  refine lv_aload_n hx hb d_MH_get_13 rfl (lv_at hl 0 rfl) ?_
  refine lv_iload_n hx hb d_MH_get_14 rfl (lv_at hl 1 rfl) ?_
  refine mh_callR (mh_sV (rest := []) (av := [.int (nI t)]) K0 hX r0 rfl e_MH_openDraft l_MH_65 k303 kp1 rfl rfl d_MH_get_15) (c_MH_openDraft r0 r10 ht hy1) K0 hOK hml hl.1 e_MH_openDraft hX hS d_MH_get_15 (Nat.le_of_ble_eq_true rfl) (Nat.le_of_ble_eq_true rfl) (Nat.le_of_ble_eq_true rfl) (Nat.le_of_ble_eq_true rfl) (Nat.le_of_ble_eq_true rfl) (fun H locs hX hS => ?_)
  refine W.eq (g2 := F0 m 18 ls [.ref y]) rfl ?_
  refine lv_iload_n hx hb d_MH_get_18 rfl (lv_at hl 2 rfl) ?_
  refine mh_callV (mh_sV (rest := []) (av := [.int (nI key)]) K0 hX j0 rfl e_IN_readKey l_MH_69 k307 k308 rfl rfl d_MH_get_19) (c_IN_readKey hy2 ho hk) K0 hOK hml hl.1 e_IN_readKey hX hS d_MH_get_19 (Nat.le_of_ble_eq_true rfl) (Nat.le_of_ble_eq_true rfl) (Nat.le_of_ble_eq_true rfl) (Nat.le_of_ble_eq_true rfl) (Nat.le_of_ble_eq_true rfl) (fun w1 H locs ⟨hI, hF⟩ hX hS => ?_)
  refine W.eq (g2 := F0 m 22 ls []) rfl ?_
  refine lv_aload_n hx hb d_MH_get_22 rfl (lv_at hl 0 rfl) ?_
  refine mh_get K0 hX ((hF 0 0 (by omega)).trans r0) f_MH_31 rfl d_MH_get_23 ?_
  refine lv_iload_n hx hb d_MH_get_26 rfl (lv_at hl 1 rfl) ?_
  refine mh_aaldN 6 rfl K0 hX ((hF 11 0 (by omega)).trans r11) (by omega) (by omega) (r := (some av)) (hv1) d_MH_get_27 ?_
  refine W.eq (g2 := F0 m 28 ls [.ref av]) rfl ?_
  refine lv_iload_n hx hb d_MH_get_28 rfl (lv_at hl 2 rfl) ?_
  have hC : rC dA zs w1 x0 (g.1, g.2.1, va_up (sg_dr g) t (some (st_get x key)), g.2.2.2) := ⟨aL, aS, aD, aV, sv, dr, vw, lg, hP.tx (fun k i h0 h1 h2 => by rw [hF _ _ (by omega)]) (((hF 10 0 (by omega)).trans r10)) (fun _ _ => rfl) ⟨y, hy1, hI⟩ ⟨av, hv1, st, hv2.to (fun z hz => by rw [hF _ _ (by omega)]) (fun _ _ => rfl), fun x2 hx2 j hj => by cases hx2; rw [st_get_vw]; exact hv3 x hd j hj⟩⟩
  refine mh_callT (mh_sS (rest := []) (av := [.ref av, .int (nI key)]) K0 e_MH_numberIn l_MH_73 k323 rfl rfl d_MH_get_29) (c_MH_numberIn_no hl0 (hv2.to (fun z hz => by rw [hF _ _ (by omega)]) (fun _ _ => rfl)) hk ((hv3 x hd key hk).trans hv)) K0 hOK hml hl.1 e_MH_numberIn hX hS d_MH_get_29 (Nat.le_of_ble_eq_true rfl) (Nat.le_of_ble_eq_true rfl) (Nat.le_of_ble_eq_true rfl) (Nat.le_of_ble_eq_true rfl) (Nat.le_of_ble_eq_true rfl) (fun q w2 H locs hq hw hX hS => ?_)
  exact mh_leave hlocks hT hX hS (⟨q, rfl, hq, hC.x hw, fun k i h1 h2 => (hw k i h2).trans (by rw [hF _ _ (by omega)])⟩) (Nat.le_of_ble_eq_true rfl) (Nat.le_of_ble_eq_true rfl)
set_option maxHeartbeats 4000000 in
set_option maxRecDepth 100000 in
theorem c_MH_put_0 {l : Launch} {b : Nat} {dC : Nat → ClassId} {dI : Nat → Nat → Nat} {dA : Nat → ClassId} {zs : Nat → Nat} {w : mh_w} {x0 : Nat} {g : st_G} (hR : rC dA zs w x0 g) (hG : sg_ok g) {t : Nat} (ht : t < 16) {key : Nat} (hk : key < 256) {x : st_I} (hd : sg_dr g t = some x) {v : Int64} (h8 : (st_pl (iv_wk x) key (iv_nw x)) < 8) : mh_Met l b dC dI dA zs y_MH_put (mh_rm 8 20 1000) [.ref x0, .int (nI t), .int (nI key), .long v] w (mh_V (some (.int (nI (iv_nw (st_wr x key (some v)))))) (fun w' => rC dA zs w' x0 (g.1, g.2.1, va_up (sg_dr g) t (some (st_wr x key (some v))), g.2.2.2) ∧ mh_C w w')) := by
  have hR2 := hR
  obtain ⟨aL, aS, aD, aV, sv, dr, vw, lg, hP⟩ := hR
  have hP2 := hP
  obtain ⟨r0, rLg, r3, r10, r11, rs, rv, rd, rl⟩ := hP2
  obtain ⟨mc, ar, r1, rAr⟩ := rLg
  have hG2 := hG
  obtain ⟨gn, grs, gat, glo, gdr⟩ := hG2
  refine mh_ofW (cc := b_MH_put) (n := 6) (ret := (some .int)) (hs := []) (by decide) k352 ?_
  intro p e s m below meth c hx hb hr hml hown hts hlocks hnm hT hOK hadm
  have K0 : mh_K0 p s m ([.ref x0, .int (nI t), .int (nI key), .long v]).toArray c "MeldHost" b_MH_put dC dI dA := ⟨hx, hb, hown, hts, hOK.1, hOK.2.1⟩
  have hX := hOK.2.2.2.2
  have hb0 := hOK.2.2.2.1
  have hS : va_S (mh_A b) s.heap s.heap [] := va_S.rf
  have hl := lv_entry ([.ref x0, .int (nI t), .int (nI key), .long v]) (n := 6) (Nat.le_of_ble_eq_true rfl)
  rw [lg_entry_eq]
  generalize (lg_sl ([.ref x0, .int (nI t), .int (nI key), .long v]) ++ List.replicate (6 - (lg_sl ([.ref x0, .int (nI t), .int (nI key), .long v])).length) Slot.unset).toArray = ls at hl ⊢
  have hl : lv_has ls 6 [(0, .ref x0), (1, .int (nI t)), (2, .int (nI key)), (3, .long v)] := hl
  obtain ⟨y, hy1, hy2⟩ := (rd t ht).some hd
  obtain ⟨d1, d3, d4, d5, d6, d7, j0⟩ := hy2.fst
  have ho := gdr t x ht hd
  have ho2 := ho
  obtain ⟨o1, o2, o3, o4, o5, o6, o7, o8⟩ := ho2
  obtain ⟨av, hv1, st, hv2, hv3⟩ := rv t ht
  obtain ⟨v1, v3, vn0⟩ := hv2.fst
  refine lv_iload_n hx hb d_MH_put_0 rfl (lv_at hl 1 rfl) ?_
  refine lv_bipush (v := nI 16) hx hb d_MH_put_1 (by decide) ?_
  refine mh_callR (mh_sS (rest := []) (av := [.int (nI t), .int (nI 16)]) K0 e_MH_needBelow l_MH_40 k144 rfl rfl d_MH_put_3) (c_MH_needBelow ht (by decide)) K0 hOK hml hl.1 e_MH_needBelow hX hS d_MH_put_3 (Nat.le_of_ble_eq_true rfl) (Nat.le_of_ble_eq_true rfl) (Nat.le_of_ble_eq_true rfl) (Nat.le_of_ble_eq_true rfl) (Nat.le_of_ble_eq_true rfl) (fun H locs hX hS => ?_)
  refine W.eq (g2 := F0 m 6 ls []) rfl ?_
  refine lv_iload_n hx hb d_MH_put_6 rfl (lv_at hl 2 rfl) ?_
  refine lv_sipush (v := nI 256) hx hb d_MH_put_7 (by decide) ?_
  refine mh_callR (mh_sS (rest := []) (av := [.int (nI key), .int (nI 256)]) K0 e_MH_needBelow l_MH_40 k144 rfl rfl d_MH_put_10) (c_MH_needBelow hk (by decide)) K0 hOK hml hl.1 e_MH_needBelow hX hS d_MH_put_10 (Nat.le_of_ble_eq_true rfl) (Nat.le_of_ble_eq_true rfl) (Nat.le_of_ble_eq_true rfl) (Nat.le_of_ble_eq_true rfl) (Nat.le_of_ble_eq_true rfl) (fun H locs hX hS => ?_)
  refine W.eq (g2 := F0 m 13 ls []) rfl ?_
  refine lv_aload_n hx hb d_MH_put_13 rfl (lv_at hl 0 rfl) ?_
  refine lv_iload_n hx hb d_MH_put_14 rfl (lv_at hl 1 rfl) ?_
  refine mh_callR (mh_sV (rest := []) (av := [.int (nI t)]) K0 hX r0 rfl e_MH_openDraft l_MH_65 k303 kp1 rfl rfl d_MH_put_15) (c_MH_openDraft r0 r10 ht hy1) K0 hOK hml hl.1 e_MH_openDraft hX hS d_MH_put_15 (Nat.le_of_ble_eq_true rfl) (Nat.le_of_ble_eq_true rfl) (Nat.le_of_ble_eq_true rfl) (Nat.le_of_ble_eq_true rfl) (Nat.le_of_ble_eq_true rfl) (fun H locs hX hS => ?_)
  refine W.eq (g2 := F0 m 18 ls [.ref y]) rfl ?_
  refine lv_iload_n hx hb d_MH_put_18 rfl (lv_at hl 2 rfl) ?_
  refine lv_iconst (v := nI 1) hx hb d_MH_put_19 (by decide) ?_
  refine mh_ti (y := mh_b ((some v).isSome)) (rfl) ?_
  refine lv_lload_n hx hb d_MH_put_20 rfl (lv_at hl 3 rfl) ?_
  refine mh_callV (mh_sS (rest := []) (av := [.ref y, .int (nI key), .int (mh_b ((some v).isSome)), .long v]) K0 e_MH_writeKey l_MH_77 k354 rfl rfl d_MH_put_21) (c_MH_writeKey hy2 ho hk (v := (some v)) (u := v) (fun z hz => by cases hz; rfl) h8) K0 hOK hml hl.1 e_MH_writeKey hX hS d_MH_put_21 (Nat.le_of_ble_eq_true rfl) (Nat.le_of_ble_eq_true rfl) (Nat.le_of_ble_eq_true rfl) (Nat.le_of_ble_eq_true rfl) (Nat.le_of_ble_eq_true rfl) (fun w1 H locs ⟨hI, hF⟩ hX hS => ?_)
  refine W.eq (g2 := F0 m 24 ls [.int (nI (iv_nw (st_wr x key (some v))))]) rfl ?_
  refine lv_istore (lv' := [(5, .int (nI (iv_nw (st_wr x key (some v))))), (0, .ref x0), (1, .int (nI t)), (2, .int (nI key)), (3, .long v)]) hx hb d_MH_put_24 hl (by decide) rfl (fun ls hl => ?_)
  refine lv_aload_n hx hb d_MH_put_26 rfl (lv_at hl 1 rfl) ?_
  refine mh_get K0 hX ((hF 0 0 (by omega)).trans r0) f_MH_31 rfl d_MH_put_27 ?_
  refine lv_iload_n hx hb d_MH_put_30 rfl (lv_at hl 2 rfl) ?_
  refine mh_aaldN 6 rfl K0 hX ((hF 11 0 (by omega)).trans r11) (by omega) (by omega) (r := (some av)) (hv1) d_MH_put_31 ?_
  refine W.eq (g2 := F0 m 32 ls [.ref av]) rfl ?_
  refine lv_iload_n hx hb d_MH_put_32 rfl (lv_at hl 3 rfl) ?_
  refine lv_lload_n hx hb d_MH_put_33 rfl (lv_at hl 4 rfl) ?_
  refine mh_callV (mh_sV (rest := []) (av := [.int (nI key), .long v]) K0 hX ((hF 12 t (by omega)).trans vn0) rfl e_NU_give l_MH_81 k384 k385 rfl rfl d_MH_put_34) (c_NU_give (hv2.to (fun z hz => by rw [hF _ _ (by omega)]) (fun _ _ => rfl)) hk) K0 hOK hml hl.1 e_NU_give hX hS d_MH_put_34 (Nat.le_of_ble_eq_true rfl) (Nat.le_of_ble_eq_true rfl) (Nat.le_of_ble_eq_true rfl) (Nat.le_of_ble_eq_true rfl) (Nat.le_of_ble_eq_true rfl) (fun w2 H locs ⟨hN2, hF2⟩ hX hS => ?_)
  refine W.eq (g2 := F0 m 37 ls []) rfl ?_
  refine lv_iload hx hb d_MH_put_37 (lv_at hl 0 rfl) ?_
  have hC : rC dA zs w2 x0 (g.1, g.2.1, va_up (sg_dr g) t (some (st_wr x key (some v))), g.2.2.2) := ⟨aL, aS, aD, aV, sv, dr, vw, lg, hP.tx (fun k i h0 h1 h2 => by rw [hF2 _ _ (by omega), hF _ _ (by omega)]) (((hF2 10 0 (by omega)).trans ((hF 10 0 (by omega)).trans r10))) (fun _ _ => rfl) ⟨y, hy1, hI.to (fun z hz => hF2 _ _ (by omega))⟩ ⟨av, hv1, _, hN2, fun x2 hx2 j hj => by
      cases hx2
      rw [st_wr_vw (sg_lg g) ho hk h8]
      by_cases e9 : j = key
      · rw [e9, va_up_self, va_up_self]
      · rw [va_up_ne _ _ e9, va_up_ne _ _ e9]; exact hv3 x hd j hj⟩⟩
  exact mh_iret K0 hr rfl hlocks hX hS (⟨rfl, hC, fun k i h1 h2 => by rw [hF2 _ _ (by omega), hF _ _ (by omega)]⟩) (Nat.le_of_ble_eq_true rfl) (Nat.le_of_ble_eq_true rfl) d_MH_put_39
set_option maxHeartbeats 4000000 in
set_option maxRecDepth 100000 in
theorem c_MH_put_3 {l : Launch} {b : Nat} {dC : Nat → ClassId} {dI : Nat → Nat → Nat} {dA : Nat → ClassId} {zs : Nat → Nat} {w : mh_w} (hl0 : l.stackTraces = false) {x0 : Nat} {g : st_G} (hR : rC dA zs w x0 g) (hG : sg_ok g) {t : Nat} (ht : t < 16) {key : Nat} (hk : key < 256) {x : st_I} (hd : sg_dr g t = some x) {v : Int64} (h8 : ¬ (st_pl (iv_wk x) key (iv_nw x)) < 8) : mh_Met l b dC dI dA zs y_MH_put (mh_rm 8 20 1000) [.ref x0, .int (nI t), .int (nI key), .long v] w (mh_T 10 (fun w' => rC dA zs w' x0 g ∧ mh_C w w')) := by
  have hR2 := hR
  obtain ⟨aL, aS, aD, aV, sv, dr, vw, lg, hP⟩ := hR
  have hP2 := hP
  obtain ⟨r0, rLg, r3, r10, r11, rs, rv, rd, rl⟩ := hP2
  obtain ⟨mc, ar, r1, rAr⟩ := rLg
  have hG2 := hG
  obtain ⟨gn, grs, gat, glo, gdr⟩ := hG2
  refine mh_ofW (cc := b_MH_put) (n := 6) (ret := (some .int)) (hs := []) (by decide) k352 ?_
  intro p e s m below meth c hx hb hr hml hown hts hlocks hnm hT hOK hadm
  have K0 : mh_K0 p s m ([.ref x0, .int (nI t), .int (nI key), .long v]).toArray c "MeldHost" b_MH_put dC dI dA := ⟨hx, hb, hown, hts, hOK.1, hOK.2.1⟩
  have hX := hOK.2.2.2.2
  have hb0 := hOK.2.2.2.1
  have hS : va_S (mh_A b) s.heap s.heap [] := va_S.rf
  have hl := lv_entry ([.ref x0, .int (nI t), .int (nI key), .long v]) (n := 6) (Nat.le_of_ble_eq_true rfl)
  rw [lg_entry_eq]
  generalize (lg_sl ([.ref x0, .int (nI t), .int (nI key), .long v]) ++ List.replicate (6 - (lg_sl ([.ref x0, .int (nI t), .int (nI key), .long v])).length) Slot.unset).toArray = ls at hl ⊢
  have hl : lv_has ls 6 [(0, .ref x0), (1, .int (nI t)), (2, .int (nI key)), (3, .long v)] := hl
  obtain ⟨y, hy1, hy2⟩ := (rd t ht).some hd
  obtain ⟨d1, d3, d4, d5, d6, d7, j0⟩ := hy2.fst
  have ho := gdr t x ht hd
  have ho2 := ho
  obtain ⟨o1, o2, o3, o4, o5, o6, o7, o8⟩ := ho2
  refine lv_iload_n hx hb d_MH_put_0 rfl (lv_at hl 1 rfl) ?_
  refine lv_bipush (v := nI 16) hx hb d_MH_put_1 (by decide) ?_
  refine mh_callR (mh_sS (rest := []) (av := [.int (nI t), .int (nI 16)]) K0 e_MH_needBelow l_MH_40 k144 rfl rfl d_MH_put_3) (c_MH_needBelow ht (by decide)) K0 hOK hml hl.1 e_MH_needBelow hX hS d_MH_put_3 (Nat.le_of_ble_eq_true rfl) (Nat.le_of_ble_eq_true rfl) (Nat.le_of_ble_eq_true rfl) (Nat.le_of_ble_eq_true rfl) (Nat.le_of_ble_eq_true rfl) (fun H locs hX hS => ?_)
  refine W.eq (g2 := F0 m 6 ls []) rfl ?_
  refine lv_iload_n hx hb d_MH_put_6 rfl (lv_at hl 2 rfl) ?_
  refine lv_sipush (v := nI 256) hx hb d_MH_put_7 (by decide) ?_
  refine mh_callR (mh_sS (rest := []) (av := [.int (nI key), .int (nI 256)]) K0 e_MH_needBelow l_MH_40 k144 rfl rfl d_MH_put_10) (c_MH_needBelow hk (by decide)) K0 hOK hml hl.1 e_MH_needBelow hX hS d_MH_put_10 (Nat.le_of_ble_eq_true rfl) (Nat.le_of_ble_eq_true rfl) (Nat.le_of_ble_eq_true rfl) (Nat.le_of_ble_eq_true rfl) (Nat.le_of_ble_eq_true rfl) (fun H locs hX hS => ?_)
  refine W.eq (g2 := F0 m 13 ls []) rfl ?_
  refine lv_aload_n hx hb d_MH_put_13 rfl (lv_at hl 0 rfl) ?_
  refine lv_iload_n hx hb d_MH_put_14 rfl (lv_at hl 1 rfl) ?_
  refine mh_callR (mh_sV (rest := []) (av := [.int (nI t)]) K0 hX r0 rfl e_MH_openDraft l_MH_65 k303 kp1 rfl rfl d_MH_put_15) (c_MH_openDraft r0 r10 ht hy1) K0 hOK hml hl.1 e_MH_openDraft hX hS d_MH_put_15 (Nat.le_of_ble_eq_true rfl) (Nat.le_of_ble_eq_true rfl) (Nat.le_of_ble_eq_true rfl) (Nat.le_of_ble_eq_true rfl) (Nat.le_of_ble_eq_true rfl) (fun H locs hX hS => ?_)
  refine W.eq (g2 := F0 m 18 ls [.ref y]) rfl ?_
  refine lv_iload_n hx hb d_MH_put_18 rfl (lv_at hl 2 rfl) ?_
  refine lv_iconst (v := nI 1) hx hb d_MH_put_19 (by decide) ?_
  refine lv_lload_n hx hb d_MH_put_20 rfl (lv_at hl 3 rfl) ?_
  refine mh_callT (mh_sS (rest := []) (av := [.ref y, .int (nI key), .int (nI 1), .long v]) K0 e_MH_writeKey l_MH_77 k354 rfl rfl d_MH_put_21) (c_MH_writeKey_no hl0 hy2 ho hk h8) K0 hOK hml hl.1 e_MH_writeKey hX hS d_MH_put_21 (Nat.le_of_ble_eq_true rfl) (Nat.le_of_ble_eq_true rfl) (Nat.le_of_ble_eq_true rfl) (Nat.le_of_ble_eq_true rfl) (Nat.le_of_ble_eq_true rfl) (fun q w1 H locs hq hw hX hS => ?_)
  exact mh_leave hlocks hT hX hS (⟨q, rfl, hq, hR2.x hw, hw.C⟩) (Nat.le_of_ble_eq_true rfl) (Nat.le_of_ble_eq_true rfl)
set_option maxHeartbeats 4000000 in
set_option maxRecDepth 100000 in
theorem c_MH_delete_0 {l : Launch} {b : Nat} {dC : Nat → ClassId} {dI : Nat → Nat → Nat} {dA : Nat → ClassId} {zs : Nat → Nat} {w : mh_w} {x0 : Nat} {g : st_G} (hR : rC dA zs w x0 g) (hG : sg_ok g) {t : Nat} (ht : t < 16) {key : Nat} (hk : key < 256) {x : st_I} (hd : sg_dr g t = some x) (h8 : (st_pl (iv_wk x) key (iv_nw x)) < 8) : mh_Met l b dC dI dA zs y_MH_delete (mh_rm 8 20 1000) [.ref x0, .int (nI t), .int (nI key)] w (mh_V (some (.int (nI (iv_nw (st_wr x key (none : Option Int64)))))) (fun w' => rC dA zs w' x0 (g.1, g.2.1, va_up (sg_dr g) t (some (st_wr x key (none : Option Int64))), g.2.2.2) ∧ mh_C w w')) := by
  have hR2 := hR
  obtain ⟨aL, aS, aD, aV, sv, dr, vw, lg, hP⟩ := hR
  have hP2 := hP
  obtain ⟨r0, rLg, r3, r10, r11, rs, rv, rd, rl⟩ := hP2
  obtain ⟨mc, ar, r1, rAr⟩ := rLg
  have hG2 := hG
  obtain ⟨gn, grs, gat, glo, gdr⟩ := hG2
  refine mh_ofW (cc := b_MH_delete) (n := 4) (ret := (some .int)) (hs := []) (by decide) k394 ?_
  intro p e s m below meth c hx hb hr hml hown hts hlocks hnm hT hOK hadm
  have K0 : mh_K0 p s m ([.ref x0, .int (nI t), .int (nI key)]).toArray c "MeldHost" b_MH_delete dC dI dA := ⟨hx, hb, hown, hts, hOK.1, hOK.2.1⟩
  have hX := hOK.2.2.2.2
  have hb0 := hOK.2.2.2.1
  have hS : va_S (mh_A b) s.heap s.heap [] := va_S.rf
  have hl := lv_entry ([.ref x0, .int (nI t), .int (nI key)]) (n := 4) (Nat.le_of_ble_eq_true rfl)
  rw [lg_entry_eq]
  generalize (lg_sl ([.ref x0, .int (nI t), .int (nI key)]) ++ List.replicate (4 - (lg_sl ([.ref x0, .int (nI t), .int (nI key)])).length) Slot.unset).toArray = ls at hl ⊢
  have hl : lv_has ls 4 [(0, .ref x0), (1, .int (nI t)), (2, .int (nI key))] := hl
  obtain ⟨y, hy1, hy2⟩ := (rd t ht).some hd
  obtain ⟨d1, d3, d4, d5, d6, d7, j0⟩ := hy2.fst
  have ho := gdr t x ht hd
  have ho2 := ho
  obtain ⟨o1, o2, o3, o4, o5, o6, o7, o8⟩ := ho2
  obtain ⟨av, hv1, st, hv2, hv3⟩ := rv t ht
  obtain ⟨v1, v3, vn0⟩ := hv2.fst
  refine lv_iload_n hx hb d_MH_delete_0 rfl (lv_at hl 1 rfl) ?_
  refine lv_bipush (v := nI 16) hx hb d_MH_delete_1 (by decide) ?_
  refine mh_callR (mh_sS (rest := []) (av := [.int (nI t), .int (nI 16)]) K0 e_MH_needBelow l_MH_40 k144 rfl rfl d_MH_delete_3) (c_MH_needBelow ht (by decide)) K0 hOK hml hl.1 e_MH_needBelow hX hS d_MH_delete_3 (Nat.le_of_ble_eq_true rfl) (Nat.le_of_ble_eq_true rfl) (Nat.le_of_ble_eq_true rfl) (Nat.le_of_ble_eq_true rfl) (Nat.le_of_ble_eq_true rfl) (fun H locs hX hS => ?_)
  refine W.eq (g2 := F0 m 6 ls []) rfl ?_
  refine lv_iload_n hx hb d_MH_delete_6 rfl (lv_at hl 2 rfl) ?_
  refine lv_sipush (v := nI 256) hx hb d_MH_delete_7 (by decide) ?_
  refine mh_callR (mh_sS (rest := []) (av := [.int (nI key), .int (nI 256)]) K0 e_MH_needBelow l_MH_40 k144 rfl rfl d_MH_delete_10) (c_MH_needBelow hk (by decide)) K0 hOK hml hl.1 e_MH_needBelow hX hS d_MH_delete_10 (Nat.le_of_ble_eq_true rfl) (Nat.le_of_ble_eq_true rfl) (Nat.le_of_ble_eq_true rfl) (Nat.le_of_ble_eq_true rfl) (Nat.le_of_ble_eq_true rfl) (fun H locs hX hS => ?_)
  refine W.eq (g2 := F0 m 13 ls []) rfl ?_
  refine lv_aload_n hx hb d_MH_delete_13 rfl (lv_at hl 0 rfl) ?_
  refine lv_iload_n hx hb d_MH_delete_14 rfl (lv_at hl 1 rfl) ?_
  refine mh_callR (mh_sV (rest := []) (av := [.int (nI t)]) K0 hX r0 rfl e_MH_openDraft l_MH_65 k303 kp1 rfl rfl d_MH_delete_15) (c_MH_openDraft r0 r10 ht hy1) K0 hOK hml hl.1 e_MH_openDraft hX hS d_MH_delete_15 (Nat.le_of_ble_eq_true rfl) (Nat.le_of_ble_eq_true rfl) (Nat.le_of_ble_eq_true rfl) (Nat.le_of_ble_eq_true rfl) (Nat.le_of_ble_eq_true rfl) (fun H locs hX hS => ?_)
  refine W.eq (g2 := F0 m 18 ls [.ref y]) rfl ?_
  refine lv_iload_n hx hb d_MH_delete_18 rfl (lv_at hl 2 rfl) ?_
  refine lv_iconst (v := nI 0) hx hb d_MH_delete_19 (by decide) ?_
  refine mh_ti (y := mh_b ((none : Option Int64).isSome)) (rfl) ?_
  refine lv_lconst (v := 0) hx hb d_MH_delete_20 rfl ?_
  refine mh_callV (mh_sS (rest := []) (av := [.ref y, .int (nI key), .int (mh_b ((none : Option Int64).isSome)), .long 0]) K0 e_MH_writeKey l_MH_77 k354 rfl rfl d_MH_delete_21) (c_MH_writeKey hy2 ho hk (v := (none : Option Int64)) (u := 0) (fun z hz => by cases hz) h8) K0 hOK hml hl.1 e_MH_writeKey hX hS d_MH_delete_21 (Nat.le_of_ble_eq_true rfl) (Nat.le_of_ble_eq_true rfl) (Nat.le_of_ble_eq_true rfl) (Nat.le_of_ble_eq_true rfl) (Nat.le_of_ble_eq_true rfl) (fun w1 H locs ⟨hI, hF⟩ hX hS => ?_)
  refine W.eq (g2 := F0 m 24 ls [.int (nI (iv_nw (st_wr x key (none : Option Int64))))]) rfl ?_
  refine lv_istore_n (lv' := [(3, .int (nI (iv_nw (st_wr x key (none : Option Int64))))), (0, .ref x0), (1, .int (nI t)), (2, .int (nI key))]) hx hb d_MH_delete_24 rfl hl (by decide) rfl (fun ls hl => ?_)
  refine lv_aload_n hx hb d_MH_delete_25 rfl (lv_at hl 1 rfl) ?_
  refine mh_get K0 hX ((hF 0 0 (by omega)).trans r0) f_MH_31 rfl d_MH_delete_26 ?_
  refine lv_iload_n hx hb d_MH_delete_29 rfl (lv_at hl 2 rfl) ?_
  refine mh_aaldN 6 rfl K0 hX ((hF 11 0 (by omega)).trans r11) (by omega) (by omega) (r := (some av)) (hv1) d_MH_delete_30 ?_
  refine W.eq (g2 := F0 m 31 ls [.ref av]) rfl ?_
  refine lv_iload_n hx hb d_MH_delete_31 rfl (lv_at hl 3 rfl) ?_
  refine mh_callV (mh_sV (rest := []) (av := [.int (nI key)]) K0 hX ((hF 12 t (by omega)).trans vn0) rfl e_NU_take l_MH_85 k396 k397 rfl rfl d_MH_delete_32) (c_NU_take (hv2.to (fun z hz => by rw [hF _ _ (by omega)]) (fun _ _ => rfl)) hk) K0 hOK hml hl.1 e_NU_take hX hS d_MH_delete_32 (Nat.le_of_ble_eq_true rfl) (Nat.le_of_ble_eq_true rfl) (Nat.le_of_ble_eq_true rfl) (Nat.le_of_ble_eq_true rfl) (Nat.le_of_ble_eq_true rfl) (fun w2 H locs ⟨hN2, hF2⟩ hX hS => ?_)
  refine W.eq (g2 := F0 m 35 ls []) rfl ?_
  refine lv_iload_n hx hb d_MH_delete_35 rfl (lv_at hl 0 rfl) ?_
  have hC : rC dA zs w2 x0 (g.1, g.2.1, va_up (sg_dr g) t (some (st_wr x key (none : Option Int64))), g.2.2.2) := ⟨aL, aS, aD, aV, sv, dr, vw, lg, hP.tx (fun k i h0 h1 h2 => by rw [hF2 _ _ (by omega), hF _ _ (by omega)]) (((hF2 10 0 (by omega)).trans ((hF 10 0 (by omega)).trans r10))) (fun _ _ => rfl) ⟨y, hy1, hI.to (fun z hz => hF2 _ _ (by omega))⟩ ⟨av, hv1, _, hN2, fun x2 hx2 j hj => by
      cases hx2
      rw [st_wr_vw (sg_lg g) ho hk h8]
      by_cases e9 : j = key
      · rw [e9, va_up_self, va_up_self]
      · rw [va_up_ne _ _ e9, va_up_ne _ _ e9]; exact hv3 x hd j hj⟩⟩
  exact mh_iret K0 hr rfl hlocks hX hS (⟨rfl, hC, fun k i h1 h2 => by rw [hF2 _ _ (by omega), hF _ _ (by omega)]⟩) (Nat.le_of_ble_eq_true rfl) (Nat.le_of_ble_eq_true rfl) d_MH_delete_36
set_option maxHeartbeats 4000000 in
set_option maxRecDepth 100000 in
theorem c_MH_delete_3 {l : Launch} {b : Nat} {dC : Nat → ClassId} {dI : Nat → Nat → Nat} {dA : Nat → ClassId} {zs : Nat → Nat} {w : mh_w} (hl0 : l.stackTraces = false) {x0 : Nat} {g : st_G} (hR : rC dA zs w x0 g) (hG : sg_ok g) {t : Nat} (ht : t < 16) {key : Nat} (hk : key < 256) {x : st_I} (hd : sg_dr g t = some x) (h8 : ¬ (st_pl (iv_wk x) key (iv_nw x)) < 8) : mh_Met l b dC dI dA zs y_MH_delete (mh_rm 8 20 1000) [.ref x0, .int (nI t), .int (nI key)] w (mh_T 10 (fun w' => rC dA zs w' x0 g ∧ mh_C w w')) := by
  have hR2 := hR
  obtain ⟨aL, aS, aD, aV, sv, dr, vw, lg, hP⟩ := hR
  have hP2 := hP
  obtain ⟨r0, rLg, r3, r10, r11, rs, rv, rd, rl⟩ := hP2
  obtain ⟨mc, ar, r1, rAr⟩ := rLg
  have hG2 := hG
  obtain ⟨gn, grs, gat, glo, gdr⟩ := hG2
  refine mh_ofW (cc := b_MH_delete) (n := 4) (ret := (some .int)) (hs := []) (by decide) k394 ?_
  intro p e s m below meth c hx hb hr hml hown hts hlocks hnm hT hOK hadm
  have K0 : mh_K0 p s m ([.ref x0, .int (nI t), .int (nI key)]).toArray c "MeldHost" b_MH_delete dC dI dA := ⟨hx, hb, hown, hts, hOK.1, hOK.2.1⟩
  have hX := hOK.2.2.2.2
  have hb0 := hOK.2.2.2.1
  have hS : va_S (mh_A b) s.heap s.heap [] := va_S.rf
  have hl := lv_entry ([.ref x0, .int (nI t), .int (nI key)]) (n := 4) (Nat.le_of_ble_eq_true rfl)
  rw [lg_entry_eq]
  generalize (lg_sl ([.ref x0, .int (nI t), .int (nI key)]) ++ List.replicate (4 - (lg_sl ([.ref x0, .int (nI t), .int (nI key)])).length) Slot.unset).toArray = ls at hl ⊢
  have hl : lv_has ls 4 [(0, .ref x0), (1, .int (nI t)), (2, .int (nI key))] := hl
  obtain ⟨y, hy1, hy2⟩ := (rd t ht).some hd
  obtain ⟨d1, d3, d4, d5, d6, d7, j0⟩ := hy2.fst
  have ho := gdr t x ht hd
  have ho2 := ho
  obtain ⟨o1, o2, o3, o4, o5, o6, o7, o8⟩ := ho2
  refine lv_iload_n hx hb d_MH_delete_0 rfl (lv_at hl 1 rfl) ?_
  refine lv_bipush (v := nI 16) hx hb d_MH_delete_1 (by decide) ?_
  refine mh_callR (mh_sS (rest := []) (av := [.int (nI t), .int (nI 16)]) K0 e_MH_needBelow l_MH_40 k144 rfl rfl d_MH_delete_3) (c_MH_needBelow ht (by decide)) K0 hOK hml hl.1 e_MH_needBelow hX hS d_MH_delete_3 (Nat.le_of_ble_eq_true rfl) (Nat.le_of_ble_eq_true rfl) (Nat.le_of_ble_eq_true rfl) (Nat.le_of_ble_eq_true rfl) (Nat.le_of_ble_eq_true rfl) (fun H locs hX hS => ?_)
  refine W.eq (g2 := F0 m 6 ls []) rfl ?_
  refine lv_iload_n hx hb d_MH_delete_6 rfl (lv_at hl 2 rfl) ?_
  refine lv_sipush (v := nI 256) hx hb d_MH_delete_7 (by decide) ?_
  refine mh_callR (mh_sS (rest := []) (av := [.int (nI key), .int (nI 256)]) K0 e_MH_needBelow l_MH_40 k144 rfl rfl d_MH_delete_10) (c_MH_needBelow hk (by decide)) K0 hOK hml hl.1 e_MH_needBelow hX hS d_MH_delete_10 (Nat.le_of_ble_eq_true rfl) (Nat.le_of_ble_eq_true rfl) (Nat.le_of_ble_eq_true rfl) (Nat.le_of_ble_eq_true rfl) (Nat.le_of_ble_eq_true rfl) (fun H locs hX hS => ?_)
  refine W.eq (g2 := F0 m 13 ls []) rfl ?_
  refine lv_aload_n hx hb d_MH_delete_13 rfl (lv_at hl 0 rfl) ?_
  refine lv_iload_n hx hb d_MH_delete_14 rfl (lv_at hl 1 rfl) ?_
  refine mh_callR (mh_sV (rest := []) (av := [.int (nI t)]) K0 hX r0 rfl e_MH_openDraft l_MH_65 k303 kp1 rfl rfl d_MH_delete_15) (c_MH_openDraft r0 r10 ht hy1) K0 hOK hml hl.1 e_MH_openDraft hX hS d_MH_delete_15 (Nat.le_of_ble_eq_true rfl) (Nat.le_of_ble_eq_true rfl) (Nat.le_of_ble_eq_true rfl) (Nat.le_of_ble_eq_true rfl) (Nat.le_of_ble_eq_true rfl) (fun H locs hX hS => ?_)
  refine W.eq (g2 := F0 m 18 ls [.ref y]) rfl ?_
  refine lv_iload_n hx hb d_MH_delete_18 rfl (lv_at hl 2 rfl) ?_
  refine lv_iconst (v := nI 0) hx hb d_MH_delete_19 (by decide) ?_
  refine lv_lconst (v := 0) hx hb d_MH_delete_20 rfl ?_
  refine mh_callT (mh_sS (rest := []) (av := [.ref y, .int (nI key), .int (nI 0), .long 0]) K0 e_MH_writeKey l_MH_77 k354 rfl rfl d_MH_delete_21) (c_MH_writeKey_no hl0 hy2 ho hk h8) K0 hOK hml hl.1 e_MH_writeKey hX hS d_MH_delete_21 (Nat.le_of_ble_eq_true rfl) (Nat.le_of_ble_eq_true rfl) (Nat.le_of_ble_eq_true rfl) (Nat.le_of_ble_eq_true rfl) (Nat.le_of_ble_eq_true rfl) (fun q w1 H locs hq hw hX hS => ?_)
  exact mh_leave hlocks hT hX hS (⟨q, rfl, hq, hR2.x hw, hw.C⟩) (Nat.le_of_ble_eq_true rfl) (Nat.le_of_ble_eq_true rfl)
set_option maxHeartbeats 4000000 in
set_option maxRecDepth 100000 in
theorem c_MH_part_0 {l : Launch} {b : Nat} {dC : Nat → ClassId} {dI : Nat → Nat → Nat} {dA : Nat → ClassId} {zs : Nat → Nat} {w : mh_w} {x0 : Nat} {g : st_G} (hR : rC dA zs w x0 g) (hG : sg_ok g) {t : Nat} (ht : t < 16) {low high q9 : Nat} (h1 : low ≤ high) (h2 : high < 256) (h3 : q9 < 4) {x : st_I} (hd : sg_dr g t = some x) (h8 : iv_np x < 8) : mh_Met l b dC dI dA zs y_MH_part (mh_rm 8 20 1000) [.ref x0, .int (nI t), .int (nI low), .int (nI high), .int (nI q9)] w (mh_V (some (.long (tl_a (st_vw (sg_lg g) x) low (high + 1 - low) (nI q9)))) (fun w' => rC dA zs w' x0 (g.1, g.2.1, va_up (sg_dr g) t (some (st_prt x low high)), g.2.2.2) ∧ mh_C w w')) := by
  have hR2 := hR
  obtain ⟨aL, aS, aD, aV, sv, dr, vw, lg, hP⟩ := hR
  have hP2 := hP
  obtain ⟨r0, rLg, r3, r10, r11, rs, rv, rd, rl⟩ := hP2
  obtain ⟨mc, ar, r1, rAr⟩ := rLg
  have hG2 := hG
  obtain ⟨gn, grs, gat, glo, gdr⟩ := hG2
  refine mh_ofW (cc := b_MH_part) (n := 6) (ret := (some .long)) (hs := []) (by decide) k410 ?_
  intro p e s m below meth c hx hb hr hml hown hts hlocks hnm hT hOK hadm
  have K0 : mh_K0 p s m ([.ref x0, .int (nI t), .int (nI low), .int (nI high), .int (nI q9)]).toArray c "MeldHost" b_MH_part dC dI dA := ⟨hx, hb, hown, hts, hOK.1, hOK.2.1⟩
  have hX := hOK.2.2.2.2
  have hb0 := hOK.2.2.2.1
  have hS : va_S (mh_A b) s.heap s.heap [] := va_S.rf
  have hl := lv_entry ([.ref x0, .int (nI t), .int (nI low), .int (nI high), .int (nI q9)]) (n := 6) (Nat.le_of_ble_eq_true rfl)
  rw [lg_entry_eq]
  generalize (lg_sl ([.ref x0, .int (nI t), .int (nI low), .int (nI high), .int (nI q9)]) ++ List.replicate (6 - (lg_sl ([.ref x0, .int (nI t), .int (nI low), .int (nI high), .int (nI q9)])).length) Slot.unset).toArray = ls at hl ⊢
  have hl : lv_has ls 6 [(0, .ref x0), (1, .int (nI t)), (2, .int (nI low)), (3, .int (nI high)), (4, .int (nI q9))] := hl
  obtain ⟨y, hy1, hy2⟩ := (rd t ht).some hd
  obtain ⟨d1, d3, d4, d5, d6, d7, j0⟩ := hy2.fst
  have ho := gdr t x ht hd
  have ho2 := ho
  obtain ⟨o1, o2, o3, o4, o5, o6, o7, o8⟩ := ho2
  obtain ⟨av, hv1, st, hv2, hv3⟩ := rv t ht
  obtain ⟨v1, v3, vn0⟩ := hv2.fst
  refine lv_iload_n hx hb d_MH_part_0 rfl (lv_at hl 1 rfl) ?_
  refine lv_bipush (v := nI 16) hx hb d_MH_part_1 (by decide) ?_
  refine mh_callR (mh_sS (rest := []) (av := [.int (nI t), .int (nI 16)]) K0 e_MH_needBelow l_MH_40 k144 rfl rfl d_MH_part_3) (c_MH_needBelow ht (by decide)) K0 hOK hml hl.1 e_MH_needBelow hX hS d_MH_part_3 (Nat.le_of_ble_eq_true rfl) (Nat.le_of_ble_eq_true rfl) (Nat.le_of_ble_eq_true rfl) (Nat.le_of_ble_eq_true rfl) (Nat.le_of_ble_eq_true rfl) (fun H locs hX hS => ?_)
  refine W.eq (g2 := F0 m 6 ls []) rfl ?_
  refine lv_iload_n hx hb d_MH_part_6 rfl (lv_at hl 2 rfl) ?_
  refine lv_iload_n hx hb d_MH_part_7 rfl (lv_at hl 3 rfl) ?_
  refine lv_iload hx hb d_MH_part_8 (lv_at hl 4 rfl) ?_
  refine mh_callR (mh_sS (rest := []) (av := [.int (nI low), .int (nI high), .int (nI q9)]) K0 e_MH_needPart l_MH_88 k412 rfl rfl d_MH_part_10) (c_MH_needPart h1 h2 h3) K0 hOK hml hl.1 e_MH_needPart hX hS d_MH_part_10 (Nat.le_of_ble_eq_true rfl) (Nat.le_of_ble_eq_true rfl) (Nat.le_of_ble_eq_true rfl) (Nat.le_of_ble_eq_true rfl) (Nat.le_of_ble_eq_true rfl) (fun H locs hX hS => ?_)
  refine W.eq (g2 := F0 m 13 ls []) rfl ?_
  refine lv_aload_n hx hb d_MH_part_13 rfl (lv_at hl 0 rfl) ?_
  refine lv_iload_n hx hb d_MH_part_14 rfl (lv_at hl 1 rfl) ?_
  refine mh_callR (mh_sV (rest := []) (av := [.int (nI t)]) K0 hX r0 rfl e_MH_openDraft l_MH_65 k303 kp1 rfl rfl d_MH_part_15) (c_MH_openDraft r0 r10 ht hy1) K0 hOK hml hl.1 e_MH_openDraft hX hS d_MH_part_15 (Nat.le_of_ble_eq_true rfl) (Nat.le_of_ble_eq_true rfl) (Nat.le_of_ble_eq_true rfl) (Nat.le_of_ble_eq_true rfl) (Nat.le_of_ble_eq_true rfl) (fun H locs hX hS => ?_)
  refine W.eq (g2 := F0 m 18 ls [.ref y]) rfl ?_
  refine lv_astore (lv' := [(5, .ref y), (0, .ref x0), (1, .int (nI t)), (2, .int (nI low)), (3, .int (nI high)), (4, .int (nI q9))]) hx hb d_MH_part_18 hl (by decide) rfl (fun ls hl => ?_)
  refine lv_aload hx hb d_MH_part_20 (lv_at hl 0 rfl) ?_
  refine mh_get K0 hX j0 f_MH_91 rfl d_MH_part_22 ?_
  refine lv_bipush (v := nI 8) hx hb d_MH_part_25 (by decide) ?_
  refine mh_icmp_lt (tgt := 40) hx hb (by omega) (by omega) d_MH_part_27 (by decide) (fun _ => ?_) (fun z => absurd z (by omega))
  refine lv_aload hx hb d_MH_part_40 (lv_at hl 0 rfl) ?_
  refine lv_iload_n hx hb d_MH_part_42 rfl (lv_at hl 3 rfl) ?_
  refine lv_iload_n hx hb d_MH_part_43 rfl (lv_at hl 4 rfl) ?_
  refine mh_callV (mh_sV (rest := []) (av := [.int (nI low), .int (nI high)]) K0 hX j0 rfl e_IN_readPart l_MH_99 k416 k417 rfl rfl d_MH_part_44) (c_IN_readPart hy2 ho h8 (low := low) (high := high)) K0 hOK hml hl.1 e_IN_readPart hX hS d_MH_part_44 (Nat.le_of_ble_eq_true rfl) (Nat.le_of_ble_eq_true rfl) (Nat.le_of_ble_eq_true rfl) (Nat.le_of_ble_eq_true rfl) (Nat.le_of_ble_eq_true rfl) (fun w1 H locs ⟨hI, hF⟩ hX hS => ?_)
  refine W.eq (g2 := F0 m 47 ls []) rfl ?_
  refine lv_aload_n hx hb d_MH_part_47 rfl (lv_at hl 1 rfl) ?_
  refine mh_get K0 hX ((hF 0 0 (by omega)).trans r0) f_MH_31 rfl d_MH_part_48 ?_
  refine lv_iload_n hx hb d_MH_part_51 rfl (lv_at hl 2 rfl) ?_
  refine mh_aaldN 6 rfl K0 hX ((hF 11 0 (by omega)).trans r11) (by omega) (by omega) (r := (some av)) (hv1) d_MH_part_52 ?_
  refine W.eq (g2 := F0 m 53 ls [.ref av]) rfl ?_
  refine lv_iload_n hx hb d_MH_part_53 rfl (lv_at hl 3 rfl) ?_
  refine lv_iload_n hx hb d_MH_part_54 rfl (lv_at hl 4 rfl) ?_
  refine lv_iload hx hb d_MH_part_55 (lv_at hl 5 rfl) ?_
  refine mh_callR (mh_sV (rest := []) (av := [.int (nI low), .int (nI high), .int (nI q9)]) K0 hX ((hF 12 t (by omega)).trans vn0) rfl e_NU_tell l_MH_102 k420 k421 rfl rfl d_MH_part_57) (c_NU_tell (st := st_vw (sg_lg g) x) (hv2.to (fun z hz => by rw [hF _ _ (by omega)]) (fun j hj => hv3 x hd j hj)) h1 h2 h3) K0 hOK hml hl.1 e_NU_tell hX hS d_MH_part_57 (Nat.le_of_ble_eq_true rfl) (Nat.le_of_ble_eq_true rfl) (Nat.le_of_ble_eq_true rfl) (Nat.le_of_ble_eq_true rfl) (Nat.le_of_ble_eq_true rfl) (fun H locs hX hS => ?_)
  refine W.eq (g2 := F0 m 60 ls [.long (tl_a (st_vw (sg_lg g) x) low (high + 1 - low) (nI q9))]) rfl ?_
  exact mh_lret K0 hr hlocks hX hS (⟨rfl, ⟨aL, aS, aD, aV, sv, dr, vw, lg, hP.tx (fun k i h0 h1 h2 => by rw [hF _ _ (by omega)]) (((hF 10 0 (by omega)).trans r10)) (fun _ _ => rfl) ⟨y, hy1, hI⟩ ⟨av, hv1, st, hv2.to (fun z hz => by rw [hF _ _ (by omega)]) (fun _ _ => rfl), fun x2 hx2 j hj => by cases hx2; exact hv3 x hd j hj⟩⟩, fun k i h1 h2 => by rw [hF _ _ (by omega)]⟩) (Nat.le_of_ble_eq_true rfl) (Nat.le_of_ble_eq_true rfl) d_MH_part_60
set_option maxHeartbeats 4000000 in
set_option maxRecDepth 100000 in
theorem c_MH_part_3 {l : Launch} {b : Nat} {dC : Nat → ClassId} {dI : Nat → Nat → Nat} {dA : Nat → ClassId} {zs : Nat → Nat} {w : mh_w} (hl0 : l.stackTraces = false) {x0 : Nat} {g : st_G} (hR : rC dA zs w x0 g) (hG : sg_ok g) {t : Nat} (ht : t < 16) {low high q9 : Nat} (h1 : low ≤ high) (h2 : high < 256) (h3 : q9 < 4) {x : st_I} (hd : sg_dr g t = some x) (h8 : ¬ iv_np x < 8) : mh_Met l b dC dI dA zs y_MH_part (mh_rm 8 20 1000) [.ref x0, .int (nI t), .int (nI low), .int (nI high), .int (nI q9)] w (mh_T 10 (fun w' => rC dA zs w' x0 g ∧ mh_C w w')) := by
  have hR2 := hR
  obtain ⟨aL, aS, aD, aV, sv, dr, vw, lg, hP⟩ := hR
  have hP2 := hP
  obtain ⟨r0, rLg, r3, r10, r11, rs, rv, rd, rl⟩ := hP2
  obtain ⟨mc, ar, r1, rAr⟩ := rLg
  have hG2 := hG
  obtain ⟨gn, grs, gat, glo, gdr⟩ := hG2
  refine mh_ofW (cc := b_MH_part) (n := 6) (ret := (some .long)) (hs := []) (by decide) k410 ?_
  intro p e s m below meth c hx hb hr hml hown hts hlocks hnm hT hOK hadm
  have K0 : mh_K0 p s m ([.ref x0, .int (nI t), .int (nI low), .int (nI high), .int (nI q9)]).toArray c "MeldHost" b_MH_part dC dI dA := ⟨hx, hb, hown, hts, hOK.1, hOK.2.1⟩
  have hX := hOK.2.2.2.2
  have hb0 := hOK.2.2.2.1
  have hS : va_S (mh_A b) s.heap s.heap [] := va_S.rf
  have hl := lv_entry ([.ref x0, .int (nI t), .int (nI low), .int (nI high), .int (nI q9)]) (n := 6) (Nat.le_of_ble_eq_true rfl)
  rw [lg_entry_eq]
  generalize (lg_sl ([.ref x0, .int (nI t), .int (nI low), .int (nI high), .int (nI q9)]) ++ List.replicate (6 - (lg_sl ([.ref x0, .int (nI t), .int (nI low), .int (nI high), .int (nI q9)])).length) Slot.unset).toArray = ls at hl ⊢
  have hl : lv_has ls 6 [(0, .ref x0), (1, .int (nI t)), (2, .int (nI low)), (3, .int (nI high)), (4, .int (nI q9))] := hl
  obtain ⟨y, hy1, hy2⟩ := (rd t ht).some hd
  obtain ⟨d1, d3, d4, d5, d6, d7, j0⟩ := hy2.fst
  have ho := gdr t x ht hd
  have ho2 := ho
  obtain ⟨o1, o2, o3, o4, o5, o6, o7, o8⟩ := ho2
  refine lv_iload_n hx hb d_MH_part_0 rfl (lv_at hl 1 rfl) ?_
  refine lv_bipush (v := nI 16) hx hb d_MH_part_1 (by decide) ?_
  refine mh_callR (mh_sS (rest := []) (av := [.int (nI t), .int (nI 16)]) K0 e_MH_needBelow l_MH_40 k144 rfl rfl d_MH_part_3) (c_MH_needBelow ht (by decide)) K0 hOK hml hl.1 e_MH_needBelow hX hS d_MH_part_3 (Nat.le_of_ble_eq_true rfl) (Nat.le_of_ble_eq_true rfl) (Nat.le_of_ble_eq_true rfl) (Nat.le_of_ble_eq_true rfl) (Nat.le_of_ble_eq_true rfl) (fun H locs hX hS => ?_)
  refine W.eq (g2 := F0 m 6 ls []) rfl ?_
  refine lv_iload_n hx hb d_MH_part_6 rfl (lv_at hl 2 rfl) ?_
  refine lv_iload_n hx hb d_MH_part_7 rfl (lv_at hl 3 rfl) ?_
  refine lv_iload hx hb d_MH_part_8 (lv_at hl 4 rfl) ?_
  refine mh_callR (mh_sS (rest := []) (av := [.int (nI low), .int (nI high), .int (nI q9)]) K0 e_MH_needPart l_MH_88 k412 rfl rfl d_MH_part_10) (c_MH_needPart h1 h2 h3) K0 hOK hml hl.1 e_MH_needPart hX hS d_MH_part_10 (Nat.le_of_ble_eq_true rfl) (Nat.le_of_ble_eq_true rfl) (Nat.le_of_ble_eq_true rfl) (Nat.le_of_ble_eq_true rfl) (Nat.le_of_ble_eq_true rfl) (fun H locs hX hS => ?_)
  refine W.eq (g2 := F0 m 13 ls []) rfl ?_
  refine lv_aload_n hx hb d_MH_part_13 rfl (lv_at hl 0 rfl) ?_
  refine lv_iload_n hx hb d_MH_part_14 rfl (lv_at hl 1 rfl) ?_
  refine mh_callR (mh_sV (rest := []) (av := [.int (nI t)]) K0 hX r0 rfl e_MH_openDraft l_MH_65 k303 kp1 rfl rfl d_MH_part_15) (c_MH_openDraft r0 r10 ht hy1) K0 hOK hml hl.1 e_MH_openDraft hX hS d_MH_part_15 (Nat.le_of_ble_eq_true rfl) (Nat.le_of_ble_eq_true rfl) (Nat.le_of_ble_eq_true rfl) (Nat.le_of_ble_eq_true rfl) (Nat.le_of_ble_eq_true rfl) (fun H locs hX hS => ?_)
  refine W.eq (g2 := F0 m 18 ls [.ref y]) rfl ?_
  refine lv_astore (lv' := [(5, .ref y), (0, .ref x0), (1, .int (nI t)), (2, .int (nI low)), (3, .int (nI high)), (4, .int (nI q9))]) hx hb d_MH_part_18 hl (by decide) rfl (fun ls hl => ?_)
  refine lv_aload hx hb d_MH_part_20 (lv_at hl 0 rfl) ?_
  refine mh_get K0 hX j0 f_MH_91 rfl d_MH_part_22 ?_
  refine lv_bipush (v := nI 8) hx hb d_MH_part_25 (by decide) ?_
  refine mh_icmp_lt (tgt := 40) hx hb (by omega) (by omega) d_MH_part_27 (by decide) (fun z => absurd z (by omega)) (fun _ => ?_)
  exact mh_throw hl0 K0 hOK ex_IO (is := 96) (tx := "there would be nine parts") (by decide) k360 hlocks hT hml hl.1 hX hS (fun q => ⟨q, rfl, mh_set_eq _ _ _ _, hR2.x mh_x.of, mh_x.of.C⟩) (Nat.le_of_ble_eq_true rfl) (Nat.le_of_ble_eq_true rfl) (Nat.le_of_ble_eq_true rfl) (Nat.le_of_ble_eq_true rfl) (Nat.le_of_ble_eq_true rfl) (Nat.le_of_ble_eq_true rfl) d_MH_part_30 d_MH_part_33 d_MH_part_34 d_MH_part_36 d_MH_part_39
set_option maxHeartbeats 4000000 in
set_option maxRecDepth 100000 in
theorem c_MH_abort_0 {l : Launch} {b : Nat} {dC : Nat → ClassId} {dI : Nat → Nat → Nat} {dA : Nat → ClassId} {zs : Nat → Nat} {w : mh_w} {x0 : Nat} {g : st_G} (hR : rC dA zs w x0 g) (hG : sg_ok g) {t : Nat} (ht : t < 16) {x : st_I} (hd : sg_dr g t = some x) : mh_Met l b dC dI dA zs y_MH_abort (mh_rm 8 20 1000) [.ref x0, .int (nI t)] w (mh_V none (fun w' => rC dA zs w' x0 (g.1, g.2.1, va_up (sg_dr g) t none, g.2.2.2) ∧ mh_C w w')) := by
  have hR2 := hR
  obtain ⟨aL, aS, aD, aV, sv, dr, vw, lg, hP⟩ := hR
  have hP2 := hP
  obtain ⟨r0, rLg, r3, r10, r11, rs, rv, rd, rl⟩ := hP2
  obtain ⟨mc, ar, r1, rAr⟩ := rLg
  have hG2 := hG
  obtain ⟨gn, grs, gat, glo, gdr⟩ := hG2
  refine mh_ofW (cc := b_MH_abort) (n := 2) (ret := none) (hs := []) (by decide) k540 ?_
  intro p e s m below meth c hx hb hr hml hown hts hlocks hnm hT hOK hadm
  have K0 : mh_K0 p s m ([.ref x0, .int (nI t)]).toArray c "MeldHost" b_MH_abort dC dI dA := ⟨hx, hb, hown, hts, hOK.1, hOK.2.1⟩
  have hX := hOK.2.2.2.2
  have hb0 := hOK.2.2.2.1
  have hS : va_S (mh_A b) s.heap s.heap [] := va_S.rf
  have hl := lv_entry ([.ref x0, .int (nI t)]) (n := 2) (Nat.le_of_ble_eq_true rfl)
  rw [lg_entry_eq]
  generalize (lg_sl ([.ref x0, .int (nI t)]) ++ List.replicate (2 - (lg_sl ([.ref x0, .int (nI t)])).length) Slot.unset).toArray = ls at hl ⊢
  have hl : lv_has ls 2 [(0, .ref x0), (1, .int (nI t))] := hl
  obtain ⟨y, hy1, hy2⟩ := (rd t ht).some hd
  obtain ⟨d1, d3, d4, d5, d6, d7, j0⟩ := hy2.fst
  have ho := gdr t x ht hd
  have ho2 := ho
  obtain ⟨o1, o2, o3, o4, o5, o6, o7, o8⟩ := ho2
  obtain ⟨av, hv1, st, hv2, hv3⟩ := rv t ht
  obtain ⟨v1, v3, vn0⟩ := hv2.fst
  refine lv_iload_n hx hb d_MH_abort_0 rfl (lv_at hl 1 rfl) ?_
  refine lv_bipush (v := nI 16) hx hb d_MH_abort_1 (by decide) ?_
  refine mh_callR (mh_sS (rest := []) (av := [.int (nI t), .int (nI 16)]) K0 e_MH_needBelow l_MH_40 k144 rfl rfl d_MH_abort_3) (c_MH_needBelow ht (by decide)) K0 hOK hml hl.1 e_MH_needBelow hX hS d_MH_abort_3 (Nat.le_of_ble_eq_true rfl) (Nat.le_of_ble_eq_true rfl) (Nat.le_of_ble_eq_true rfl) (Nat.le_of_ble_eq_true rfl) (Nat.le_of_ble_eq_true rfl) (fun H locs hX hS => ?_)
  refine W.eq (g2 := F0 m 6 ls []) rfl ?_
  refine lv_aload_n hx hb d_MH_abort_6 rfl (lv_at hl 0 rfl) ?_
  refine lv_iload_n hx hb d_MH_abort_7 rfl (lv_at hl 1 rfl) ?_
  refine mh_callR (mh_sV (rest := []) (av := [.int (nI t)]) K0 hX r0 rfl e_MH_openDraft l_MH_65 k303 kp1 rfl rfl d_MH_abort_8) (c_MH_openDraft r0 r10 ht hy1) K0 hOK hml hl.1 e_MH_openDraft hX hS d_MH_abort_8 (Nat.le_of_ble_eq_true rfl) (Nat.le_of_ble_eq_true rfl) (Nat.le_of_ble_eq_true rfl) (Nat.le_of_ble_eq_true rfl) (Nat.le_of_ble_eq_true rfl) (fun H locs hX hS => ?_)
  refine W.eq (g2 := F0 m 11 ls [.ref y]) rfl ?_
  refine lv_pop hx hb d_MH_abort_11 rfl ?_
  refine lv_aload_n hx hb d_MH_abort_12 rfl (lv_at hl 0 rfl) ?_
  refine mh_get K0 hX r0 f_MH_25 rfl d_MH_abort_13 ?_
  refine lv_iload_n hx hb d_MH_abort_16 rfl (lv_at hl 1 rfl) ?_
  refine lv_null hx hb d_MH_abort_17 ?_
  refine mh_aastNN 5 rfl K0 hX hS r10 (by omega) (by omega) d_MH_abort_18 (fun H locs hX hS => ?_)
  have fs62 := mh_self hX
  exact mh_vret K0 hr hlocks hX hS (⟨rfl, ⟨aL, aS, aD, aV, sv, _, vw, lg, hP.tx (fun k i h0 h1 h2 => by rw [mh_set_ne _ _ _ _ (by omega)]) (fs62) (fun z hz => va_up_ne _ _ hz) (va_up_self _ _ _) ⟨av, hv1, st, hv2.to (fun z hz => by rw [mh_set_ne _ _ _ _ (by omega)]) (fun _ _ => rfl), fun x2 hx2 => by cases hx2⟩⟩, fun k i h1 h2 => by rw [mh_set_ne _ _ _ _ (by omega)]⟩) (Nat.le_of_ble_eq_true rfl) (Nat.le_of_ble_eq_true rfl) d_MH_abort_19
set_option maxHeartbeats 4000000 in
set_option maxRecDepth 100000 in
theorem c_MH_commit_00 {l : Launch} {b : Nat} {dC : Nat → ClassId} {dI : Nat → Nat → Nat} {dA : Nat → ClassId} {zs : Nat → Nat} {w : mh_w} {x0 : Nat} {g : st_G} (hR : rC dA zs w x0 g) (hG : sg_ok g) {t : Nat} (ht : t < 16) {x : st_I} (hd : sg_dr g t = some x) (h0 : iv_nw x = 0) : mh_Met l b dC dI dA zs y_MH_commit (mh_rm 8 20 1000) [.ref x0, .int (nI t)] w (mh_V (some (.int (-1))) (fun w' => rC dA zs w' x0 (g.1, g.2.1, va_up (sg_dr g) t none, g.2.2.2) ∧ mh_C w w')) := by
  have hR2 := hR
  obtain ⟨aL, aS, aD, aV, sv, dr, vw, lg, hP⟩ := hR
  have hP2 := hP
  obtain ⟨r0, rLg, r3, r10, r11, rs, rv, rd, rl⟩ := hP2
  obtain ⟨mc, ar, r1, rAr⟩ := rLg
  have hG2 := hG
  obtain ⟨gn, grs, gat, glo, gdr⟩ := hG2
  refine mh_ofW (cc := b_MH_commit) (n := 3) (ret := (some .int)) (hs := []) (by decide) k446 ?_
  intro p e s m below meth c hx hb hr hml hown hts hlocks hnm hT hOK hadm
  have K0 : mh_K0 p s m ([.ref x0, .int (nI t)]).toArray c "MeldHost" b_MH_commit dC dI dA := ⟨hx, hb, hown, hts, hOK.1, hOK.2.1⟩
  have hX := hOK.2.2.2.2
  have hb0 := hOK.2.2.2.1
  have hS : va_S (mh_A b) s.heap s.heap [] := va_S.rf
  have hl := lv_entry ([.ref x0, .int (nI t)]) (n := 3) (Nat.le_of_ble_eq_true rfl)
  rw [lg_entry_eq]
  generalize (lg_sl ([.ref x0, .int (nI t)]) ++ List.replicate (3 - (lg_sl ([.ref x0, .int (nI t)])).length) Slot.unset).toArray = ls at hl ⊢
  have hl : lv_has ls 3 [(0, .ref x0), (1, .int (nI t))] := hl
  obtain ⟨y, hy1, hy2⟩ := (rd t ht).some hd
  obtain ⟨d1, d3, d4, d5, d6, d7, j0⟩ := hy2.fst
  have ho := gdr t x ht hd
  have ho2 := ho
  obtain ⟨o1, o2, o3, o4, o5, o6, o7, o8⟩ := ho2
  obtain ⟨av, hv1, st, hv2, hv3⟩ := rv t ht
  obtain ⟨v1, v3, vn0⟩ := hv2.fst
  refine lv_iload_n hx hb d_MH_commit_0 rfl (lv_at hl 1 rfl) ?_
  refine lv_bipush (v := nI 16) hx hb d_MH_commit_1 (by decide) ?_
  refine mh_callR (mh_sS (rest := []) (av := [.int (nI t), .int (nI 16)]) K0 e_MH_needBelow l_MH_40 k144 rfl rfl d_MH_commit_3) (c_MH_needBelow ht (by decide)) K0 hOK hml hl.1 e_MH_needBelow hX hS d_MH_commit_3 (Nat.le_of_ble_eq_true rfl) (Nat.le_of_ble_eq_true rfl) (Nat.le_of_ble_eq_true rfl) (Nat.le_of_ble_eq_true rfl) (Nat.le_of_ble_eq_true rfl) (fun H locs hX hS => ?_)
  refine W.eq (g2 := F0 m 6 ls []) rfl ?_
  refine lv_aload_n hx hb d_MH_commit_6 rfl (lv_at hl 0 rfl) ?_
  refine lv_iload_n hx hb d_MH_commit_7 rfl (lv_at hl 1 rfl) ?_
  refine mh_callR (mh_sV (rest := []) (av := [.int (nI t)]) K0 hX r0 rfl e_MH_openDraft l_MH_65 k303 kp1 rfl rfl d_MH_commit_8) (c_MH_openDraft r0 r10 ht hy1) K0 hOK hml hl.1 e_MH_openDraft hX hS d_MH_commit_8 (Nat.le_of_ble_eq_true rfl) (Nat.le_of_ble_eq_true rfl) (Nat.le_of_ble_eq_true rfl) (Nat.le_of_ble_eq_true rfl) (Nat.le_of_ble_eq_true rfl) (fun H locs hX hS => ?_)
  refine W.eq (g2 := F0 m 11 ls [.ref y]) rfl ?_
  refine lv_astore_n (lv' := [(2, .ref y), (0, .ref x0), (1, .int (nI t))]) hx hb d_MH_commit_11 rfl hl (by decide) rfl (fun ls hl => ?_)
  refine lv_aload_n hx hb d_MH_commit_12 rfl (lv_at hl 0 rfl) ?_
  refine mh_get K0 hX j0 f_MH_106 rfl d_MH_commit_13 ?_
  refine mh_if_ne (tgt := 28) hx hb (by omega) d_MH_commit_16 (by decide) (fun z => absurd z (by omega)) (fun _ => ?_)
  refine lv_aload_n hx hb d_MH_commit_19 rfl (lv_at hl 1 rfl) ?_
  refine mh_get K0 hX r0 f_MH_25 rfl d_MH_commit_20 ?_
  refine lv_iload_n hx hb d_MH_commit_23 rfl (lv_at hl 2 rfl) ?_
  refine lv_null hx hb d_MH_commit_24 ?_
  refine mh_aastNN 5 rfl K0 hX hS r10 (by omega) (by omega) d_MH_commit_25 (fun H locs hX hS => ?_)
  have fs63 := mh_self hX
  refine lv_iconst (v := (-1)) hx hb d_MH_commit_26 (by decide) ?_
  exact mh_iret K0 hr rfl hlocks hX hS (⟨rfl, ⟨aL, aS, aD, aV, sv, _, vw, lg, hP.tx (fun k i h0 h1 h2 => by rw [mh_set_ne _ _ _ _ (by omega)]) (fs63) (fun z hz => va_up_ne _ _ hz) (va_up_self _ _ _) ⟨av, hv1, st, hv2.to (fun z hz => by rw [mh_set_ne _ _ _ _ (by omega)]) (fun _ _ => rfl), fun x2 hx2 => by cases hx2⟩⟩, fun k i h1 h2 => by rw [mh_set_ne _ _ _ _ (by omega)]⟩) (Nat.le_of_ble_eq_true rfl) (Nat.le_of_ble_eq_true rfl) d_MH_commit_27
set_option maxHeartbeats 4000000 in
set_option maxRecDepth 100000 in
theorem c_MH_commit_3 {l : Launch} {b : Nat} {dC : Nat → ClassId} {dI : Nat → Nat → Nat} {dA : Nat → ClassId} {zs : Nat → Nat} {w : mh_w} (hl0 : l.stackTraces = false) {x0 : Nat} {g : st_G} (hR : rC dA zs w x0 g) (hG : sg_ok g) {t : Nat} (ht : t < 16) {x : st_I} (hd : sg_dr g t = some x) (h0 : ¬ iv_nw x = 0) (hn : ¬ sg_n g < 400) : mh_Met l b dC dI dA zs y_MH_commit (mh_rm 8 20 1000) [.ref x0, .int (nI t)] w (mh_T 10 (fun w' => rC dA zs w' x0 g ∧ mh_C w w')) := by
  have hR2 := hR
  obtain ⟨aL, aS, aD, aV, sv, dr, vw, lg, hP⟩ := hR
  have hP2 := hP
  obtain ⟨r0, rLg, r3, r10, r11, rs, rv, rd, rl⟩ := hP2
  obtain ⟨mc, ar, r1, rAr⟩ := rLg
  have hG2 := hG
  obtain ⟨gn, grs, gat, glo, gdr⟩ := hG2
  refine mh_ofW (cc := b_MH_commit) (n := 3) (ret := (some .int)) (hs := []) (by decide) k446 ?_
  intro p e s m below meth c hx hb hr hml hown hts hlocks hnm hT hOK hadm
  have K0 : mh_K0 p s m ([.ref x0, .int (nI t)]).toArray c "MeldHost" b_MH_commit dC dI dA := ⟨hx, hb, hown, hts, hOK.1, hOK.2.1⟩
  have hX := hOK.2.2.2.2
  have hb0 := hOK.2.2.2.1
  have hS : va_S (mh_A b) s.heap s.heap [] := va_S.rf
  have hl := lv_entry ([.ref x0, .int (nI t)]) (n := 3) (Nat.le_of_ble_eq_true rfl)
  rw [lg_entry_eq]
  generalize (lg_sl ([.ref x0, .int (nI t)]) ++ List.replicate (3 - (lg_sl ([.ref x0, .int (nI t)])).length) Slot.unset).toArray = ls at hl ⊢
  have hl : lv_has ls 3 [(0, .ref x0), (1, .int (nI t))] := hl
  obtain ⟨y, hy1, hy2⟩ := (rd t ht).some hd
  obtain ⟨d1, d3, d4, d5, d6, d7, j0⟩ := hy2.fst
  have ho := gdr t x ht hd
  have ho2 := ho
  obtain ⟨o1, o2, o3, o4, o5, o6, o7, o8⟩ := ho2
  refine lv_iload_n hx hb d_MH_commit_0 rfl (lv_at hl 1 rfl) ?_
  refine lv_bipush (v := nI 16) hx hb d_MH_commit_1 (by decide) ?_
  refine mh_callR (mh_sS (rest := []) (av := [.int (nI t), .int (nI 16)]) K0 e_MH_needBelow l_MH_40 k144 rfl rfl d_MH_commit_3) (c_MH_needBelow ht (by decide)) K0 hOK hml hl.1 e_MH_needBelow hX hS d_MH_commit_3 (Nat.le_of_ble_eq_true rfl) (Nat.le_of_ble_eq_true rfl) (Nat.le_of_ble_eq_true rfl) (Nat.le_of_ble_eq_true rfl) (Nat.le_of_ble_eq_true rfl) (fun H locs hX hS => ?_)
  refine W.eq (g2 := F0 m 6 ls []) rfl ?_
  refine lv_aload_n hx hb d_MH_commit_6 rfl (lv_at hl 0 rfl) ?_
  refine lv_iload_n hx hb d_MH_commit_7 rfl (lv_at hl 1 rfl) ?_
  refine mh_callR (mh_sV (rest := []) (av := [.int (nI t)]) K0 hX r0 rfl e_MH_openDraft l_MH_65 k303 kp1 rfl rfl d_MH_commit_8) (c_MH_openDraft r0 r10 ht hy1) K0 hOK hml hl.1 e_MH_openDraft hX hS d_MH_commit_8 (Nat.le_of_ble_eq_true rfl) (Nat.le_of_ble_eq_true rfl) (Nat.le_of_ble_eq_true rfl) (Nat.le_of_ble_eq_true rfl) (Nat.le_of_ble_eq_true rfl) (fun H locs hX hS => ?_)
  refine W.eq (g2 := F0 m 11 ls [.ref y]) rfl ?_
  refine lv_astore_n (lv' := [(2, .ref y), (0, .ref x0), (1, .int (nI t))]) hx hb d_MH_commit_11 rfl hl (by decide) rfl (fun ls hl => ?_)
  refine lv_aload_n hx hb d_MH_commit_12 rfl (lv_at hl 0 rfl) ?_
  refine mh_get K0 hX j0 f_MH_106 rfl d_MH_commit_13 ?_
  refine mh_if_ne (tgt := 28) hx hb (by omega) d_MH_commit_16 (by decide) (fun _ => ?_) (fun z => absurd z (by omega))
  refine lv_aload_n hx hb d_MH_commit_28 rfl (lv_at hl 1 rfl) ?_
  refine mh_get K0 hX r0 f_MH_10 rfl d_MH_commit_29 ?_
  refine mh_callR (mh_sV (rest := []) (av := []) K0 hX r1 rfl e_AL_size l_MH_109 k448 k449 rfl rfl d_MH_commit_32) (c_AL_size r1) K0 hOK hml hl.1 e_AL_size hX hS d_MH_commit_32 (Nat.le_of_ble_eq_true rfl) (Nat.le_of_ble_eq_true rfl) (Nat.le_of_ble_eq_true rfl) (Nat.le_of_ble_eq_true rfl) (Nat.le_of_ble_eq_true rfl) (fun H locs hX hS => ?_)
  refine W.eq (g2 := F0 m 35 ls [.int (nI (sg_n g))]) rfl ?_
  refine lv_sipush (v := nI 400) hx hb d_MH_commit_35 (by decide) ?_
  refine mh_icmp_lt (tgt := 51) hx hb (by omega) (by omega) d_MH_commit_38 (by decide) (fun z => absurd z (by omega)) (fun _ => ?_)
  exact mh_throw hl0 K0 hOK ex_IO (is := 113) (tx := "the log is full") (by decide) k360 hlocks hT hml hl.1 hX hS (fun q => ⟨q, rfl, mh_set_eq _ _ _ _, hR2.x mh_x.of, mh_x.of.C⟩) (Nat.le_of_ble_eq_true rfl) (Nat.le_of_ble_eq_true rfl) (Nat.le_of_ble_eq_true rfl) (Nat.le_of_ble_eq_true rfl) (Nat.le_of_ble_eq_true rfl) (Nat.le_of_ble_eq_true rfl) d_MH_commit_41 d_MH_commit_44 d_MH_commit_45 d_MH_commit_47 d_MH_commit_50
set_option maxHeartbeats 4000000 in
set_option maxRecDepth 100000 in
theorem c_MH_state_0 {l : Launch} {b : Nat} {dC : Nat → ClassId} {dI : Nat → Nat → Nat} {dA : Nat → ClassId} {zs : Nat → Nat} {w : mh_w} {x0 : Nat} {g : st_G} (hR : rC dA zs w x0 g) (hG : sg_ok g) {u : Nat} (hu : u < 4) {key : Nat} (hk : key < 256) {v : Int64} (hv : (st_st (sg_lg g) (sg_at g u)) key = some v) : mh_Met l b dC dI dA zs y_MH_state (mh_rm 8 20 1000) [.ref x0, .int (nI u), .int (nI key)] w (mh_V (some (.long v)) (fun w' => rC dA zs w' x0 g ∧ mh_C w w')) := by
  have hR2 := hR
  obtain ⟨aL, aS, aD, aV, sv, dr, vw, lg, hP⟩ := hR
  have hP2 := hP
  obtain ⟨r0, rLg, r3, r10, r11, rs, rv, rd, rl⟩ := hP2
  obtain ⟨mc, ar, r1, rAr⟩ := rLg
  have hG2 := hG
  obtain ⟨gn, grs, gat, glo, gdr⟩ := hG2
  refine mh_ofW (cc := b_MH_state) (n := 3) (ret := (some .long)) (hs := []) (by decide) k592 ?_
  intro p e s m below meth c hx hb hr hml hown hts hlocks hnm hT hOK hadm
  have K0 : mh_K0 p s m ([.ref x0, .int (nI u), .int (nI key)]).toArray c "MeldHost" b_MH_state dC dI dA := ⟨hx, hb, hown, hts, hOK.1, hOK.2.1⟩
  have hX := hOK.2.2.2.2
  have hb0 := hOK.2.2.2.1
  have hS : va_S (mh_A b) s.heap s.heap [] := va_S.rf
  have hl := lv_entry ([.ref x0, .int (nI u), .int (nI key)]) (n := 3) (Nat.le_of_ble_eq_true rfl)
  rw [lg_entry_eq]
  generalize (lg_sl ([.ref x0, .int (nI u), .int (nI key)]) ++ List.replicate (3 - (lg_sl ([.ref x0, .int (nI u), .int (nI key)])).length) Slot.unset).toArray = ls at hl ⊢
  have hl : lv_has ls 3 [(0, .ref x0), (1, .int (nI u)), (2, .int (nI key))] := hl
  obtain ⟨au, hs1, hs2⟩ := rs u hu
  have hs3 := hs2
  obtain ⟨a5, a9, f9, s0, sN, s9, sf⟩ := hs2
  obtain ⟨n1, n3, sn0⟩ := sN.fst
  refine lv_iload_n hx hb d_MH_state_0 rfl (lv_at hl 1 rfl) ?_
  refine lv_iconst (v := nI 4) hx hb d_MH_state_1 (by decide) ?_
  refine mh_callR (mh_sS (rest := []) (av := [.int (nI u), .int (nI 4)]) K0 e_MH_needBelow l_MH_40 k144 rfl rfl d_MH_state_2) (c_MH_needBelow hu (by decide)) K0 hOK hml hl.1 e_MH_needBelow hX hS d_MH_state_2 (Nat.le_of_ble_eq_true rfl) (Nat.le_of_ble_eq_true rfl) (Nat.le_of_ble_eq_true rfl) (Nat.le_of_ble_eq_true rfl) (Nat.le_of_ble_eq_true rfl) (fun H locs hX hS => ?_)
  refine W.eq (g2 := F0 m 5 ls []) rfl ?_
  refine lv_iload_n hx hb d_MH_state_5 rfl (lv_at hl 2 rfl) ?_
  refine lv_sipush (v := nI 256) hx hb d_MH_state_6 (by decide) ?_
  refine mh_callR (mh_sS (rest := []) (av := [.int (nI key), .int (nI 256)]) K0 e_MH_needBelow l_MH_40 k144 rfl rfl d_MH_state_9) (c_MH_needBelow hk (by decide)) K0 hOK hml hl.1 e_MH_needBelow hX hS d_MH_state_9 (Nat.le_of_ble_eq_true rfl) (Nat.le_of_ble_eq_true rfl) (Nat.le_of_ble_eq_true rfl) (Nat.le_of_ble_eq_true rfl) (Nat.le_of_ble_eq_true rfl) (fun H locs hX hS => ?_)
  refine W.eq (g2 := F0 m 12 ls []) rfl ?_
  refine lv_aload_n hx hb d_MH_state_12 rfl (lv_at hl 0 rfl) ?_
  refine mh_get K0 hX r0 f_MH_18 rfl d_MH_state_13 ?_
  refine lv_iload_n hx hb d_MH_state_16 rfl (lv_at hl 1 rfl) ?_
  refine mh_aaldN 4 rfl K0 hX r3 (by omega) (by omega) (r := (some au)) (hs1) d_MH_state_17 ?_
  refine W.eq (g2 := F0 m 18 ls [.ref au]) rfl ?_
  refine mh_get K0 hX s0 f_MH_57 rfl d_MH_state_18 ?_
  refine lv_iload_n hx hb d_MH_state_21 rfl (lv_at hl 2 rfl) ?_
  refine mh_callR (mh_sS (rest := []) (av := [.ref a5, .int (nI key)]) K0 e_MH_numberIn l_MH_73 k323 rfl rfl d_MH_state_22) (c_MH_numberIn sN hk hv) K0 hOK hml hl.1 e_MH_numberIn hX hS d_MH_state_22 (Nat.le_of_ble_eq_true rfl) (Nat.le_of_ble_eq_true rfl) (Nat.le_of_ble_eq_true rfl) (Nat.le_of_ble_eq_true rfl) (Nat.le_of_ble_eq_true rfl) (fun H locs hX hS => ?_)
  refine W.eq (g2 := F0 m 25 ls [.long v]) rfl ?_
  exact mh_lret K0 hr hlocks hX hS (⟨rfl, hR2, fun _ _ _ _ => rfl⟩) (Nat.le_of_ble_eq_true rfl) (Nat.le_of_ble_eq_true rfl) d_MH_state_25
set_option maxHeartbeats 4000000 in
set_option maxRecDepth 100000 in
theorem c_MH_state_2 {l : Launch} {b : Nat} {dC : Nat → ClassId} {dI : Nat → Nat → Nat} {dA : Nat → ClassId} {zs : Nat → Nat} {w : mh_w} (hl0 : l.stackTraces = false) {x0 : Nat} {g : st_G} (hR : rC dA zs w x0 g) (hG : sg_ok g) {u : Nat} (hu : u < 4) {key : Nat} (hk : key < 256) (hv : (st_st (sg_lg g) (sg_at g u)) key = none) : mh_Met l b dC dI dA zs y_MH_state (mh_rm 8 20 1000) [.ref x0, .int (nI u), .int (nI key)] w (mh_T 11 (fun w' => rC dA zs w' x0 g ∧ mh_C w w')) := by
  have hR2 := hR
  obtain ⟨aL, aS, aD, aV, sv, dr, vw, lg, hP⟩ := hR
  have hP2 := hP
  obtain ⟨r0, rLg, r3, r10, r11, rs, rv, rd, rl⟩ := hP2
  obtain ⟨mc, ar, r1, rAr⟩ := rLg
  have hG2 := hG
  obtain ⟨gn, grs, gat, glo, gdr⟩ := hG2
  refine mh_ofW (cc := b_MH_state) (n := 3) (ret := (some .long)) (hs := []) (by decide) k592 ?_
  intro p e s m below meth c hx hb hr hml hown hts hlocks hnm hT hOK hadm
  have K0 : mh_K0 p s m ([.ref x0, .int (nI u), .int (nI key)]).toArray c "MeldHost" b_MH_state dC dI dA := ⟨hx, hb, hown, hts, hOK.1, hOK.2.1⟩
  have hX := hOK.2.2.2.2
  have hb0 := hOK.2.2.2.1
  have hS : va_S (mh_A b) s.heap s.heap [] := va_S.rf
  have hl := lv_entry ([.ref x0, .int (nI u), .int (nI key)]) (n := 3) (Nat.le_of_ble_eq_true rfl)
  rw [lg_entry_eq]
  generalize (lg_sl ([.ref x0, .int (nI u), .int (nI key)]) ++ List.replicate (3 - (lg_sl ([.ref x0, .int (nI u), .int (nI key)])).length) Slot.unset).toArray = ls at hl ⊢
  have hl : lv_has ls 3 [(0, .ref x0), (1, .int (nI u)), (2, .int (nI key))] := hl
  obtain ⟨au, hs1, hs2⟩ := rs u hu
  have hs3 := hs2
  obtain ⟨a5, a9, f9, s0, sN, s9, sf⟩ := hs2
  obtain ⟨n1, n3, sn0⟩ := sN.fst
  refine lv_iload_n hx hb d_MH_state_0 rfl (lv_at hl 1 rfl) ?_
  refine lv_iconst (v := nI 4) hx hb d_MH_state_1 (by decide) ?_
  refine mh_callR (mh_sS (rest := []) (av := [.int (nI u), .int (nI 4)]) K0 e_MH_needBelow l_MH_40 k144 rfl rfl d_MH_state_2) (c_MH_needBelow hu (by decide)) K0 hOK hml hl.1 e_MH_needBelow hX hS d_MH_state_2 (Nat.le_of_ble_eq_true rfl) (Nat.le_of_ble_eq_true rfl) (Nat.le_of_ble_eq_true rfl) (Nat.le_of_ble_eq_true rfl) (Nat.le_of_ble_eq_true rfl) (fun H locs hX hS => ?_)
  refine W.eq (g2 := F0 m 5 ls []) rfl ?_
  refine lv_iload_n hx hb d_MH_state_5 rfl (lv_at hl 2 rfl) ?_
  refine lv_sipush (v := nI 256) hx hb d_MH_state_6 (by decide) ?_
  refine mh_callR (mh_sS (rest := []) (av := [.int (nI key), .int (nI 256)]) K0 e_MH_needBelow l_MH_40 k144 rfl rfl d_MH_state_9) (c_MH_needBelow hk (by decide)) K0 hOK hml hl.1 e_MH_needBelow hX hS d_MH_state_9 (Nat.le_of_ble_eq_true rfl) (Nat.le_of_ble_eq_true rfl) (Nat.le_of_ble_eq_true rfl) (Nat.le_of_ble_eq_true rfl) (Nat.le_of_ble_eq_true rfl) (fun H locs hX hS => ?_)
  refine W.eq (g2 := F0 m 12 ls []) rfl ?_
  refine lv_aload_n hx hb d_MH_state_12 rfl (lv_at hl 0 rfl) ?_
  refine mh_get K0 hX r0 f_MH_18 rfl d_MH_state_13 ?_
  refine lv_iload_n hx hb d_MH_state_16 rfl (lv_at hl 1 rfl) ?_
  refine mh_aaldN 4 rfl K0 hX r3 (by omega) (by omega) (r := (some au)) (hs1) d_MH_state_17 ?_
  refine W.eq (g2 := F0 m 18 ls [.ref au]) rfl ?_
  refine mh_get K0 hX s0 f_MH_57 rfl d_MH_state_18 ?_
  refine lv_iload_n hx hb d_MH_state_21 rfl (lv_at hl 2 rfl) ?_
  refine mh_callT (mh_sS (rest := []) (av := [.ref a5, .int (nI key)]) K0 e_MH_numberIn l_MH_73 k323 rfl rfl d_MH_state_22) (c_MH_numberIn_no hl0 sN hk hv) K0 hOK hml hl.1 e_MH_numberIn hX hS d_MH_state_22 (Nat.le_of_ble_eq_true rfl) (Nat.le_of_ble_eq_true rfl) (Nat.le_of_ble_eq_true rfl) (Nat.le_of_ble_eq_true rfl) (Nat.le_of_ble_eq_true rfl) (fun q w1 H locs hq hw hX hS => ?_)
  exact mh_leave hlocks hT hX hS (⟨q, rfl, hq, hR2.x hw, hw.C⟩) (Nat.le_of_ble_eq_true rfl) (Nat.le_of_ble_eq_true rfl)
set_option maxHeartbeats 4000000 in
set_option maxRecDepth 100000 in
theorem c_MH_look_0 {l : Launch} {b : Nat} {dC : Nat → ClassId} {dI : Nat → Nat → Nat} {dA : Nat → ClassId} {zs : Nat → Nat} {w : mh_w} {x0 : Nat} {g : st_G} (hR : rC dA zs w x0 g) (hG : sg_ok g) {u : Nat} (hu : u < 4) {low high q9 : Nat} (h1 : low ≤ high) (h2 : high < 256) (h3 : q9 < 4) : mh_Met l b dC dI dA zs y_MH_look (mh_rm 8 20 1000) [.ref x0, .int (nI u), .int (nI low), .int (nI high), .int (nI q9)] w (mh_V (some (.long (tl_a (st_st (sg_lg g) (sg_at g u)) low (high + 1 - low) (nI q9)))) (fun w' => rC dA zs w' x0 g ∧ mh_C w w')) := by
  have hR2 := hR
  obtain ⟨aL, aS, aD, aV, sv, dr, vw, lg, hP⟩ := hR
  have hP2 := hP
  obtain ⟨r0, rLg, r3, r10, r11, rs, rv, rd, rl⟩ := hP2
  obtain ⟨mc, ar, r1, rAr⟩ := rLg
  have hG2 := hG
  obtain ⟨gn, grs, gat, glo, gdr⟩ := hG2
  refine mh_ofW (cc := b_MH_look) (n := 5) (ret := (some .long)) (hs := []) (by decide) k599 ?_
  intro p e s m below meth c hx hb hr hml hown hts hlocks hnm hT hOK hadm
  have K0 : mh_K0 p s m ([.ref x0, .int (nI u), .int (nI low), .int (nI high), .int (nI q9)]).toArray c "MeldHost" b_MH_look dC dI dA := ⟨hx, hb, hown, hts, hOK.1, hOK.2.1⟩
  have hX := hOK.2.2.2.2
  have hb0 := hOK.2.2.2.1
  have hS : va_S (mh_A b) s.heap s.heap [] := va_S.rf
  have hl := lv_entry ([.ref x0, .int (nI u), .int (nI low), .int (nI high), .int (nI q9)]) (n := 5) (Nat.le_of_ble_eq_true rfl)
  rw [lg_entry_eq]
  generalize (lg_sl ([.ref x0, .int (nI u), .int (nI low), .int (nI high), .int (nI q9)]) ++ List.replicate (5 - (lg_sl ([.ref x0, .int (nI u), .int (nI low), .int (nI high), .int (nI q9)])).length) Slot.unset).toArray = ls at hl ⊢
  have hl : lv_has ls 5 [(0, .ref x0), (1, .int (nI u)), (2, .int (nI low)), (3, .int (nI high)), (4, .int (nI q9))] := hl
  obtain ⟨au, hs1, hs2⟩ := rs u hu
  have hs3 := hs2
  obtain ⟨a5, a9, f9, s0, sN, s9, sf⟩ := hs2
  obtain ⟨n1, n3, sn0⟩ := sN.fst
  refine lv_iload_n hx hb d_MH_look_0 rfl (lv_at hl 1 rfl) ?_
  refine lv_iconst (v := nI 4) hx hb d_MH_look_1 (by decide) ?_
  refine mh_callR (mh_sS (rest := []) (av := [.int (nI u), .int (nI 4)]) K0 e_MH_needBelow l_MH_40 k144 rfl rfl d_MH_look_2) (c_MH_needBelow hu (by decide)) K0 hOK hml hl.1 e_MH_needBelow hX hS d_MH_look_2 (Nat.le_of_ble_eq_true rfl) (Nat.le_of_ble_eq_true rfl) (Nat.le_of_ble_eq_true rfl) (Nat.le_of_ble_eq_true rfl) (Nat.le_of_ble_eq_true rfl) (fun H locs hX hS => ?_)
  refine W.eq (g2 := F0 m 5 ls []) rfl ?_
  refine lv_iload_n hx hb d_MH_look_5 rfl (lv_at hl 2 rfl) ?_
  refine lv_iload_n hx hb d_MH_look_6 rfl (lv_at hl 3 rfl) ?_
  refine lv_iload hx hb d_MH_look_7 (lv_at hl 4 rfl) ?_
  refine mh_callR (mh_sS (rest := []) (av := [.int (nI low), .int (nI high), .int (nI q9)]) K0 e_MH_needPart l_MH_88 k412 rfl rfl d_MH_look_9) (c_MH_needPart h1 h2 h3) K0 hOK hml hl.1 e_MH_needPart hX hS d_MH_look_9 (Nat.le_of_ble_eq_true rfl) (Nat.le_of_ble_eq_true rfl) (Nat.le_of_ble_eq_true rfl) (Nat.le_of_ble_eq_true rfl) (Nat.le_of_ble_eq_true rfl) (fun H locs hX hS => ?_)
  refine W.eq (g2 := F0 m 12 ls []) rfl ?_
  refine lv_aload_n hx hb d_MH_look_12 rfl (lv_at hl 0 rfl) ?_
  refine mh_get K0 hX r0 f_MH_18 rfl d_MH_look_13 ?_
  refine lv_iload_n hx hb d_MH_look_16 rfl (lv_at hl 1 rfl) ?_
  refine mh_aaldN 4 rfl K0 hX r3 (by omega) (by omega) (r := (some au)) (hs1) d_MH_look_17 ?_
  refine W.eq (g2 := F0 m 18 ls [.ref au]) rfl ?_
  refine mh_get K0 hX s0 f_MH_57 rfl d_MH_look_18 ?_
  refine lv_iload_n hx hb d_MH_look_21 rfl (lv_at hl 2 rfl) ?_
  refine lv_iload_n hx hb d_MH_look_22 rfl (lv_at hl 3 rfl) ?_
  refine lv_iload hx hb d_MH_look_23 (lv_at hl 4 rfl) ?_
  refine mh_callR (mh_sV (rest := []) (av := [.int (nI low), .int (nI high), .int (nI q9)]) K0 hX sn0 rfl e_NU_tell l_MH_102 k420 k421 rfl rfl d_MH_look_25) (c_NU_tell sN h1 h2 h3) K0 hOK hml hl.1 e_NU_tell hX hS d_MH_look_25 (Nat.le_of_ble_eq_true rfl) (Nat.le_of_ble_eq_true rfl) (Nat.le_of_ble_eq_true rfl) (Nat.le_of_ble_eq_true rfl) (Nat.le_of_ble_eq_true rfl) (fun H locs hX hS => ?_)
  refine W.eq (g2 := F0 m 28 ls [.long (tl_a (st_st (sg_lg g) (sg_at g u)) low (high + 1 - low) (nI q9))]) rfl ?_
  exact mh_lret K0 hr hlocks hX hS (⟨rfl, hR2, fun _ _ _ _ => rfl⟩) (Nat.le_of_ble_eq_true rfl) (Nat.le_of_ble_eq_true rfl) d_MH_look_28
set_option maxHeartbeats 4000000 in
set_option maxRecDepth 100000 in
theorem c_MH_verdict_0 {l : Launch} {b : Nat} {dC : Nat → ClassId} {dI : Nat → Nat → Nat} {dA : Nat → ClassId} {zs : Nat → Nat} {w : mh_w} {x0 : Nat} {g : st_G} (hR : rC dA zs w x0 g) (hG : sg_ok g) {u : Nat} (hu : u < 4) {j : Nat} (hj : j < sg_n g) : mh_Met l b dC dI dA zs y_MH_verdict (mh_rm 8 20 1000) [.ref x0, .int (nI u), .int (nI j)] w (mh_V (some (.int (if sg_at g u ≤ j then 0 else if iv_gd (sg_lg g j) = true then 1 else 2))) (fun w' => rC dA zs w' x0 g ∧ mh_C w w')) := by
  have hR2 := hR
  obtain ⟨aL, aS, aD, aV, sv, dr, vw, lg, hP⟩ := hR
  have hP2 := hP
  obtain ⟨r0, rLg, r3, r10, r11, rs, rv, rd, rl⟩ := hP2
  obtain ⟨mc, ar, r1, rAr⟩ := rLg
  have hG2 := hG
  obtain ⟨gn, grs, gat, glo, gdr⟩ := hG2
  refine mh_ofW (cc := b_MH_verdict) (n := 4) (ret := (some .int)) (hs := []) (by decide) k606 ?_
  intro p e s m below meth c hx hb hr hml hown hts hlocks hnm hT hOK hadm
  have K0 : mh_K0 p s m ([.ref x0, .int (nI u), .int (nI j)]).toArray c "MeldHost" b_MH_verdict dC dI dA := ⟨hx, hb, hown, hts, hOK.1, hOK.2.1⟩
  have hX := hOK.2.2.2.2
  have hb0 := hOK.2.2.2.1
  have hS : va_S (mh_A b) s.heap s.heap [] := va_S.rf
  have hl := lv_entry ([.ref x0, .int (nI u), .int (nI j)]) (n := 4) (Nat.le_of_ble_eq_true rfl)
  rw [lg_entry_eq]
  generalize (lg_sl ([.ref x0, .int (nI u), .int (nI j)]) ++ List.replicate (4 - (lg_sl ([.ref x0, .int (nI u), .int (nI j)])).length) Slot.unset).toArray = ls at hl ⊢
  have hl : lv_has ls 4 [(0, .ref x0), (1, .int (nI u)), (2, .int (nI j))] := hl
  obtain ⟨au, hs1, hs2⟩ := rs u hu
  have hs3 := hs2
  obtain ⟨a5, a9, f9, s0, sN, s9, sf⟩ := hs2
  obtain ⟨n1, n3, sn0⟩ := sN.fst
  obtain ⟨yy, hy1, hy2⟩ := rl j hj
  obtain ⟨ix, cap, ga, q1, q2, q3, q4⟩ := rAr.in hj
  obtain ⟨d1, d3, d4, d5, d6, d7, j0⟩ := hy2.fst
  have hat := gat u hu
  refine lv_iload_n hx hb d_MH_verdict_0 rfl (lv_at hl 1 rfl) ?_
  refine lv_iconst (v := nI 4) hx hb d_MH_verdict_1 (by decide) ?_
  refine mh_callR (mh_sS (rest := []) (av := [.int (nI u), .int (nI 4)]) K0 e_MH_needBelow l_MH_40 k144 rfl rfl d_MH_verdict_2) (c_MH_needBelow hu (by decide)) K0 hOK hml hl.1 e_MH_needBelow hX hS d_MH_verdict_2 (Nat.le_of_ble_eq_true rfl) (Nat.le_of_ble_eq_true rfl) (Nat.le_of_ble_eq_true rfl) (Nat.le_of_ble_eq_true rfl) (Nat.le_of_ble_eq_true rfl) (fun H locs hX hS => ?_)
  refine W.eq (g2 := F0 m 5 ls []) rfl ?_
  refine lv_aload_n hx hb d_MH_verdict_5 rfl (lv_at hl 0 rfl) ?_
  refine lv_iload_n hx hb d_MH_verdict_6 rfl (lv_at hl 2 rfl) ?_
  refine mh_callR (mh_sV (rest := []) (av := [.int (nI j)]) K0 hX r0 rfl e_MH_logged l_MH_149 k609 kp13 rfl rfl d_MH_verdict_7) (c_MH_logged r0 r1 (by omega) q3 q2 q1 hj (q4.trans hy1) j0) K0 hOK hml hl.1 e_MH_logged hX hS d_MH_verdict_7 (Nat.le_of_ble_eq_true rfl) (Nat.le_of_ble_eq_true rfl) (Nat.le_of_ble_eq_true rfl) (Nat.le_of_ble_eq_true rfl) (Nat.le_of_ble_eq_true rfl) (fun H locs hX hS => ?_)
  refine W.eq (g2 := F0 m 10 ls [.ref yy]) rfl ?_
  refine lv_astore_n (lv' := [(3, .ref yy), (0, .ref x0), (1, .int (nI u)), (2, .int (nI j))]) hx hb d_MH_verdict_10 rfl hl (by decide) rfl (fun ls hl => ?_)
  refine lv_iload_n hx hb d_MH_verdict_11 rfl (lv_at hl 3 rfl) ?_
  refine lv_aload_n hx hb d_MH_verdict_12 rfl (lv_at hl 1 rfl) ?_
  refine mh_get K0 hX r0 f_MH_18 rfl d_MH_verdict_13 ?_
  refine lv_iload_n hx hb d_MH_verdict_16 rfl (lv_at hl 2 rfl) ?_
  refine mh_aaldN 4 rfl K0 hX r3 (by omega) (by omega) (r := (some au)) (hs1) d_MH_verdict_17 ?_
  refine W.eq (g2 := F0 m 18 ls [.ref au, .int (nI j)]) rfl ?_
  refine mh_get K0 hX s0 f_MH_51 rfl d_MH_verdict_18 ?_
  refine mh_icmp_lt (tgt := 26) hx hb (by omega) (by omega) d_MH_verdict_21 (by decide) (fun ct => ?_) (fun cf => ?_)
  · skip
    refine lv_aload_n hx hb d_MH_verdict_26 rfl (lv_at hl 0 rfl) ?_
    refine mh_get K0 hX j0 f_MH_119 rfl d_MH_verdict_27 ?_
    refine mh_ifeqB (tgt := 37) hx hb d_MH_verdict_30 (by decide) (fun c2 => ?_) (fun c2 => ?_)
    · skip
      refine lv_iconst (v := nI 2) hx hb d_MH_verdict_37 (by decide) ?_
      exact mh_iret K0 hr rfl hlocks hX hS (⟨by rw [if_neg (by omega), if_neg (by rw [c2]; decide)]; rfl, hR2, fun _ _ _ _ => rfl⟩) (Nat.le_of_ble_eq_true rfl) (Nat.le_of_ble_eq_true rfl) d_MH_verdict_38
    · skip
      refine lv_iconst (v := nI 1) hx hb d_MH_verdict_33 (by decide) ?_
      refine lv_goto (tgt := 38) hx hb d_MH_verdict_34 (by decide) ?_
      exact mh_iret K0 hr rfl hlocks hX hS (⟨by rw [if_neg (by omega), if_pos c2]; rfl, hR2, fun _ _ _ _ => rfl⟩) (Nat.le_of_ble_eq_true rfl) (Nat.le_of_ble_eq_true rfl) d_MH_verdict_38
  · skip
    refine lv_iconst (v := nI 0) hx hb d_MH_verdict_24 (by decide) ?_
    exact mh_iret K0 hr rfl hlocks hX hS (⟨by rw [if_pos cf]; rfl, hR2, fun _ _ _ _ => rfl⟩) (Nat.le_of_ble_eq_true rfl) (Nat.le_of_ble_eq_true rfl) d_MH_verdict_25
set_option maxHeartbeats 4000000 in
set_option maxRecDepth 100000 in
theorem c_MH_verdict_2 {l : Launch} {b : Nat} {dC : Nat → ClassId} {dI : Nat → Nat → Nat} {dA : Nat → ClassId} {zs : Nat → Nat} {w : mh_w} (hl0 : l.stackTraces = false) {x0 : Nat} {g : st_G} (hR : rC dA zs w x0 g) (hG : sg_ok g) {u : Nat} (hu : u < 4) {v : Int32} (hv : st_in v (sg_n g) = false) : mh_Met l b dC dI dA zs y_MH_verdict (mh_rm 8 20 1000) [.ref x0, .int (nI u), .int v] w (mh_T 10 (fun w' => rC dA zs w' x0 g ∧ mh_C w w')) := by
  have hR2 := hR
  obtain ⟨aL, aS, aD, aV, sv, dr, vw, lg, hP⟩ := hR
  have hP2 := hP
  obtain ⟨r0, rLg, r3, r10, r11, rs, rv, rd, rl⟩ := hP2
  obtain ⟨mc, ar, r1, rAr⟩ := rLg
  have hG2 := hG
  obtain ⟨gn, grs, gat, glo, gdr⟩ := hG2
  refine mh_ofW (cc := b_MH_verdict) (n := 4) (ret := (some .int)) (hs := []) (by decide) k606 ?_
  intro p e s m below meth c hx hb hr hml hown hts hlocks hnm hT hOK hadm
  have K0 : mh_K0 p s m ([.ref x0, .int (nI u), .int v]).toArray c "MeldHost" b_MH_verdict dC dI dA := ⟨hx, hb, hown, hts, hOK.1, hOK.2.1⟩
  have hX := hOK.2.2.2.2
  have hb0 := hOK.2.2.2.1
  have hS : va_S (mh_A b) s.heap s.heap [] := va_S.rf
  have hl := lv_entry ([.ref x0, .int (nI u), .int v]) (n := 4) (Nat.le_of_ble_eq_true rfl)
  rw [lg_entry_eq]
  generalize (lg_sl ([.ref x0, .int (nI u), .int v]) ++ List.replicate (4 - (lg_sl ([.ref x0, .int (nI u), .int v])).length) Slot.unset).toArray = ls at hl ⊢
  have hl : lv_has ls 4 [(0, .ref x0), (1, .int (nI u)), (2, .int v)] := hl
  refine lv_iload_n hx hb d_MH_verdict_0 rfl (lv_at hl 1 rfl) ?_
  refine lv_iconst (v := nI 4) hx hb d_MH_verdict_1 (by decide) ?_
  refine mh_callR (mh_sS (rest := []) (av := [.int (nI u), .int (nI 4)]) K0 e_MH_needBelow l_MH_40 k144 rfl rfl d_MH_verdict_2) (c_MH_needBelow hu (by decide)) K0 hOK hml hl.1 e_MH_needBelow hX hS d_MH_verdict_2 (Nat.le_of_ble_eq_true rfl) (Nat.le_of_ble_eq_true rfl) (Nat.le_of_ble_eq_true rfl) (Nat.le_of_ble_eq_true rfl) (Nat.le_of_ble_eq_true rfl) (fun H locs hX hS => ?_)
  refine W.eq (g2 := F0 m 5 ls []) rfl ?_
  refine lv_aload_n hx hb d_MH_verdict_5 rfl (lv_at hl 0 rfl) ?_
  refine lv_iload_n hx hb d_MH_verdict_6 rfl (lv_at hl 2 rfl) ?_
  refine mh_callT (mh_sV (rest := []) (av := [.int v]) K0 hX r0 rfl e_MH_logged l_MH_149 k609 kp13 rfl rfl d_MH_verdict_7) (c_MH_logged_no hl0 r0 r1 (by omega) hv) K0 hOK hml hl.1 e_MH_logged hX hS d_MH_verdict_7 (Nat.le_of_ble_eq_true rfl) (Nat.le_of_ble_eq_true rfl) (Nat.le_of_ble_eq_true rfl) (Nat.le_of_ble_eq_true rfl) (Nat.le_of_ble_eq_true rfl) (fun q w1 H locs hq hw hX hS => ?_)
  exact mh_leave hlocks hT hX hS (⟨q, rfl, hq, hR2.x hw, hw.C⟩) (Nat.le_of_ble_eq_true rfl) (Nat.le_of_ble_eq_true rfl)
set_option maxHeartbeats 4000000 in
set_option maxRecDepth 100000 in
theorem c_MH_intention_0 {l : Launch} {b : Nat} {dC : Nat → ClassId} {dI : Nat → Nat → Nat} {dA : Nat → ClassId} {zs : Nat → Nat} {w : mh_w} {x0 : Nat} {g : st_G} (hR : rC dA zs w x0 g) (hG : sg_ok g) {j : Nat} (hj : j < sg_n g) {q9 : Nat} (h3 : q9 < 6) : mh_Met l b dC dI dA zs y_MH_intention (mh_rm 8 20 1000) [.ref x0, .int (nI j), .int (nI q9)] w (mh_V (some (.int (nI (sp_tell (sg_lg g j) (nI q9))))) (fun w' => rC dA zs w' x0 g ∧ mh_C w w')) := by
  have hR2 := hR
  obtain ⟨aL, aS, aD, aV, sv, dr, vw, lg, hP⟩ := hR
  have hP2 := hP
  obtain ⟨r0, rLg, r3, r10, r11, rs, rv, rd, rl⟩ := hP2
  obtain ⟨mc, ar, r1, rAr⟩ := rLg
  have hG2 := hG
  obtain ⟨gn, grs, gat, glo, gdr⟩ := hG2
  refine mh_ofW (cc := b_MH_intention) (n := 3) (ret := (some .int)) (hs := []) (by decide) k618 ?_
  intro p e s m below meth c hx hb hr hml hown hts hlocks hnm hT hOK hadm
  have K0 : mh_K0 p s m ([.ref x0, .int (nI j), .int (nI q9)]).toArray c "MeldHost" b_MH_intention dC dI dA := ⟨hx, hb, hown, hts, hOK.1, hOK.2.1⟩
  have hX := hOK.2.2.2.2
  have hb0 := hOK.2.2.2.1
  have hS : va_S (mh_A b) s.heap s.heap [] := va_S.rf
  have hl := lv_entry ([.ref x0, .int (nI j), .int (nI q9)]) (n := 3) (Nat.le_of_ble_eq_true rfl)
  rw [lg_entry_eq]
  generalize (lg_sl ([.ref x0, .int (nI j), .int (nI q9)]) ++ List.replicate (3 - (lg_sl ([.ref x0, .int (nI j), .int (nI q9)])).length) Slot.unset).toArray = ls at hl ⊢
  have hl : lv_has ls 3 [(0, .ref x0), (1, .int (nI j)), (2, .int (nI q9))] := hl
  obtain ⟨yy, hy1, hy2⟩ := rl j hj
  obtain ⟨ix, cap, ga, q1, q2, q3, q4⟩ := rAr.in hj
  obtain ⟨d1, d3, d4, d5, d6, d7, j0⟩ := hy2.fst
  refine lv_iload_n hx hb d_MH_intention_0 rfl (lv_at hl 2 rfl) ?_
  refine lv_bipush (v := nI 6) hx hb d_MH_intention_1 (by decide) ?_
  refine mh_callR (mh_sS (rest := []) (av := [.int (nI q9), .int (nI 6)]) K0 e_MH_needBelow l_MH_40 k144 rfl rfl d_MH_intention_3) (c_MH_needBelow h3 (by decide)) K0 hOK hml hl.1 e_MH_needBelow hX hS d_MH_intention_3 (Nat.le_of_ble_eq_true rfl) (Nat.le_of_ble_eq_true rfl) (Nat.le_of_ble_eq_true rfl) (Nat.le_of_ble_eq_true rfl) (Nat.le_of_ble_eq_true rfl) (fun H locs hX hS => ?_)
  refine W.eq (g2 := F0 m 6 ls []) rfl ?_
  refine lv_aload_n hx hb d_MH_intention_6 rfl (lv_at hl 0 rfl) ?_
  refine lv_iload_n hx hb d_MH_intention_7 rfl (lv_at hl 1 rfl) ?_
  refine mh_callR (mh_sV (rest := []) (av := [.int (nI j)]) K0 hX r0 rfl e_MH_logged l_MH_149 k609 kp13 rfl rfl d_MH_intention_8) (c_MH_logged r0 r1 (by omega) q3 q2 q1 hj (q4.trans hy1) j0) K0 hOK hml hl.1 e_MH_logged hX hS d_MH_intention_8 (Nat.le_of_ble_eq_true rfl) (Nat.le_of_ble_eq_true rfl) (Nat.le_of_ble_eq_true rfl) (Nat.le_of_ble_eq_true rfl) (Nat.le_of_ble_eq_true rfl) (fun H locs hX hS => ?_)
  refine W.eq (g2 := F0 m 11 ls [.ref yy]) rfl ?_
  refine lv_iload_n hx hb d_MH_intention_11 rfl (lv_at hl 2 rfl) ?_
  refine mh_callR (mh_sV (rest := []) (av := [.int (nI q9)]) K0 hX j0 rfl e_IN_tell l_MH_152 k620 k621 rfl rfl d_MH_intention_12) (c_IN_tell hy2 (glo j hj) h3) K0 hOK hml hl.1 e_IN_tell hX hS d_MH_intention_12 (Nat.le_of_ble_eq_true rfl) (Nat.le_of_ble_eq_true rfl) (Nat.le_of_ble_eq_true rfl) (Nat.le_of_ble_eq_true rfl) (Nat.le_of_ble_eq_true rfl) (fun H locs hX hS => ?_)
  refine W.eq (g2 := F0 m 15 ls [.int (nI (sp_tell (sg_lg g j) (nI q9)))]) rfl ?_
  exact mh_iret K0 hr rfl hlocks hX hS (⟨rfl, hR2, fun _ _ _ _ => rfl⟩) (Nat.le_of_ble_eq_true rfl) (Nat.le_of_ble_eq_true rfl) d_MH_intention_15
set_option maxHeartbeats 4000000 in
set_option maxRecDepth 100000 in
theorem c_MH_intention_2 {l : Launch} {b : Nat} {dC : Nat → ClassId} {dI : Nat → Nat → Nat} {dA : Nat → ClassId} {zs : Nat → Nat} {w : mh_w} (hl0 : l.stackTraces = false) {x0 : Nat} {g : st_G} (hR : rC dA zs w x0 g) (hG : sg_ok g) {q9 : Nat} (h3 : q9 < 6) {v : Int32} (hv : st_in v (sg_n g) = false) : mh_Met l b dC dI dA zs y_MH_intention (mh_rm 8 20 1000) [.ref x0, .int v, .int (nI q9)] w (mh_T 10 (fun w' => rC dA zs w' x0 g ∧ mh_C w w')) := by
  have hR2 := hR
  obtain ⟨aL, aS, aD, aV, sv, dr, vw, lg, hP⟩ := hR
  have hP2 := hP
  obtain ⟨r0, rLg, r3, r10, r11, rs, rv, rd, rl⟩ := hP2
  obtain ⟨mc, ar, r1, rAr⟩ := rLg
  have hG2 := hG
  obtain ⟨gn, grs, gat, glo, gdr⟩ := hG2
  refine mh_ofW (cc := b_MH_intention) (n := 3) (ret := (some .int)) (hs := []) (by decide) k618 ?_
  intro p e s m below meth c hx hb hr hml hown hts hlocks hnm hT hOK hadm
  have K0 : mh_K0 p s m ([.ref x0, .int v, .int (nI q9)]).toArray c "MeldHost" b_MH_intention dC dI dA := ⟨hx, hb, hown, hts, hOK.1, hOK.2.1⟩
  have hX := hOK.2.2.2.2
  have hb0 := hOK.2.2.2.1
  have hS : va_S (mh_A b) s.heap s.heap [] := va_S.rf
  have hl := lv_entry ([.ref x0, .int v, .int (nI q9)]) (n := 3) (Nat.le_of_ble_eq_true rfl)
  rw [lg_entry_eq]
  generalize (lg_sl ([.ref x0, .int v, .int (nI q9)]) ++ List.replicate (3 - (lg_sl ([.ref x0, .int v, .int (nI q9)])).length) Slot.unset).toArray = ls at hl ⊢
  have hl : lv_has ls 3 [(0, .ref x0), (1, .int v), (2, .int (nI q9))] := hl
  refine lv_iload_n hx hb d_MH_intention_0 rfl (lv_at hl 2 rfl) ?_
  refine lv_bipush (v := nI 6) hx hb d_MH_intention_1 (by decide) ?_
  refine mh_callR (mh_sS (rest := []) (av := [.int (nI q9), .int (nI 6)]) K0 e_MH_needBelow l_MH_40 k144 rfl rfl d_MH_intention_3) (c_MH_needBelow h3 (by decide)) K0 hOK hml hl.1 e_MH_needBelow hX hS d_MH_intention_3 (Nat.le_of_ble_eq_true rfl) (Nat.le_of_ble_eq_true rfl) (Nat.le_of_ble_eq_true rfl) (Nat.le_of_ble_eq_true rfl) (Nat.le_of_ble_eq_true rfl) (fun H locs hX hS => ?_)
  refine W.eq (g2 := F0 m 6 ls []) rfl ?_
  refine lv_aload_n hx hb d_MH_intention_6 rfl (lv_at hl 0 rfl) ?_
  refine lv_iload_n hx hb d_MH_intention_7 rfl (lv_at hl 1 rfl) ?_
  refine mh_callT (mh_sV (rest := []) (av := [.int v]) K0 hX r0 rfl e_MH_logged l_MH_149 k609 kp13 rfl rfl d_MH_intention_8) (c_MH_logged_no hl0 r0 r1 (by omega) hv) K0 hOK hml hl.1 e_MH_logged hX hS d_MH_intention_8 (Nat.le_of_ble_eq_true rfl) (Nat.le_of_ble_eq_true rfl) (Nat.le_of_ble_eq_true rfl) (Nat.le_of_ble_eq_true rfl) (Nat.le_of_ble_eq_true rfl) (fun q w1 H locs hq hw hX hS => ?_)
  exact mh_leave hlocks hT hX hS (⟨q, rfl, hq, hR2.x hw, hw.C⟩) (Nat.le_of_ble_eq_true rfl) (Nat.le_of_ble_eq_true rfl)
set_option maxHeartbeats 4000000 in
set_option maxRecDepth 100000 in
theorem c_MH_count_0 {l : Launch} {b : Nat} {dC : Nat → ClassId} {dI : Nat → Nat → Nat} {dA : Nat → ClassId} {zs : Nat → Nat} {w : mh_w} {x0 : Nat} {g : st_G} (hR : rC dA zs w x0 g) (hG : sg_ok g) {v1 v2 : Int32} : mh_Met l b dC dI dA zs y_MH_count (mh_rm 8 20 1000) [.ref x0, .int (nI 0), .int v1, .int v2] w (mh_V (some (.int (nI (sg_n g)))) (fun w' => rC dA zs w' x0 g ∧ mh_C w w')) := by
  have hR2 := hR
  obtain ⟨aL, aS, aD, aV, sv, dr, vw, lg, hP⟩ := hR
  have hP2 := hP
  obtain ⟨r0, rLg, r3, r10, r11, rs, rv, rd, rl⟩ := hP2
  obtain ⟨mc, ar, r1, rAr⟩ := rLg
  have hG2 := hG
  obtain ⟨gn, grs, gat, glo, gdr⟩ := hG2
  refine mh_ofW (cc := b_MH_count) (n := 4) (ret := (some .int)) (hs := []) (by decide) k639 ?_
  intro p e s m below meth c hx hb hr hml hown hts hlocks hnm hT hOK hadm
  have K0 : mh_K0 p s m ([.ref x0, .int (nI 0), .int v1, .int v2]).toArray c "MeldHost" b_MH_count dC dI dA := ⟨hx, hb, hown, hts, hOK.1, hOK.2.1⟩
  have hX := hOK.2.2.2.2
  have hb0 := hOK.2.2.2.1
  have hS : va_S (mh_A b) s.heap s.heap [] := va_S.rf
  have hl := lv_entry ([.ref x0, .int (nI 0), .int v1, .int v2]) (n := 4) (Nat.le_of_ble_eq_true rfl)
  rw [lg_entry_eq]
  generalize (lg_sl ([.ref x0, .int (nI 0), .int v1, .int v2]) ++ List.replicate (4 - (lg_sl ([.ref x0, .int (nI 0), .int v1, .int v2])).length) Slot.unset).toArray = ls at hl ⊢
  have hl : lv_has ls 4 [(0, .ref x0), (1, .int (nI 0)), (2, .int v1), (3, .int v2)] := hl
  refine lv_iload_n hx hb d_MH_count_0 rfl (lv_at hl 1 rfl) ?_
  refine lv_iconst (v := nI 5) hx hb d_MH_count_1 (by decide) ?_
  refine mh_callR (mh_sS (rest := []) (av := [.int (nI 0), .int (nI 5)]) K0 e_MH_needBelow l_MH_40 k144 rfl rfl d_MH_count_2) (c_MH_needBelow (by decide) (by decide)) K0 hOK hml hl.1 e_MH_needBelow hX hS d_MH_count_2 (Nat.le_of_ble_eq_true rfl) (Nat.le_of_ble_eq_true rfl) (Nat.le_of_ble_eq_true rfl) (Nat.le_of_ble_eq_true rfl) (Nat.le_of_ble_eq_true rfl) (fun H locs hX hS => ?_)
  refine W.eq (g2 := F0 m 5 ls []) rfl ?_
  refine lv_iload_n hx hb d_MH_count_5 rfl (lv_at hl 1 rfl) ?_
  refine mh_if_ne (tgt := 17) hx hb (by omega) d_MH_count_6 (by decide) (fun z => absurd z (by omega)) (fun _ => ?_)
  refine lv_aload_n hx hb d_MH_count_9 rfl (lv_at hl 0 rfl) ?_
  refine mh_get K0 hX r0 f_MH_10 rfl d_MH_count_10 ?_
  refine mh_callR (mh_sV (rest := []) (av := []) K0 hX r1 rfl e_AL_size l_MH_109 k448 k449 rfl rfl d_MH_count_13) (c_AL_size r1) K0 hOK hml hl.1 e_AL_size hX hS d_MH_count_13 (Nat.le_of_ble_eq_true rfl) (Nat.le_of_ble_eq_true rfl) (Nat.le_of_ble_eq_true rfl) (Nat.le_of_ble_eq_true rfl) (Nat.le_of_ble_eq_true rfl) (fun H locs hX hS => ?_)
  refine W.eq (g2 := F0 m 16 ls [.int (nI (sg_n g))]) rfl ?_
  exact mh_iret K0 hr rfl hlocks hX hS (⟨rfl, hR2, fun _ _ _ _ => rfl⟩) (Nat.le_of_ble_eq_true rfl) (Nat.le_of_ble_eq_true rfl) d_MH_count_16
set_option maxHeartbeats 4000000 in
set_option maxRecDepth 100000 in
theorem c_MH_count_01 {l : Launch} {b : Nat} {dC : Nat → ClassId} {dI : Nat → Nat → Nat} {dA : Nat → ClassId} {zs : Nat → Nat} {w : mh_w} {x0 : Nat} {g : st_G} (hR : rC dA zs w x0 g) (hG : sg_ok g) {v1 v2 : Int32} : mh_Met l b dC dI dA zs y_MH_count (mh_rm 8 20 1000) [.ref x0, .int (nI 1), .int v1, .int v2] w (mh_V (some (.int (nI (pb_cnt (fun t => (sg_dr g t).isSome) 16)))) (fun w' => rC dA zs w' x0 g ∧ mh_C w w')) := by
  have hR2 := hR
  obtain ⟨aL, aS, aD, aV, sv, dr, vw, lg, hP⟩ := hR
  have hP2 := hP
  obtain ⟨r0, rLg, r3, r10, r11, rs, rv, rd, rl⟩ := hP2
  obtain ⟨mc, ar, r1, rAr⟩ := rLg
  have hG2 := hG
  obtain ⟨gn, grs, gat, glo, gdr⟩ := hG2
  refine mh_ofW (cc := b_MH_count) (n := 4) (ret := (some .int)) (hs := []) (by decide) k639 ?_
  intro p e s m below meth c hx hb hr hml hown hts hlocks hnm hT hOK hadm
  have K0 : mh_K0 p s m ([.ref x0, .int (nI 1), .int v1, .int v2]).toArray c "MeldHost" b_MH_count dC dI dA := ⟨hx, hb, hown, hts, hOK.1, hOK.2.1⟩
  have hX := hOK.2.2.2.2
  have hb0 := hOK.2.2.2.1
  have hS : va_S (mh_A b) s.heap s.heap [] := va_S.rf
  have hl := lv_entry ([.ref x0, .int (nI 1), .int v1, .int v2]) (n := 4) (Nat.le_of_ble_eq_true rfl)
  rw [lg_entry_eq]
  generalize (lg_sl ([.ref x0, .int (nI 1), .int v1, .int v2]) ++ List.replicate (4 - (lg_sl ([.ref x0, .int (nI 1), .int v1, .int v2])).length) Slot.unset).toArray = ls at hl ⊢
  have hl : lv_has ls 4 [(0, .ref x0), (1, .int (nI 1)), (2, .int v1), (3, .int v2)] := hl
  refine lv_iload_n hx hb d_MH_count_0 rfl (lv_at hl 1 rfl) ?_
  refine lv_iconst (v := nI 5) hx hb d_MH_count_1 (by decide) ?_
  refine mh_callR (mh_sS (rest := []) (av := [.int (nI 1), .int (nI 5)]) K0 e_MH_needBelow l_MH_40 k144 rfl rfl d_MH_count_2) (c_MH_needBelow (by decide) (by decide)) K0 hOK hml hl.1 e_MH_needBelow hX hS d_MH_count_2 (Nat.le_of_ble_eq_true rfl) (Nat.le_of_ble_eq_true rfl) (Nat.le_of_ble_eq_true rfl) (Nat.le_of_ble_eq_true rfl) (Nat.le_of_ble_eq_true rfl) (fun H locs hX hS => ?_)
  refine W.eq (g2 := F0 m 5 ls []) rfl ?_
  refine lv_iload_n hx hb d_MH_count_5 rfl (lv_at hl 1 rfl) ?_
  refine mh_if_ne (tgt := 17) hx hb (by omega) d_MH_count_6 (by decide) (fun _ => ?_) (fun z => absurd z (by omega))
  refine lv_iload_n hx hb d_MH_count_17 rfl (lv_at hl 1 rfl) ?_
  refine lv_iconst (v := nI 1) hx hb d_MH_count_18 (by decide) ?_
  refine mh_icmp_ne (tgt := 27) hx hb (by omega) (by omega) d_MH_count_19 (by decide) (fun z => absurd z (by omega)) (fun _ => ?_)
  refine lv_aload_n hx hb d_MH_count_22 rfl (lv_at hl 0 rfl) ?_
  refine mh_callR (mh_sV (rest := []) (av := []) K0 hX r0 rfl e_MH_howManyOpen l_MH_155 k642 kp14 rfl rfl d_MH_count_23) (c_MH_howManyOpen r0 r10) K0 hOK hml hl.1 e_MH_howManyOpen hX hS d_MH_count_23 (Nat.le_of_ble_eq_true rfl) (Nat.le_of_ble_eq_true rfl) (Nat.le_of_ble_eq_true rfl) (Nat.le_of_ble_eq_true rfl) (Nat.le_of_ble_eq_true rfl) (fun H locs hX hS => ?_)
  refine W.eq (g2 := F0 m 26 ls [.int (nI (pb_cnt (fun t => (dr t).isSome) 16))]) rfl ?_
  exact mh_iret K0 hr rfl hlocks hX hS (⟨by rw [pb_cnt_congr (g := fun t => (sg_dr g t).isSome) (fun t ht => by
      cases e9 : sg_dr g t with
      | none => rw [(rd t ht).none e9]; rfl
      | some x => obtain ⟨y, hy, -⟩ := (rd t ht).some e9; rw [hy]; rfl)], hR2, fun _ _ _ _ => rfl⟩) (Nat.le_of_ble_eq_true rfl) (Nat.le_of_ble_eq_true rfl) d_MH_count_26
set_option maxHeartbeats 4000000 in
set_option maxRecDepth 100000 in
theorem c_MH_count_02 {l : Launch} {b : Nat} {dC : Nat → ClassId} {dI : Nat → Nat → Nat} {dA : Nat → ClassId} {zs : Nat → Nat} {w : mh_w} {x0 : Nat} {g : st_G} (hR : rC dA zs w x0 g) (hG : sg_ok g) {u : Nat} (hu : u < 4) {v2 : Int32} : mh_Met l b dC dI dA zs y_MH_count (mh_rm 8 20 1000) [.ref x0, .int (nI 2), .int (nI u), .int v2] w (mh_V (some (.int (nI (sg_at g u)))) (fun w' => rC dA zs w' x0 g ∧ mh_C w w')) := by
  have hR2 := hR
  obtain ⟨aL, aS, aD, aV, sv, dr, vw, lg, hP⟩ := hR
  have hP2 := hP
  obtain ⟨r0, rLg, r3, r10, r11, rs, rv, rd, rl⟩ := hP2
  obtain ⟨mc, ar, r1, rAr⟩ := rLg
  have hG2 := hG
  obtain ⟨gn, grs, gat, glo, gdr⟩ := hG2
  refine mh_ofW (cc := b_MH_count) (n := 4) (ret := (some .int)) (hs := []) (by decide) k639 ?_
  intro p e s m below meth c hx hb hr hml hown hts hlocks hnm hT hOK hadm
  have K0 : mh_K0 p s m ([.ref x0, .int (nI 2), .int (nI u), .int v2]).toArray c "MeldHost" b_MH_count dC dI dA := ⟨hx, hb, hown, hts, hOK.1, hOK.2.1⟩
  have hX := hOK.2.2.2.2
  have hb0 := hOK.2.2.2.1
  have hS : va_S (mh_A b) s.heap s.heap [] := va_S.rf
  have hl := lv_entry ([.ref x0, .int (nI 2), .int (nI u), .int v2]) (n := 4) (Nat.le_of_ble_eq_true rfl)
  rw [lg_entry_eq]
  generalize (lg_sl ([.ref x0, .int (nI 2), .int (nI u), .int v2]) ++ List.replicate (4 - (lg_sl ([.ref x0, .int (nI 2), .int (nI u), .int v2])).length) Slot.unset).toArray = ls at hl ⊢
  have hl : lv_has ls 4 [(0, .ref x0), (1, .int (nI 2)), (2, .int (nI u)), (3, .int v2)] := hl
  obtain ⟨au, hs1, hs2⟩ := rs u hu
  have hs3 := hs2
  obtain ⟨a5, a9, f9, s0, sN, s9, sf⟩ := hs2
  obtain ⟨n1, n3, sn0⟩ := sN.fst
  refine lv_iload_n hx hb d_MH_count_0 rfl (lv_at hl 1 rfl) ?_
  refine lv_iconst (v := nI 5) hx hb d_MH_count_1 (by decide) ?_
  refine mh_callR (mh_sS (rest := []) (av := [.int (nI 2), .int (nI 5)]) K0 e_MH_needBelow l_MH_40 k144 rfl rfl d_MH_count_2) (c_MH_needBelow (by decide) (by decide)) K0 hOK hml hl.1 e_MH_needBelow hX hS d_MH_count_2 (Nat.le_of_ble_eq_true rfl) (Nat.le_of_ble_eq_true rfl) (Nat.le_of_ble_eq_true rfl) (Nat.le_of_ble_eq_true rfl) (Nat.le_of_ble_eq_true rfl) (fun H locs hX hS => ?_)
  refine W.eq (g2 := F0 m 5 ls []) rfl ?_
  refine lv_iload_n hx hb d_MH_count_5 rfl (lv_at hl 1 rfl) ?_
  refine mh_if_ne (tgt := 17) hx hb (by omega) d_MH_count_6 (by decide) (fun _ => ?_) (fun z => absurd z (by omega))
  refine lv_iload_n hx hb d_MH_count_17 rfl (lv_at hl 1 rfl) ?_
  refine lv_iconst (v := nI 1) hx hb d_MH_count_18 (by decide) ?_
  refine mh_icmp_ne (tgt := 27) hx hb (by omega) (by omega) d_MH_count_19 (by decide) (fun _ => ?_) (fun z => absurd z (by omega))
  refine lv_iload_n hx hb d_MH_count_27 rfl (lv_at hl 2 rfl) ?_
  refine lv_iconst (v := nI 4) hx hb d_MH_count_28 (by decide) ?_
  refine mh_callR (mh_sS (rest := []) (av := [.int (nI u), .int (nI 4)]) K0 e_MH_needBelow l_MH_40 k144 rfl rfl d_MH_count_29) (c_MH_needBelow hu (by decide)) K0 hOK hml hl.1 e_MH_needBelow hX hS d_MH_count_29 (Nat.le_of_ble_eq_true rfl) (Nat.le_of_ble_eq_true rfl) (Nat.le_of_ble_eq_true rfl) (Nat.le_of_ble_eq_true rfl) (Nat.le_of_ble_eq_true rfl) (fun H locs hX hS => ?_)
  refine W.eq (g2 := F0 m 32 ls []) rfl ?_
  refine lv_iload_n hx hb d_MH_count_32 rfl (lv_at hl 1 rfl) ?_
  refine lv_iconst (v := nI 2) hx hb d_MH_count_33 (by decide) ?_
  refine mh_icmp_ne (tgt := 47) hx hb (by omega) (by omega) d_MH_count_34 (by decide) (fun z => absurd z (by omega)) (fun _ => ?_)
  refine lv_aload_n hx hb d_MH_count_37 rfl (lv_at hl 0 rfl) ?_
  refine mh_get K0 hX r0 f_MH_18 rfl d_MH_count_38 ?_
  refine lv_iload_n hx hb d_MH_count_41 rfl (lv_at hl 2 rfl) ?_
  refine mh_aaldN 4 rfl K0 hX r3 (by omega) (by omega) (r := (some au)) (hs1) d_MH_count_42 ?_
  refine W.eq (g2 := F0 m 43 ls [.ref au]) rfl ?_
  refine mh_get K0 hX s0 f_MH_51 rfl d_MH_count_43 ?_
  exact mh_iret K0 hr rfl hlocks hX hS (⟨rfl, hR2, fun _ _ _ _ => rfl⟩) (Nat.le_of_ble_eq_true rfl) (Nat.le_of_ble_eq_true rfl) d_MH_count_46
set_option maxHeartbeats 4000000 in
set_option maxRecDepth 100000 in
theorem c_MH_count_03 {l : Launch} {b : Nat} {dC : Nat → ClassId} {dI : Nat → Nat → Nat} {dA : Nat → ClassId} {zs : Nat → Nat} {w : mh_w} {x0 : Nat} {g : st_G} (hR : rC dA zs w x0 g) (hG : sg_ok g) {u : Nat} (hu : u < 4) {v2 : Int32} : mh_Met l b dC dI dA zs y_MH_count (mh_rm 8 20 1000) [.ref x0, .int (nI 3), .int (nI u), .int v2] w (mh_V (some (.int (nI (pb_cnt (fun i => iv_gd (sg_lg g i)) (sg_at g u))))) (fun w' => rC dA zs w' x0 g ∧ mh_C w w')) := by
  have hR2 := hR
  obtain ⟨aL, aS, aD, aV, sv, dr, vw, lg, hP⟩ := hR
  have hP2 := hP
  obtain ⟨r0, rLg, r3, r10, r11, rs, rv, rd, rl⟩ := hP2
  obtain ⟨mc, ar, r1, rAr⟩ := rLg
  have hG2 := hG
  obtain ⟨gn, grs, gat, glo, gdr⟩ := hG2
  refine mh_ofW (cc := b_MH_count) (n := 4) (ret := (some .int)) (hs := []) (by decide) k639 ?_
  intro p e s m below meth c hx hb hr hml hown hts hlocks hnm hT hOK hadm
  have K0 : mh_K0 p s m ([.ref x0, .int (nI 3), .int (nI u), .int v2]).toArray c "MeldHost" b_MH_count dC dI dA := ⟨hx, hb, hown, hts, hOK.1, hOK.2.1⟩
  have hX := hOK.2.2.2.2
  have hb0 := hOK.2.2.2.1
  have hS : va_S (mh_A b) s.heap s.heap [] := va_S.rf
  have hl := lv_entry ([.ref x0, .int (nI 3), .int (nI u), .int v2]) (n := 4) (Nat.le_of_ble_eq_true rfl)
  rw [lg_entry_eq]
  generalize (lg_sl ([.ref x0, .int (nI 3), .int (nI u), .int v2]) ++ List.replicate (4 - (lg_sl ([.ref x0, .int (nI 3), .int (nI u), .int v2])).length) Slot.unset).toArray = ls at hl ⊢
  have hl : lv_has ls 4 [(0, .ref x0), (1, .int (nI 3)), (2, .int (nI u)), (3, .int v2)] := hl
  obtain ⟨au, hs1, hs2⟩ := rs u hu
  have hs3 := hs2
  obtain ⟨a5, a9, f9, s0, sN, s9, sf⟩ := hs2
  obtain ⟨n1, n3, sn0⟩ := sN.fst
  refine lv_iload_n hx hb d_MH_count_0 rfl (lv_at hl 1 rfl) ?_
  refine lv_iconst (v := nI 5) hx hb d_MH_count_1 (by decide) ?_
  refine mh_callR (mh_sS (rest := []) (av := [.int (nI 3), .int (nI 5)]) K0 e_MH_needBelow l_MH_40 k144 rfl rfl d_MH_count_2) (c_MH_needBelow (by decide) (by decide)) K0 hOK hml hl.1 e_MH_needBelow hX hS d_MH_count_2 (Nat.le_of_ble_eq_true rfl) (Nat.le_of_ble_eq_true rfl) (Nat.le_of_ble_eq_true rfl) (Nat.le_of_ble_eq_true rfl) (Nat.le_of_ble_eq_true rfl) (fun H locs hX hS => ?_)
  refine W.eq (g2 := F0 m 5 ls []) rfl ?_
  refine lv_iload_n hx hb d_MH_count_5 rfl (lv_at hl 1 rfl) ?_
  refine mh_if_ne (tgt := 17) hx hb (by omega) d_MH_count_6 (by decide) (fun _ => ?_) (fun z => absurd z (by omega))
  refine lv_iload_n hx hb d_MH_count_17 rfl (lv_at hl 1 rfl) ?_
  refine lv_iconst (v := nI 1) hx hb d_MH_count_18 (by decide) ?_
  refine mh_icmp_ne (tgt := 27) hx hb (by omega) (by omega) d_MH_count_19 (by decide) (fun _ => ?_) (fun z => absurd z (by omega))
  refine lv_iload_n hx hb d_MH_count_27 rfl (lv_at hl 2 rfl) ?_
  refine lv_iconst (v := nI 4) hx hb d_MH_count_28 (by decide) ?_
  refine mh_callR (mh_sS (rest := []) (av := [.int (nI u), .int (nI 4)]) K0 e_MH_needBelow l_MH_40 k144 rfl rfl d_MH_count_29) (c_MH_needBelow hu (by decide)) K0 hOK hml hl.1 e_MH_needBelow hX hS d_MH_count_29 (Nat.le_of_ble_eq_true rfl) (Nat.le_of_ble_eq_true rfl) (Nat.le_of_ble_eq_true rfl) (Nat.le_of_ble_eq_true rfl) (Nat.le_of_ble_eq_true rfl) (fun H locs hX hS => ?_)
  refine W.eq (g2 := F0 m 32 ls []) rfl ?_
  refine lv_iload_n hx hb d_MH_count_32 rfl (lv_at hl 1 rfl) ?_
  refine lv_iconst (v := nI 2) hx hb d_MH_count_33 (by decide) ?_
  refine mh_icmp_ne (tgt := 47) hx hb (by omega) (by omega) d_MH_count_34 (by decide) (fun _ => ?_) (fun z => absurd z (by omega))
  refine lv_iload_n hx hb d_MH_count_47 rfl (lv_at hl 1 rfl) ?_
  refine lv_iconst (v := nI 3) hx hb d_MH_count_48 (by decide) ?_
  refine mh_icmp_ne (tgt := 62) hx hb (by omega) (by omega) d_MH_count_49 (by decide) (fun z => absurd z (by omega)) (fun _ => ?_)
  refine lv_aload_n hx hb d_MH_count_52 rfl (lv_at hl 0 rfl) ?_
  refine mh_get K0 hX r0 f_MH_18 rfl d_MH_count_53 ?_
  refine lv_iload_n hx hb d_MH_count_56 rfl (lv_at hl 2 rfl) ?_
  refine mh_aaldN 4 rfl K0 hX r3 (by omega) (by omega) (r := (some au)) (hs1) d_MH_count_57 ?_
  refine W.eq (g2 := F0 m 58 ls [.ref au]) rfl ?_
  refine mh_get K0 hX s0 f_MH_158 rfl d_MH_count_58 ?_
  exact mh_iret K0 hr rfl hlocks hX hS (⟨rfl, hR2, fun _ _ _ _ => rfl⟩) (Nat.le_of_ble_eq_true rfl) (Nat.le_of_ble_eq_true rfl) d_MH_count_61
set_option maxHeartbeats 4000000 in
set_option maxRecDepth 100000 in
theorem c_MH_count_04 {l : Launch} {b : Nat} {dC : Nat → ClassId} {dI : Nat → Nat → Nat} {dA : Nat → ClassId} {zs : Nat → Nat} {w : mh_w} {x0 : Nat} {g : st_G} (hR : rC dA zs w x0 g) (hG : sg_ok g) {u : Nat} (hu : u < 4) {key : Nat} (hk : key < 256) : mh_Met l b dC dI dA zs y_MH_count (mh_rm 8 20 1000) [.ref x0, .int (nI 4), .int (nI u), .int (nI key)] w (mh_V (some (.int (st_lw (sg_lg g) key (sg_at g u)))) (fun w' => rC dA zs w' x0 g ∧ mh_C w w')) := by
  have hR2 := hR
  obtain ⟨aL, aS, aD, aV, sv, dr, vw, lg, hP⟩ := hR
  have hP2 := hP
  obtain ⟨r0, rLg, r3, r10, r11, rs, rv, rd, rl⟩ := hP2
  obtain ⟨mc, ar, r1, rAr⟩ := rLg
  have hG2 := hG
  obtain ⟨gn, grs, gat, glo, gdr⟩ := hG2
  refine mh_ofW (cc := b_MH_count) (n := 4) (ret := (some .int)) (hs := []) (by decide) k639 ?_
  intro p e s m below meth c hx hb hr hml hown hts hlocks hnm hT hOK hadm
  have K0 : mh_K0 p s m ([.ref x0, .int (nI 4), .int (nI u), .int (nI key)]).toArray c "MeldHost" b_MH_count dC dI dA := ⟨hx, hb, hown, hts, hOK.1, hOK.2.1⟩
  have hX := hOK.2.2.2.2
  have hb0 := hOK.2.2.2.1
  have hS : va_S (mh_A b) s.heap s.heap [] := va_S.rf
  have hl := lv_entry ([.ref x0, .int (nI 4), .int (nI u), .int (nI key)]) (n := 4) (Nat.le_of_ble_eq_true rfl)
  rw [lg_entry_eq]
  generalize (lg_sl ([.ref x0, .int (nI 4), .int (nI u), .int (nI key)]) ++ List.replicate (4 - (lg_sl ([.ref x0, .int (nI 4), .int (nI u), .int (nI key)])).length) Slot.unset).toArray = ls at hl ⊢
  have hl : lv_has ls 4 [(0, .ref x0), (1, .int (nI 4)), (2, .int (nI u)), (3, .int (nI key))] := hl
  obtain ⟨au, hs1, hs2⟩ := rs u hu
  have hs3 := hs2
  obtain ⟨a5, a9, f9, s0, sN, s9, sf⟩ := hs2
  obtain ⟨n1, n3, sn0⟩ := sN.fst
  refine lv_iload_n hx hb d_MH_count_0 rfl (lv_at hl 1 rfl) ?_
  refine lv_iconst (v := nI 5) hx hb d_MH_count_1 (by decide) ?_
  refine mh_callR (mh_sS (rest := []) (av := [.int (nI 4), .int (nI 5)]) K0 e_MH_needBelow l_MH_40 k144 rfl rfl d_MH_count_2) (c_MH_needBelow (by decide) (by decide)) K0 hOK hml hl.1 e_MH_needBelow hX hS d_MH_count_2 (Nat.le_of_ble_eq_true rfl) (Nat.le_of_ble_eq_true rfl) (Nat.le_of_ble_eq_true rfl) (Nat.le_of_ble_eq_true rfl) (Nat.le_of_ble_eq_true rfl) (fun H locs hX hS => ?_)
  refine W.eq (g2 := F0 m 5 ls []) rfl ?_
  refine lv_iload_n hx hb d_MH_count_5 rfl (lv_at hl 1 rfl) ?_
  refine mh_if_ne (tgt := 17) hx hb (by omega) d_MH_count_6 (by decide) (fun _ => ?_) (fun z => absurd z (by omega))
  refine lv_iload_n hx hb d_MH_count_17 rfl (lv_at hl 1 rfl) ?_
  refine lv_iconst (v := nI 1) hx hb d_MH_count_18 (by decide) ?_
  refine mh_icmp_ne (tgt := 27) hx hb (by omega) (by omega) d_MH_count_19 (by decide) (fun _ => ?_) (fun z => absurd z (by omega))
  refine lv_iload_n hx hb d_MH_count_27 rfl (lv_at hl 2 rfl) ?_
  refine lv_iconst (v := nI 4) hx hb d_MH_count_28 (by decide) ?_
  refine mh_callR (mh_sS (rest := []) (av := [.int (nI u), .int (nI 4)]) K0 e_MH_needBelow l_MH_40 k144 rfl rfl d_MH_count_29) (c_MH_needBelow hu (by decide)) K0 hOK hml hl.1 e_MH_needBelow hX hS d_MH_count_29 (Nat.le_of_ble_eq_true rfl) (Nat.le_of_ble_eq_true rfl) (Nat.le_of_ble_eq_true rfl) (Nat.le_of_ble_eq_true rfl) (Nat.le_of_ble_eq_true rfl) (fun H locs hX hS => ?_)
  refine W.eq (g2 := F0 m 32 ls []) rfl ?_
  refine lv_iload_n hx hb d_MH_count_32 rfl (lv_at hl 1 rfl) ?_
  refine lv_iconst (v := nI 2) hx hb d_MH_count_33 (by decide) ?_
  refine mh_icmp_ne (tgt := 47) hx hb (by omega) (by omega) d_MH_count_34 (by decide) (fun _ => ?_) (fun z => absurd z (by omega))
  refine lv_iload_n hx hb d_MH_count_47 rfl (lv_at hl 1 rfl) ?_
  refine lv_iconst (v := nI 3) hx hb d_MH_count_48 (by decide) ?_
  refine mh_icmp_ne (tgt := 62) hx hb (by omega) (by omega) d_MH_count_49 (by decide) (fun _ => ?_) (fun z => absurd z (by omega))
  refine lv_iload_n hx hb d_MH_count_62 rfl (lv_at hl 3 rfl) ?_
  refine lv_sipush (v := nI 256) hx hb d_MH_count_63 (by decide) ?_
  refine mh_callR (mh_sS (rest := []) (av := [.int (nI key), .int (nI 256)]) K0 e_MH_needBelow l_MH_40 k144 rfl rfl d_MH_count_66) (c_MH_needBelow hk (by decide)) K0 hOK hml hl.1 e_MH_needBelow hX hS d_MH_count_66 (Nat.le_of_ble_eq_true rfl) (Nat.le_of_ble_eq_true rfl) (Nat.le_of_ble_eq_true rfl) (Nat.le_of_ble_eq_true rfl) (Nat.le_of_ble_eq_true rfl) (fun H locs hX hS => ?_)
  refine W.eq (g2 := F0 m 69 ls []) rfl ?_
  refine lv_aload_n hx hb d_MH_count_69 rfl (lv_at hl 0 rfl) ?_
  refine mh_get K0 hX r0 f_MH_18 rfl d_MH_count_70 ?_
  refine lv_iload_n hx hb d_MH_count_73 rfl (lv_at hl 2 rfl) ?_
  refine mh_aaldN 4 rfl K0 hX r3 (by omega) (by omega) (r := (some au)) (hs1) d_MH_count_74 ?_
  refine W.eq (g2 := F0 m 75 ls [.ref au]) rfl ?_
  refine mh_get K0 hX s0 f_MH_161 rfl d_MH_count_75 ?_
  refine lv_iload_n hx hb d_MH_count_78 rfl (lv_at hl 3 rfl) ?_
  refine mh_ialdN K0 hX s9 (by omega) (by omega) d_MH_count_79 ?_
  exact mh_iret K0 hr rfl hlocks hX hS (⟨by rw [sf key hk], hR2, fun _ _ _ _ => rfl⟩) (Nat.le_of_ble_eq_true rfl) (Nat.le_of_ble_eq_true rfl) d_MH_count_80
set_option maxHeartbeats 4000000 in
set_option maxRecDepth 100000 in
theorem c_MH_count_11 {l : Launch} {b : Nat} {dC : Nat → ClassId} {dI : Nat → Nat → Nat} {dA : Nat → ClassId} {zs : Nat → Nat} {w : mh_w} (hl0 : l.stackTraces = false) {x0 : Nat} {g : st_G} (hR : rC dA zs w x0 g) (hG : sg_ok g) {q9 : Nat} (h3 : 2 ≤ q9) (h5 : q9 < 5) {v1 v2 : Int32} (hv : st_in v1 4 = false) : mh_Met l b dC dI dA zs y_MH_count (mh_rm 8 20 1000) [.ref x0, .int (nI q9), .int v1, .int v2] w (mh_T 8 (fun w' => rC dA zs w' x0 g ∧ mh_C w w')) := by
  have hR2 := hR
  obtain ⟨aL, aS, aD, aV, sv, dr, vw, lg, hP⟩ := hR
  have hP2 := hP
  obtain ⟨r0, rLg, r3, r10, r11, rs, rv, rd, rl⟩ := hP2
  obtain ⟨mc, ar, r1, rAr⟩ := rLg
  have hG2 := hG
  obtain ⟨gn, grs, gat, glo, gdr⟩ := hG2
  refine mh_ofW (cc := b_MH_count) (n := 4) (ret := (some .int)) (hs := []) (by decide) k639 ?_
  intro p e s m below meth c hx hb hr hml hown hts hlocks hnm hT hOK hadm
  have K0 : mh_K0 p s m ([.ref x0, .int (nI q9), .int v1, .int v2]).toArray c "MeldHost" b_MH_count dC dI dA := ⟨hx, hb, hown, hts, hOK.1, hOK.2.1⟩
  have hX := hOK.2.2.2.2
  have hb0 := hOK.2.2.2.1
  have hS : va_S (mh_A b) s.heap s.heap [] := va_S.rf
  have hl := lv_entry ([.ref x0, .int (nI q9), .int v1, .int v2]) (n := 4) (Nat.le_of_ble_eq_true rfl)
  rw [lg_entry_eq]
  generalize (lg_sl ([.ref x0, .int (nI q9), .int v1, .int v2]) ++ List.replicate (4 - (lg_sl ([.ref x0, .int (nI q9), .int v1, .int v2])).length) Slot.unset).toArray = ls at hl ⊢
  have hl : lv_has ls 4 [(0, .ref x0), (1, .int (nI q9)), (2, .int v1), (3, .int v2)] := hl
  refine lv_iload_n hx hb d_MH_count_0 rfl (lv_at hl 1 rfl) ?_
  refine lv_iconst (v := nI 5) hx hb d_MH_count_1 (by decide) ?_
  refine mh_callR (mh_sS (rest := []) (av := [.int (nI q9), .int (nI 5)]) K0 e_MH_needBelow l_MH_40 k144 rfl rfl d_MH_count_2) (c_MH_needBelow h5 (by decide)) K0 hOK hml hl.1 e_MH_needBelow hX hS d_MH_count_2 (Nat.le_of_ble_eq_true rfl) (Nat.le_of_ble_eq_true rfl) (Nat.le_of_ble_eq_true rfl) (Nat.le_of_ble_eq_true rfl) (Nat.le_of_ble_eq_true rfl) (fun H locs hX hS => ?_)
  refine W.eq (g2 := F0 m 5 ls []) rfl ?_
  refine lv_iload_n hx hb d_MH_count_5 rfl (lv_at hl 1 rfl) ?_
  refine mh_if_ne (tgt := 17) hx hb (by omega) d_MH_count_6 (by decide) (fun _ => ?_) (fun z => absurd z (by omega))
  refine lv_iload_n hx hb d_MH_count_17 rfl (lv_at hl 1 rfl) ?_
  refine lv_iconst (v := nI 1) hx hb d_MH_count_18 (by decide) ?_
  refine mh_icmp_ne (tgt := 27) hx hb (by omega) (by omega) d_MH_count_19 (by decide) (fun _ => ?_) (fun z => absurd z (by omega))
  refine lv_iload_n hx hb d_MH_count_27 rfl (lv_at hl 2 rfl) ?_
  refine lv_iconst (v := nI 4) hx hb d_MH_count_28 (by decide) ?_
  refine mh_callT (mh_sS (rest := []) (av := [.int v1, .int (nI 4)]) K0 e_MH_needBelow l_MH_40 k144 rfl rfl d_MH_count_29) (c_MH_needBelow_no hl0 hv) K0 hOK hml hl.1 e_MH_needBelow hX hS d_MH_count_29 (Nat.le_of_ble_eq_true rfl) (Nat.le_of_ble_eq_true rfl) (Nat.le_of_ble_eq_true rfl) (Nat.le_of_ble_eq_true rfl) (Nat.le_of_ble_eq_true rfl) (fun q w1 H locs hq hw hX hS => ?_)
  exact mh_leave hlocks hT hX hS (⟨q, rfl, hq, hR2.x hw, hw.C⟩) (Nat.le_of_ble_eq_true rfl) (Nat.le_of_ble_eq_true rfl)
set_option maxHeartbeats 4000000 in
set_option maxRecDepth 100000 in
theorem c_MH_count_12 {l : Launch} {b : Nat} {dC : Nat → ClassId} {dI : Nat → Nat → Nat} {dA : Nat → ClassId} {zs : Nat → Nat} {w : mh_w} (hl0 : l.stackTraces = false) {x0 : Nat} {g : st_G} (hR : rC dA zs w x0 g) (hG : sg_ok g) {u : Nat} (hu : u < 4) {v2 : Int32} (hv : st_in v2 256 = false) : mh_Met l b dC dI dA zs y_MH_count (mh_rm 8 20 1000) [.ref x0, .int (nI 4), .int (nI u), .int v2] w (mh_T 8 (fun w' => rC dA zs w' x0 g ∧ mh_C w w')) := by
  have hR2 := hR
  obtain ⟨aL, aS, aD, aV, sv, dr, vw, lg, hP⟩ := hR
  have hP2 := hP
  obtain ⟨r0, rLg, r3, r10, r11, rs, rv, rd, rl⟩ := hP2
  obtain ⟨mc, ar, r1, rAr⟩ := rLg
  have hG2 := hG
  obtain ⟨gn, grs, gat, glo, gdr⟩ := hG2
  refine mh_ofW (cc := b_MH_count) (n := 4) (ret := (some .int)) (hs := []) (by decide) k639 ?_
  intro p e s m below meth c hx hb hr hml hown hts hlocks hnm hT hOK hadm
  have K0 : mh_K0 p s m ([.ref x0, .int (nI 4), .int (nI u), .int v2]).toArray c "MeldHost" b_MH_count dC dI dA := ⟨hx, hb, hown, hts, hOK.1, hOK.2.1⟩
  have hX := hOK.2.2.2.2
  have hb0 := hOK.2.2.2.1
  have hS : va_S (mh_A b) s.heap s.heap [] := va_S.rf
  have hl := lv_entry ([.ref x0, .int (nI 4), .int (nI u), .int v2]) (n := 4) (Nat.le_of_ble_eq_true rfl)
  rw [lg_entry_eq]
  generalize (lg_sl ([.ref x0, .int (nI 4), .int (nI u), .int v2]) ++ List.replicate (4 - (lg_sl ([.ref x0, .int (nI 4), .int (nI u), .int v2])).length) Slot.unset).toArray = ls at hl ⊢
  have hl : lv_has ls 4 [(0, .ref x0), (1, .int (nI 4)), (2, .int (nI u)), (3, .int v2)] := hl
  refine lv_iload_n hx hb d_MH_count_0 rfl (lv_at hl 1 rfl) ?_
  refine lv_iconst (v := nI 5) hx hb d_MH_count_1 (by decide) ?_
  refine mh_callR (mh_sS (rest := []) (av := [.int (nI 4), .int (nI 5)]) K0 e_MH_needBelow l_MH_40 k144 rfl rfl d_MH_count_2) (c_MH_needBelow (by decide) (by decide)) K0 hOK hml hl.1 e_MH_needBelow hX hS d_MH_count_2 (Nat.le_of_ble_eq_true rfl) (Nat.le_of_ble_eq_true rfl) (Nat.le_of_ble_eq_true rfl) (Nat.le_of_ble_eq_true rfl) (Nat.le_of_ble_eq_true rfl) (fun H locs hX hS => ?_)
  refine W.eq (g2 := F0 m 5 ls []) rfl ?_
  refine lv_iload_n hx hb d_MH_count_5 rfl (lv_at hl 1 rfl) ?_
  refine mh_if_ne (tgt := 17) hx hb (by omega) d_MH_count_6 (by decide) (fun _ => ?_) (fun z => absurd z (by omega))
  refine lv_iload_n hx hb d_MH_count_17 rfl (lv_at hl 1 rfl) ?_
  refine lv_iconst (v := nI 1) hx hb d_MH_count_18 (by decide) ?_
  refine mh_icmp_ne (tgt := 27) hx hb (by omega) (by omega) d_MH_count_19 (by decide) (fun _ => ?_) (fun z => absurd z (by omega))
  refine lv_iload_n hx hb d_MH_count_27 rfl (lv_at hl 2 rfl) ?_
  refine lv_iconst (v := nI 4) hx hb d_MH_count_28 (by decide) ?_
  refine mh_callR (mh_sS (rest := []) (av := [.int (nI u), .int (nI 4)]) K0 e_MH_needBelow l_MH_40 k144 rfl rfl d_MH_count_29) (c_MH_needBelow hu (by decide)) K0 hOK hml hl.1 e_MH_needBelow hX hS d_MH_count_29 (Nat.le_of_ble_eq_true rfl) (Nat.le_of_ble_eq_true rfl) (Nat.le_of_ble_eq_true rfl) (Nat.le_of_ble_eq_true rfl) (Nat.le_of_ble_eq_true rfl) (fun H locs hX hS => ?_)
  refine W.eq (g2 := F0 m 32 ls []) rfl ?_
  refine lv_iload_n hx hb d_MH_count_32 rfl (lv_at hl 1 rfl) ?_
  refine lv_iconst (v := nI 2) hx hb d_MH_count_33 (by decide) ?_
  refine mh_icmp_ne (tgt := 47) hx hb (by omega) (by omega) d_MH_count_34 (by decide) (fun _ => ?_) (fun z => absurd z (by omega))
  refine lv_iload_n hx hb d_MH_count_47 rfl (lv_at hl 1 rfl) ?_
  refine lv_iconst (v := nI 3) hx hb d_MH_count_48 (by decide) ?_
  refine mh_icmp_ne (tgt := 62) hx hb (by omega) (by omega) d_MH_count_49 (by decide) (fun _ => ?_) (fun z => absurd z (by omega))
  refine lv_iload_n hx hb d_MH_count_62 rfl (lv_at hl 3 rfl) ?_
  refine lv_sipush (v := nI 256) hx hb d_MH_count_63 (by decide) ?_
  refine mh_callT (mh_sS (rest := []) (av := [.int v2, .int (nI 256)]) K0 e_MH_needBelow l_MH_40 k144 rfl rfl d_MH_count_66) (c_MH_needBelow_no hl0 hv) K0 hOK hml hl.1 e_MH_needBelow hX hS d_MH_count_66 (Nat.le_of_ble_eq_true rfl) (Nat.le_of_ble_eq_true rfl) (Nat.le_of_ble_eq_true rfl) (Nat.le_of_ble_eq_true rfl) (Nat.le_of_ble_eq_true rfl) (fun q w1 H locs hq hw hX hS => ?_)
  exact mh_leave hlocks hT hX hS (⟨q, rfl, hq, hR2.x hw, hw.C⟩) (Nat.le_of_ble_eq_true rfl) (Nat.le_of_ble_eq_true rfl)
