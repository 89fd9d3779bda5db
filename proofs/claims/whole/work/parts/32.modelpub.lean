theorem st_in_401 {v : Int32} (h1 : ¬ v < 0) (h2 : v ≤ nI 400) : st_in v 401 = true := by
  obtain ⟨j, hj, rfl⟩ := nI_of h1
  exact st_in_nI (by have := (nI_leI hj (by decide)).mp h2; omega) (by decide)
theorem st_get_aw {x : st_I} {key : Nat} {st : Nat → Option Int64} : st_aw (iv_wk (st_get x key)) (iv_wv (st_get x key)) st (iv_nw (st_get x key)) = st_aw (iv_wk x) (iv_wv x) st (iv_nw x) := by
  unfold st_get
  split <;> rfl
theorem sp_pt_ok {low high q : Nat} (h1 : low ≤ high) (h2 : high < 256) (h3 : q < 4) : sp_pt (nI low) (nI high) (nI q) = true := by
  simp [sp_pt, st_in_nI h2 (by decide), st_in_nI (j := low) (n := 256) (by omega) (by decide), st_in_nI h3 (by decide), nI_le h1 (by omega)]
theorem d_MM_begin_0 : decode b_MM_begin 0 = .ok (.aload_n 0, 1) := by decide +kernel
theorem d_MM_begin_1 : decode b_MM_begin 1 = .ok (.iload_n 1, 1) := by decide +kernel
theorem d_MM_begin_2 : decode b_MM_begin 2 = .ok (.bipush 16, 2) := by decide +kernel
theorem d_MM_begin_4 : decode b_MM_begin 4 = .ok (.invokestatic 53, 3) := by decide +kernel
theorem d_MM_begin_7 : decode b_MM_begin 7 = .ok (.ifCond .eq 19, 3) := by decide +kernel
theorem d_MM_begin_26 : decode b_MM_begin 26 = .ok (.iconst 1, 1) := by decide +kernel
theorem d_MM_begin_27 : decode b_MM_begin 27 = .ok (.goto 4, 3) := by decide +kernel
theorem d_MM_begin_31 : decode b_MM_begin 31 = .ok (.iconst 1, 1) := by decide +kernel
theorem d_MM_begin_32 : decode b_MM_begin 32 = .ok (.invokevirtual 57, 3) := by decide +kernel
theorem d_MM_begin_35 : decode b_MM_begin 35 = .ok (.ifCond .eq 4, 3) := by decide +kernel
theorem d_MM_begin_38 : decode b_MM_begin 38 = .ok (.return_, 1) := by decide +kernel
theorem d_MM_begin_10 : decode b_MM_begin 10 = .ok (.iload_n 2, 1) := by decide +kernel
theorem d_MM_begin_11 : decode b_MM_begin 11 = .ok (.iconst 4, 1) := by decide +kernel
theorem d_MM_begin_12 : decode b_MM_begin 12 = .ok (.invokestatic 53, 3) := by decide +kernel
theorem d_MM_begin_15 : decode b_MM_begin 15 = .ok (.ifCond .eq 11, 3) := by decide +kernel
theorem d_MM_begin_18 : decode b_MM_begin 18 = .ok (.iload_n 3, 1) := by decide +kernel
theorem d_MM_begin_19 : decode b_MM_begin 19 = .ok (.iconst 2, 1) := by decide +kernel
theorem d_MM_begin_20 : decode b_MM_begin 20 = .ok (.invokestatic 53, 3) := by decide +kernel
theorem d_MM_begin_23 : decode b_MM_begin 23 = .ok (.ifCond .ne 7, 3) := by decide +kernel
theorem d_MM_begin_30 : decode b_MM_begin 30 = .ok (.iconst 0, 1) := by decide +kernel
theorem d_MM_get_0 : decode b_MM_get 0 = .ok (.aload_n 0, 1) := by decide +kernel
theorem d_MM_get_1 : decode b_MM_get 1 = .ok (.iload_n 1, 1) := by decide +kernel
theorem d_MM_get_2 : decode b_MM_get 2 = .ok (.bipush 16, 2) := by decide +kernel
theorem d_MM_get_4 : decode b_MM_get 4 = .ok (.invokestatic 53, 3) := by decide +kernel
theorem d_MM_get_7 : decode b_MM_get 7 = .ok (.ifCond .eq 13, 3) := by decide +kernel
theorem d_MM_get_20 : decode b_MM_get 20 = .ok (.iconst 1, 1) := by decide +kernel
theorem d_MM_get_21 : decode b_MM_get 21 = .ok (.goto 4, 3) := by decide +kernel
theorem d_MM_get_25 : decode b_MM_get 25 = .ok (.iconst 1, 1) := by decide +kernel
theorem d_MM_get_26 : decode b_MM_get 26 = .ok (.invokevirtual 57, 3) := by decide +kernel
theorem d_MM_get_29 : decode b_MM_get 29 = .ok (.ifCond .eq 5, 3) := by decide +kernel
theorem d_MM_get_32 : decode b_MM_get 32 = .ok (.lconst 0, 1) := by decide +kernel
theorem d_MM_get_33 : decode b_MM_get 33 = .ok (.lreturn, 1) := by decide +kernel
theorem d_MM_get_10 : decode b_MM_get 10 = .ok (.iload_n 2, 1) := by decide +kernel
theorem d_MM_get_11 : decode b_MM_get 11 = .ok (.sipush 256, 3) := by decide +kernel
theorem d_MM_get_14 : decode b_MM_get 14 = .ok (.invokestatic 53, 3) := by decide +kernel
theorem d_MM_get_17 : decode b_MM_get 17 = .ok (.ifCond .ne 7, 3) := by decide +kernel
theorem d_MM_get_24 : decode b_MM_get 24 = .ok (.iconst 0, 1) := by decide +kernel
theorem d_MM_write_0 : decode b_MM_write 0 = .ok (.aload_n 0, 1) := by decide +kernel
theorem d_MM_write_1 : decode b_MM_write 1 = .ok (.iload_n 1, 1) := by decide +kernel
theorem d_MM_write_2 : decode b_MM_write 2 = .ok (.bipush 16, 2) := by decide +kernel
theorem d_MM_write_4 : decode b_MM_write 4 = .ok (.invokestatic 53, 3) := by decide +kernel
theorem d_MM_write_7 : decode b_MM_write 7 = .ok (.ifCond .eq 13, 3) := by decide +kernel
theorem d_MM_write_20 : decode b_MM_write 20 = .ok (.iconst 1, 1) := by decide +kernel
theorem d_MM_write_21 : decode b_MM_write 21 = .ok (.goto 4, 3) := by decide +kernel
theorem d_MM_write_25 : decode b_MM_write 25 = .ok (.iconst 1, 1) := by decide +kernel
theorem d_MM_write_26 : decode b_MM_write 26 = .ok (.invokevirtual 57, 3) := by decide +kernel
theorem d_MM_write_29 : decode b_MM_write 29 = .ok (.ifCond .eq 5, 3) := by decide +kernel
theorem d_MM_write_32 : decode b_MM_write 32 = .ok (.iconst 0, 1) := by decide +kernel
theorem d_MM_write_33 : decode b_MM_write 33 = .ok (.ireturn, 1) := by decide +kernel
theorem d_MM_write_10 : decode b_MM_write 10 = .ok (.iload_n 2, 1) := by decide +kernel
theorem d_MM_write_11 : decode b_MM_write 11 = .ok (.sipush 256, 3) := by decide +kernel
theorem d_MM_write_14 : decode b_MM_write 14 = .ok (.invokestatic 53, 3) := by decide +kernel
theorem d_MM_write_17 : decode b_MM_write 17 = .ok (.ifCond .ne 7, 3) := by decide +kernel
theorem d_MM_write_24 : decode b_MM_write 24 = .ok (.iconst 0, 1) := by decide +kernel
theorem d_MM_part_0 : decode b_MM_part 0 = .ok (.aload_n 0, 1) := by decide +kernel
theorem d_MM_part_1 : decode b_MM_part 1 = .ok (.iload_n 1, 1) := by decide +kernel
theorem d_MM_part_2 : decode b_MM_part 2 = .ok (.bipush 16, 2) := by decide +kernel
theorem d_MM_part_4 : decode b_MM_part 4 = .ok (.invokestatic 53, 3) := by decide +kernel
theorem d_MM_part_7 : decode b_MM_part 7 = .ok (.ifCond .eq 13, 3) := by decide +kernel
theorem d_MM_part_20 : decode b_MM_part 20 = .ok (.iconst 1, 1) := by decide +kernel
theorem d_MM_part_21 : decode b_MM_part 21 = .ok (.goto 4, 3) := by decide +kernel
theorem d_MM_part_25 : decode b_MM_part 25 = .ok (.iconst 1, 1) := by decide +kernel
theorem d_MM_part_26 : decode b_MM_part 26 = .ok (.invokevirtual 57, 3) := by decide +kernel
theorem d_MM_part_29 : decode b_MM_part 29 = .ok (.ifCond .eq 5, 3) := by decide +kernel
theorem d_MM_part_32 : decode b_MM_part 32 = .ok (.lconst 0, 1) := by decide +kernel
theorem d_MM_part_33 : decode b_MM_part 33 = .ok (.lreturn, 1) := by decide +kernel
theorem d_MM_part_10 : decode b_MM_part 10 = .ok (.iload_n 2, 1) := by decide +kernel
theorem d_MM_part_11 : decode b_MM_part 11 = .ok (.iload_n 3, 1) := by decide +kernel
theorem d_MM_part_12 : decode b_MM_part 12 = .ok (.iload 4, 2) := by decide +kernel
theorem d_MM_part_14 : decode b_MM_part 14 = .ok (.invokestatic 96, 3) := by decide +kernel
theorem d_MM_part_17 : decode b_MM_part 17 = .ok (.ifCond .eq 7, 3) := by decide +kernel
theorem d_MM_part_24 : decode b_MM_part 24 = .ok (.iconst 0, 1) := by decide +kernel
theorem d_MM_look_0 : decode b_MM_look 0 = .ok (.aload_n 0, 1) := by decide +kernel
theorem d_MM_look_1 : decode b_MM_look 1 = .ok (.iload_n 1, 1) := by decide +kernel
theorem d_MM_look_2 : decode b_MM_look 2 = .ok (.iconst 4, 1) := by decide +kernel
theorem d_MM_look_3 : decode b_MM_look 3 = .ok (.invokestatic 53, 3) := by decide +kernel
theorem d_MM_look_6 : decode b_MM_look 6 = .ok (.ifCond .eq 13, 3) := by decide +kernel
theorem d_MM_look_19 : decode b_MM_look 19 = .ok (.iconst 1, 1) := by decide +kernel
theorem d_MM_look_20 : decode b_MM_look 20 = .ok (.goto 4, 3) := by decide +kernel
theorem d_MM_look_24 : decode b_MM_look 24 = .ok (.iconst 1, 1) := by decide +kernel
theorem d_MM_look_25 : decode b_MM_look 25 = .ok (.invokevirtual 57, 3) := by decide +kernel
theorem d_MM_look_28 : decode b_MM_look 28 = .ok (.ifCond .eq 5, 3) := by decide +kernel
theorem d_MM_look_31 : decode b_MM_look 31 = .ok (.lconst 0, 1) := by decide +kernel
theorem d_MM_look_32 : decode b_MM_look 32 = .ok (.lreturn, 1) := by decide +kernel
theorem d_MM_look_9 : decode b_MM_look 9 = .ok (.iload_n 2, 1) := by decide +kernel
theorem d_MM_look_10 : decode b_MM_look 10 = .ok (.iload_n 3, 1) := by decide +kernel
theorem d_MM_look_11 : decode b_MM_look 11 = .ok (.iload 4, 2) := by decide +kernel
theorem d_MM_look_13 : decode b_MM_look 13 = .ok (.invokestatic 96, 3) := by decide +kernel
theorem d_MM_look_16 : decode b_MM_look 16 = .ok (.ifCond .eq 7, 3) := by decide +kernel
theorem d_MM_look_23 : decode b_MM_look 23 = .ok (.iconst 0, 1) := by decide +kernel
theorem d_MM_commit_0 : decode b_MM_commit 0 = .ok (.aload_n 0, 1) := by decide +kernel
theorem d_MM_commit_1 : decode b_MM_commit 1 = .ok (.iload_n 1, 1) := by decide +kernel
theorem d_MM_commit_2 : decode b_MM_commit 2 = .ok (.bipush 16, 2) := by decide +kernel
theorem d_MM_commit_4 : decode b_MM_commit 4 = .ok (.invokestatic 53, 3) := by decide +kernel
theorem d_MM_commit_7 : decode b_MM_commit 7 = .ok (.ifCond .ne 7, 3) := by decide +kernel
theorem d_MM_commit_14 : decode b_MM_commit 14 = .ok (.iconst 0, 1) := by decide +kernel
theorem d_MM_commit_15 : decode b_MM_commit 15 = .ok (.iconst 1, 1) := by decide +kernel
theorem d_MM_commit_10 : decode b_MM_commit 10 = .ok (.iconst 1, 1) := by decide +kernel
theorem d_MM_commit_11 : decode b_MM_commit 11 = .ok (.goto 4, 3) := by decide +kernel
theorem d_MM_commit_16 : decode b_MM_commit 16 = .ok (.invokevirtual 57, 3) := by decide +kernel
theorem d_MM_commit_19 : decode b_MM_commit 19 = .ok (.ifCond .eq 5, 3) := by decide +kernel
theorem d_MM_commit_22 : decode b_MM_commit 22 = .ok (.iconst 0, 1) := by decide +kernel
theorem d_MM_commit_23 : decode b_MM_commit 23 = .ok (.ireturn, 1) := by decide +kernel
theorem d_MM_abort_0 : decode b_MM_abort 0 = .ok (.aload_n 0, 1) := by decide +kernel
theorem d_MM_abort_1 : decode b_MM_abort 1 = .ok (.iload_n 1, 1) := by decide +kernel
theorem d_MM_abort_2 : decode b_MM_abort 2 = .ok (.bipush 16, 2) := by decide +kernel
theorem d_MM_abort_4 : decode b_MM_abort 4 = .ok (.invokestatic 53, 3) := by decide +kernel
theorem d_MM_abort_7 : decode b_MM_abort 7 = .ok (.ifCond .ne 7, 3) := by decide +kernel
theorem d_MM_abort_14 : decode b_MM_abort 14 = .ok (.iconst 0, 1) := by decide +kernel
theorem d_MM_abort_15 : decode b_MM_abort 15 = .ok (.iconst 1, 1) := by decide +kernel
theorem d_MM_abort_10 : decode b_MM_abort 10 = .ok (.iconst 1, 1) := by decide +kernel
theorem d_MM_abort_11 : decode b_MM_abort 11 = .ok (.goto 4, 3) := by decide +kernel
theorem d_MM_abort_16 : decode b_MM_abort 16 = .ok (.invokevirtual 57, 3) := by decide +kernel
theorem d_MM_abort_19 : decode b_MM_abort 19 = .ok (.ifCond .eq 4, 3) := by decide +kernel
theorem d_MM_abort_22 : decode b_MM_abort 22 = .ok (.return_, 1) := by decide +kernel
theorem d_MM_restart_0 : decode b_MM_restart 0 = .ok (.aload_n 0, 1) := by decide +kernel
theorem d_MM_restart_1 : decode b_MM_restart 1 = .ok (.iload_n 1, 1) := by decide +kernel
theorem d_MM_restart_2 : decode b_MM_restart 2 = .ok (.iconst 4, 1) := by decide +kernel
theorem d_MM_restart_3 : decode b_MM_restart 3 = .ok (.invokestatic 53, 3) := by decide +kernel
theorem d_MM_restart_6 : decode b_MM_restart 6 = .ok (.ifCond .ne 7, 3) := by decide +kernel
theorem d_MM_restart_13 : decode b_MM_restart 13 = .ok (.iconst 0, 1) := by decide +kernel
theorem d_MM_restart_14 : decode b_MM_restart 14 = .ok (.iconst 1, 1) := by decide +kernel
theorem d_MM_restart_9 : decode b_MM_restart 9 = .ok (.iconst 1, 1) := by decide +kernel
theorem d_MM_restart_10 : decode b_MM_restart 10 = .ok (.goto 4, 3) := by decide +kernel
theorem d_MM_restart_15 : decode b_MM_restart 15 = .ok (.invokevirtual 57, 3) := by decide +kernel
theorem d_MM_restart_18 : decode b_MM_restart 18 = .ok (.ifCond .eq 4, 3) := by decide +kernel
theorem d_MM_restart_21 : decode b_MM_restart 21 = .ok (.return_, 1) := by decide +kernel
theorem d_MM_state_0 : decode b_MM_state 0 = .ok (.aload_n 0, 1) := by decide +kernel
theorem d_MM_state_1 : decode b_MM_state 1 = .ok (.iload_n 1, 1) := by decide +kernel
theorem d_MM_state_2 : decode b_MM_state 2 = .ok (.iconst 4, 1) := by decide +kernel
theorem d_MM_state_3 : decode b_MM_state 3 = .ok (.invokestatic 53, 3) := by decide +kernel
theorem d_MM_state_6 : decode b_MM_state 6 = .ok (.ifCond .eq 13, 3) := by decide +kernel
theorem d_MM_state_19 : decode b_MM_state 19 = .ok (.iconst 1, 1) := by decide +kernel
theorem d_MM_state_20 : decode b_MM_state 20 = .ok (.goto 4, 3) := by decide +kernel
theorem d_MM_state_24 : decode b_MM_state 24 = .ok (.iconst 1, 1) := by decide +kernel
theorem d_MM_state_25 : decode b_MM_state 25 = .ok (.invokevirtual 57, 3) := by decide +kernel
theorem d_MM_state_28 : decode b_MM_state 28 = .ok (.ifCond .eq 5, 3) := by decide +kernel
theorem d_MM_state_31 : decode b_MM_state 31 = .ok (.lconst 0, 1) := by decide +kernel
theorem d_MM_state_32 : decode b_MM_state 32 = .ok (.lreturn, 1) := by decide +kernel
theorem d_MM_state_9 : decode b_MM_state 9 = .ok (.iload_n 2, 1) := by decide +kernel
theorem d_MM_state_10 : decode b_MM_state 10 = .ok (.sipush 256, 3) := by decide +kernel
theorem d_MM_state_13 : decode b_MM_state 13 = .ok (.invokestatic 53, 3) := by decide +kernel
theorem d_MM_state_16 : decode b_MM_state 16 = .ok (.ifCond .ne 7, 3) := by decide +kernel
theorem d_MM_state_23 : decode b_MM_state 23 = .ok (.iconst 0, 1) := by decide +kernel
theorem d_MM_verdict_0 : decode b_MM_verdict 0 = .ok (.aload_n 0, 1) := by decide +kernel
theorem d_MM_verdict_1 : decode b_MM_verdict 1 = .ok (.iload_n 1, 1) := by decide +kernel
theorem d_MM_verdict_2 : decode b_MM_verdict 2 = .ok (.iconst 4, 1) := by decide +kernel
theorem d_MM_verdict_3 : decode b_MM_verdict 3 = .ok (.invokestatic 53, 3) := by decide +kernel
theorem d_MM_verdict_6 : decode b_MM_verdict 6 = .ok (.ifCond .ne 7, 3) := by decide +kernel
theorem d_MM_verdict_13 : decode b_MM_verdict 13 = .ok (.iconst 0, 1) := by decide +kernel
theorem d_MM_verdict_14 : decode b_MM_verdict 14 = .ok (.iconst 1, 1) := by decide +kernel
theorem d_MM_verdict_9 : decode b_MM_verdict 9 = .ok (.iconst 1, 1) := by decide +kernel
theorem d_MM_verdict_10 : decode b_MM_verdict 10 = .ok (.goto 4, 3) := by decide +kernel
theorem d_MM_verdict_15 : decode b_MM_verdict 15 = .ok (.invokevirtual 57, 3) := by decide +kernel
theorem d_MM_verdict_18 : decode b_MM_verdict 18 = .ok (.ifCond .eq 5, 3) := by decide +kernel
theorem d_MM_verdict_21 : decode b_MM_verdict 21 = .ok (.iconst 0, 1) := by decide +kernel
theorem d_MM_verdict_22 : decode b_MM_verdict 22 = .ok (.ireturn, 1) := by decide +kernel
theorem d_MM_intention_0 : decode b_MM_intention 0 = .ok (.aload_n 0, 1) := by decide +kernel
theorem d_MM_intention_1 : decode b_MM_intention 1 = .ok (.iload_n 2, 1) := by decide +kernel
theorem d_MM_intention_2 : decode b_MM_intention 2 = .ok (.bipush 6, 2) := by decide +kernel
theorem d_MM_intention_4 : decode b_MM_intention 4 = .ok (.invokestatic 53, 3) := by decide +kernel
theorem d_MM_intention_7 : decode b_MM_intention 7 = .ok (.ifCond .ne 7, 3) := by decide +kernel
theorem d_MM_intention_14 : decode b_MM_intention 14 = .ok (.iconst 0, 1) := by decide +kernel
theorem d_MM_intention_15 : decode b_MM_intention 15 = .ok (.iconst 1, 1) := by decide +kernel
theorem d_MM_intention_10 : decode b_MM_intention 10 = .ok (.iconst 1, 1) := by decide +kernel
theorem d_MM_intention_11 : decode b_MM_intention 11 = .ok (.goto 4, 3) := by decide +kernel
theorem d_MM_intention_16 : decode b_MM_intention 16 = .ok (.invokevirtual 57, 3) := by decide +kernel
theorem d_MM_intention_19 : decode b_MM_intention 19 = .ok (.ifCond .eq 5, 3) := by decide +kernel
theorem d_MM_intention_22 : decode b_MM_intention 22 = .ok (.iconst 0, 1) := by decide +kernel
theorem d_MM_intention_23 : decode b_MM_intention 23 = .ok (.ireturn, 1) := by decide +kernel
theorem d_MM_advance_0 : decode b_MM_advance 0 = .ok (.aload_n 0, 1) := by decide +kernel
theorem d_MM_advance_1 : decode b_MM_advance 1 = .ok (.iload_n 1, 1) := by decide +kernel
theorem d_MM_advance_2 : decode b_MM_advance 2 = .ok (.iconst 4, 1) := by decide +kernel
theorem d_MM_advance_3 : decode b_MM_advance 3 = .ok (.invokestatic 53, 3) := by decide +kernel
theorem d_MM_advance_6 : decode b_MM_advance 6 = .ok (.ifCond .eq 14, 3) := by decide +kernel
theorem d_MM_advance_20 : decode b_MM_advance 20 = .ok (.iconst 1, 1) := by decide +kernel
theorem d_MM_advance_21 : decode b_MM_advance 21 = .ok (.goto 4, 3) := by decide +kernel
theorem d_MM_advance_25 : decode b_MM_advance 25 = .ok (.iconst 1, 1) := by decide +kernel
theorem d_MM_advance_26 : decode b_MM_advance 26 = .ok (.invokevirtual 57, 3) := by decide +kernel
theorem d_MM_advance_29 : decode b_MM_advance 29 = .ok (.ifCond .eq 5, 3) := by decide +kernel
theorem d_MM_advance_32 : decode b_MM_advance 32 = .ok (.iconst 0, 1) := by decide +kernel
theorem d_MM_advance_33 : decode b_MM_advance 33 = .ok (.ireturn, 1) := by decide +kernel
theorem d_MM_advance_9 : decode b_MM_advance 9 = .ok (.iload_n 2, 1) := by decide +kernel
theorem d_MM_advance_10 : decode b_MM_advance 10 = .ok (.ifCond .lt 10, 3) := by decide +kernel
theorem d_MM_advance_13 : decode b_MM_advance 13 = .ok (.iload_n 2, 1) := by decide +kernel
theorem d_MM_advance_14 : decode b_MM_advance 14 = .ok (.sipush 400, 3) := by decide +kernel
theorem d_MM_advance_17 : decode b_MM_advance 17 = .ok (.if_icmp .le 7, 3) := by decide +kernel
theorem d_MM_get_34 : decode b_MM_get 34 = .ok (.aload_n 0, 1) := by decide +kernel
theorem d_MM_get_35 : decode b_MM_get 35 = .ok (.iload_n 1, 1) := by decide +kernel
theorem d_MM_get_36 : decode b_MM_get 36 = .ok (.iconst 2, 1) := by decide +kernel
theorem d_MM_get_37 : decode b_MM_get 37 = .ok (.invokevirtual 75, 3) := by decide +kernel
theorem d_MM_get_40 : decode b_MM_get 40 = .ok (.ifCond .eq 5, 3) := by decide +kernel
theorem d_MM_get_43 : decode b_MM_get 43 = .ok (.lconst 0, 1) := by decide +kernel
theorem d_MM_get_44 : decode b_MM_get 44 = .ok (.lreturn, 1) := by decide +kernel
theorem d_MM_write_34 : decode b_MM_write 34 = .ok (.aload_n 0, 1) := by decide +kernel
theorem d_MM_write_35 : decode b_MM_write 35 = .ok (.iload_n 1, 1) := by decide +kernel
theorem d_MM_write_36 : decode b_MM_write 36 = .ok (.iconst 2, 1) := by decide +kernel
theorem d_MM_write_37 : decode b_MM_write 37 = .ok (.invokevirtual 75, 3) := by decide +kernel
theorem d_MM_write_40 : decode b_MM_write 40 = .ok (.ifCond .eq 5, 3) := by decide +kernel
theorem d_MM_write_43 : decode b_MM_write 43 = .ok (.iconst 0, 1) := by decide +kernel
theorem d_MM_write_44 : decode b_MM_write 44 = .ok (.ireturn, 1) := by decide +kernel
theorem d_MM_part_34 : decode b_MM_part 34 = .ok (.aload_n 0, 1) := by decide +kernel
theorem d_MM_part_35 : decode b_MM_part 35 = .ok (.iload_n 1, 1) := by decide +kernel
theorem d_MM_part_36 : decode b_MM_part 36 = .ok (.iconst 2, 1) := by decide +kernel
theorem d_MM_part_37 : decode b_MM_part 37 = .ok (.invokevirtual 75, 3) := by decide +kernel
theorem d_MM_part_40 : decode b_MM_part 40 = .ok (.ifCond .eq 5, 3) := by decide +kernel
theorem d_MM_part_43 : decode b_MM_part 43 = .ok (.lconst 0, 1) := by decide +kernel
theorem d_MM_part_44 : decode b_MM_part 44 = .ok (.lreturn, 1) := by decide +kernel
theorem d_MM_commit_24 : decode b_MM_commit 24 = .ok (.aload_n 0, 1) := by decide +kernel
theorem d_MM_commit_25 : decode b_MM_commit 25 = .ok (.iload_n 1, 1) := by decide +kernel
theorem d_MM_commit_26 : decode b_MM_commit 26 = .ok (.iconst 2, 1) := by decide +kernel
theorem d_MM_commit_27 : decode b_MM_commit 27 = .ok (.invokevirtual 75, 3) := by decide +kernel
theorem d_MM_commit_30 : decode b_MM_commit 30 = .ok (.ifCond .eq 5, 3) := by decide +kernel
theorem d_MM_commit_33 : decode b_MM_commit 33 = .ok (.iconst 0, 1) := by decide +kernel
theorem d_MM_commit_34 : decode b_MM_commit 34 = .ok (.ireturn, 1) := by decide +kernel
theorem d_MM_abort_23 : decode b_MM_abort 23 = .ok (.aload_n 0, 1) := by decide +kernel
theorem d_MM_abort_24 : decode b_MM_abort 24 = .ok (.iload_n 1, 1) := by decide +kernel
theorem d_MM_abort_25 : decode b_MM_abort 25 = .ok (.iconst 2, 1) := by decide +kernel
theorem d_MM_abort_26 : decode b_MM_abort 26 = .ok (.invokevirtual 75, 3) := by decide +kernel
theorem d_MM_abort_29 : decode b_MM_abort 29 = .ok (.ifCond .eq 4, 3) := by decide +kernel
theorem d_MM_abort_32 : decode b_MM_abort 32 = .ok (.return_, 1) := by decide +kernel
theorem d_MM_begin_39 : decode b_MM_begin 39 = .ok (.aload_n 0, 1) := by decide +kernel
theorem d_MM_begin_40 : decode b_MM_begin 40 = .ok (.aload_n 0, 1) := by decide +kernel
theorem d_MM_begin_41 : decode b_MM_begin 41 = .ok (.getfield 15, 3) := by decide +kernel
theorem d_MM_begin_44 : decode b_MM_begin 44 = .ok (.iload_n 1, 1) := by decide +kernel
theorem d_MM_begin_45 : decode b_MM_begin 45 = .ok (.aaload, 1) := by decide +kernel
theorem d_MM_begin_46 : decode b_MM_begin 46 = .ok (.getfield 61, 3) := by decide +kernel
theorem d_MM_begin_49 : decode b_MM_begin 49 = .ok (.iconst 2, 1) := by decide +kernel
theorem d_MM_begin_50 : decode b_MM_begin 50 = .ok (.invokevirtual 57, 3) := by decide +kernel
theorem d_MM_begin_53 : decode b_MM_begin 53 = .ok (.ifCond .eq 4, 3) := by decide +kernel
theorem d_MM_begin_56 : decode b_MM_begin 56 = .ok (.return_, 1) := by decide +kernel
theorem d_MM_begin_57 : decode b_MM_begin 57 = .ok (.aload_n 0, 1) := by decide +kernel
theorem d_MM_begin_58 : decode b_MM_begin 58 = .ok (.getfield 15, 3) := by decide +kernel
theorem d_MM_begin_61 : decode b_MM_begin 61 = .ok (.iload_n 1, 1) := by decide +kernel
theorem d_MM_begin_62 : decode b_MM_begin 62 = .ok (.aaload, 1) := by decide +kernel
theorem d_MM_begin_63 : decode b_MM_begin 63 = .ok (.astore 4, 2) := by decide +kernel
theorem d_MM_begin_65 : decode b_MM_begin 65 = .ok (.aload 4, 2) := by decide +kernel
theorem d_MM_begin_67 : decode b_MM_begin 67 = .ok (.invokevirtual 63, 3) := by decide +kernel
theorem d_MM_begin_70 : decode b_MM_begin 70 = .ok (.aload 4, 2) := by decide +kernel
theorem d_MM_begin_72 : decode b_MM_begin 72 = .ok (.iconst 1, 1) := by decide +kernel
theorem d_MM_begin_73 : decode b_MM_begin 73 = .ok (.putfield 61, 3) := by decide +kernel
theorem d_MM_begin_76 : decode b_MM_begin 76 = .ok (.aload 4, 2) := by decide +kernel
theorem d_MM_begin_78 : decode b_MM_begin 78 = .ok (.iload_n 2, 1) := by decide +kernel
theorem d_MM_begin_79 : decode b_MM_begin 79 = .ok (.putfield 66, 3) := by decide +kernel
theorem d_MM_begin_82 : decode b_MM_begin 82 = .ok (.aload 4, 2) := by decide +kernel
theorem d_MM_begin_84 : decode b_MM_begin 84 = .ok (.iload_n 3, 1) := by decide +kernel
theorem d_MM_begin_85 : decode b_MM_begin 85 = .ok (.putfield 69, 3) := by decide +kernel
theorem d_MM_begin_88 : decode b_MM_begin 88 = .ok (.aload 4, 2) := by decide +kernel
theorem d_MM_begin_90 : decode b_MM_begin 90 = .ok (.aload_n 0, 1) := by decide +kernel
theorem d_MM_begin_91 : decode b_MM_begin 91 = .ok (.getfield 18, 3) := by decide +kernel
theorem d_MM_begin_94 : decode b_MM_begin 94 = .ok (.iload_n 2, 1) := by decide +kernel
theorem d_MM_begin_95 : decode b_MM_begin 95 = .ok (.iaload, 1) := by decide +kernel
theorem d_MM_begin_96 : decode b_MM_begin 96 = .ok (.putfield 72, 3) := by decide +kernel
theorem d_MM_begin_99 : decode b_MM_begin 99 = .ok (.return_, 1) := by decide +kernel
theorem d_MM_get_45 : decode b_MM_get 45 = .ok (.aload_n 0, 1) := by decide +kernel
theorem d_MM_get_46 : decode b_MM_get 46 = .ok (.getfield 15, 3) := by decide +kernel
theorem d_MM_get_49 : decode b_MM_get 49 = .ok (.iload_n 1, 1) := by decide +kernel
theorem d_MM_get_50 : decode b_MM_get 50 = .ok (.aaload, 1) := by decide +kernel
theorem d_MM_get_51 : decode b_MM_get 51 = .ok (.astore_n 3, 1) := by decide +kernel
theorem d_MM_get_52 : decode b_MM_get 52 = .ok (.aload_n 3, 1) := by decide +kernel
theorem d_MM_get_53 : decode b_MM_get 53 = .ok (.iload_n 2, 1) := by decide +kernel
theorem d_MM_get_54 : decode b_MM_get 54 = .ok (.invokevirtual 78, 3) := by decide +kernel
theorem d_MM_get_57 : decode b_MM_get 57 = .ok (.ifCond .ge 29, 3) := by decide +kernel
theorem d_MM_get_86 : decode b_MM_get 86 = .ok (.aload_n 0, 1) := by decide +kernel
theorem d_MM_get_87 : decode b_MM_get 87 = .ok (.aload_n 3, 1) := by decide +kernel
theorem d_MM_get_88 : decode b_MM_get 88 = .ok (.getfield 72, 3) := by decide +kernel
theorem d_MM_get_91 : decode b_MM_get 91 = .ok (.invokevirtual 88, 3) := by decide +kernel
theorem d_MM_get_94 : decode b_MM_get 94 = .ok (.aload_n 0, 1) := by decide +kernel
theorem d_MM_get_95 : decode b_MM_get 95 = .ok (.aload_n 3, 1) := by decide +kernel
theorem d_MM_get_96 : decode b_MM_get 96 = .ok (.invokevirtual 39, 3) := by decide +kernel
theorem d_MM_get_99 : decode b_MM_get 99 = .ok (.aload_n 0, 1) := by decide +kernel
theorem d_MM_get_100 : decode b_MM_get 100 = .ok (.aload_n 0, 1) := by decide +kernel
theorem d_MM_get_101 : decode b_MM_get 101 = .ok (.getfield 26, 3) := by decide +kernel
theorem d_MM_get_104 : decode b_MM_get 104 = .ok (.iload_n 2, 1) := by decide +kernel
theorem d_MM_get_105 : decode b_MM_get 105 = .ok (.baload, 1) := by decide +kernel
theorem d_MM_get_106 : decode b_MM_get 106 = .ok (.ifCond .ne 7, 3) := by decide +kernel
theorem d_MM_get_113 : decode b_MM_get 113 = .ok (.iconst 0, 1) := by decide +kernel
theorem d_MM_get_114 : decode b_MM_get 114 = .ok (.iconst 3, 1) := by decide +kernel
theorem d_MM_get_115 : decode b_MM_get 115 = .ok (.invokevirtual 57, 3) := by decide +kernel
theorem d_MM_get_118 : decode b_MM_get 118 = .ok (.ifCond .eq 7, 3) := by decide +kernel
theorem d_MM_get_125 : decode b_MM_get 125 = .ok (.aload_n 0, 1) := by decide +kernel
theorem d_MM_get_126 : decode b_MM_get 126 = .ok (.getfield 22, 3) := by decide +kernel
theorem d_MM_get_129 : decode b_MM_get 129 = .ok (.iload_n 2, 1) := by decide +kernel
theorem d_MM_get_130 : decode b_MM_get 130 = .ok (.laload, 1) := by decide +kernel
theorem d_MM_get_131 : decode b_MM_get 131 = .ok (.lreturn, 1) := by decide +kernel
theorem d_MM_get_60 : decode b_MM_get 60 = .ok (.aload_n 3, 1) := by decide +kernel
theorem d_MM_get_61 : decode b_MM_get 61 = .ok (.getfield 82, 3) := by decide +kernel
theorem d_MM_get_64 : decode b_MM_get 64 = .ok (.iload_n 2, 1) := by decide +kernel
theorem d_MM_get_65 : decode b_MM_get 65 = .ok (.baload, 1) := by decide +kernel
theorem d_MM_get_66 : decode b_MM_get 66 = .ok (.ifCond .ne 20, 3) := by decide +kernel
theorem d_MM_get_69 : decode b_MM_get 69 = .ok (.aload_n 3, 1) := by decide +kernel
theorem d_MM_get_70 : decode b_MM_get 70 = .ok (.getfield 82, 3) := by decide +kernel
theorem d_MM_get_73 : decode b_MM_get 73 = .ok (.iload_n 2, 1) := by decide +kernel
theorem d_MM_get_74 : decode b_MM_get 74 = .ok (.iconst 1, 1) := by decide +kernel
theorem d_MM_get_75 : decode b_MM_get 75 = .ok (.bastore, 1) := by decide +kernel
theorem d_MM_get_76 : decode b_MM_get 76 = .ok (.aload_n 3, 1) := by decide +kernel
theorem d_MM_get_77 : decode b_MM_get 77 = .ok (.dup, 1) := by decide +kernel
theorem d_MM_get_78 : decode b_MM_get 78 = .ok (.getfield 85, 3) := by decide +kernel
theorem d_MM_get_81 : decode b_MM_get 81 = .ok (.iconst 1, 1) := by decide +kernel
theorem d_MM_get_82 : decode b_MM_get 82 = .ok (.iadd, 1) := by decide +kernel
theorem d_MM_get_83 : decode b_MM_get 83 = .ok (.putfield 85, 3) := by decide +kernel
theorem d_MM_get_109 : decode b_MM_get 109 = .ok (.iconst 1, 1) := by decide +kernel
theorem d_MM_get_110 : decode b_MM_get 110 = .ok (.goto 4, 3) := by decide +kernel
theorem d_MM_get_121 : decode b_MM_get 121 = .ok (.lconst 0, 1) := by decide +kernel
theorem d_MM_get_122 : decode b_MM_get 122 = .ok (.goto 9, 3) := by decide +kernel
theorem d_MM_write_45 : decode b_MM_write 45 = .ok (.aload_n 0, 1) := by decide +kernel
theorem d_MM_write_46 : decode b_MM_write 46 = .ok (.getfield 15, 3) := by decide +kernel
theorem d_MM_write_49 : decode b_MM_write 49 = .ok (.iload_n 1, 1) := by decide +kernel
theorem d_MM_write_50 : decode b_MM_write 50 = .ok (.aaload, 1) := by decide +kernel
theorem d_MM_write_51 : decode b_MM_write 51 = .ok (.astore 6, 2) := by decide +kernel
theorem d_MM_write_53 : decode b_MM_write 53 = .ok (.aload 6, 2) := by decide +kernel
theorem d_MM_write_55 : decode b_MM_write 55 = .ok (.iload_n 2, 1) := by decide +kernel
theorem d_MM_write_56 : decode b_MM_write 56 = .ok (.invokevirtual 78, 3) := by decide +kernel
theorem d_MM_write_59 : decode b_MM_write 59 = .ok (.istore 7, 2) := by decide +kernel
theorem d_MM_write_61 : decode b_MM_write 61 = .ok (.aload_n 0, 1) := by decide +kernel
theorem d_MM_write_62 : decode b_MM_write 62 = .ok (.iload 7, 2) := by decide +kernel
theorem d_MM_write_64 : decode b_MM_write 64 = .ok (.ifCond .ge 17, 3) := by decide +kernel
theorem d_MM_write_81 : decode b_MM_write 81 = .ok (.iconst 0, 1) := by decide +kernel
theorem d_MM_write_82 : decode b_MM_write 82 = .ok (.iconst 3, 1) := by decide +kernel
theorem d_MM_write_83 : decode b_MM_write 83 = .ok (.invokevirtual 57, 3) := by decide +kernel
theorem d_MM_write_86 : decode b_MM_write 86 = .ok (.ifCond .eq 5, 3) := by decide +kernel
theorem d_MM_write_91 : decode b_MM_write 91 = .ok (.iload 7, 2) := by decide +kernel
theorem d_MM_write_93 : decode b_MM_write 93 = .ok (.ifCond .ge 17, 3) := by decide +kernel
theorem d_MM_write_110 : decode b_MM_write 110 = .ok (.aload 6, 2) := by decide +kernel
theorem d_MM_write_112 : decode b_MM_write 112 = .ok (.getfield 46, 3) := by decide +kernel
theorem d_MM_write_115 : decode b_MM_write 115 = .ok (.iload 7, 2) := by decide +kernel
theorem d_MM_write_117 : decode b_MM_write 117 = .ok (.iload_n 2, 1) := by decide +kernel
theorem d_MM_write_118 : decode b_MM_write 118 = .ok (.iastore, 1) := by decide +kernel
theorem d_MM_write_119 : decode b_MM_write 119 = .ok (.aload 6, 2) := by decide +kernel
theorem d_MM_write_121 : decode b_MM_write 121 = .ok (.getfield 49, 3) := by decide +kernel
theorem d_MM_write_124 : decode b_MM_write 124 = .ok (.iload 7, 2) := by decide +kernel
theorem d_MM_write_126 : decode b_MM_write 126 = .ok (.lload_n 3, 1) := by decide +kernel
theorem d_MM_write_127 : decode b_MM_write 127 = .ok (.lastore, 1) := by decide +kernel
theorem d_MM_write_128 : decode b_MM_write 128 = .ok (.aload 6, 2) := by decide +kernel
theorem d_MM_write_130 : decode b_MM_write 130 = .ok (.getfield 50, 3) := by decide +kernel
theorem d_MM_write_133 : decode b_MM_write 133 = .ok (.iload 7, 2) := by decide +kernel
theorem d_MM_write_135 : decode b_MM_write 135 = .ok (.iload 5, 2) := by decide +kernel
theorem d_MM_write_137 : decode b_MM_write 137 = .ok (.bastore, 1) := by decide +kernel
theorem d_MM_write_138 : decode b_MM_write 138 = .ok (.aload 6, 2) := by decide +kernel
theorem d_MM_write_140 : decode b_MM_write 140 = .ok (.getfield 43, 3) := by decide +kernel
theorem d_MM_write_143 : decode b_MM_write 143 = .ok (.ireturn, 1) := by decide +kernel
theorem d_MM_write_67 : decode b_MM_write 67 = .ok (.aload 6, 2) := by decide +kernel
theorem d_MM_write_69 : decode b_MM_write 69 = .ok (.getfield 43, 3) := by decide +kernel
theorem d_MM_write_72 : decode b_MM_write 72 = .ok (.bipush 8, 2) := by decide +kernel
theorem d_MM_write_74 : decode b_MM_write 74 = .ok (.if_icmp .ne 7, 3) := by decide +kernel
theorem d_MM_write_96 : decode b_MM_write 96 = .ok (.aload 6, 2) := by decide +kernel
theorem d_MM_write_98 : decode b_MM_write 98 = .ok (.dup, 1) := by decide +kernel
theorem d_MM_write_99 : decode b_MM_write 99 = .ok (.getfield 43, 3) := by decide +kernel
theorem d_MM_write_102 : decode b_MM_write 102 = .ok (.dup_x1, 1) := by decide +kernel
theorem d_MM_write_103 : decode b_MM_write 103 = .ok (.iconst 1, 1) := by decide +kernel
theorem d_MM_write_104 : decode b_MM_write 104 = .ok (.iadd, 1) := by decide +kernel
theorem d_MM_write_105 : decode b_MM_write 105 = .ok (.putfield 43, 3) := by decide +kernel
theorem d_MM_write_108 : decode b_MM_write 108 = .ok (.istore 7, 2) := by decide +kernel
theorem d_MM_write_77 : decode b_MM_write 77 = .ok (.iconst 1, 1) := by decide +kernel
theorem d_MM_write_78 : decode b_MM_write 78 = .ok (.goto 4, 3) := by decide +kernel
theorem d_MM_write_89 : decode b_MM_write 89 = .ok (.iconst 0, 1) := by decide +kernel
theorem d_MM_write_90 : decode b_MM_write 90 = .ok (.ireturn, 1) := by decide +kernel
theorem d_MM_put_0 : decode b_MM_put 0 = .ok (.aload_n 0, 1) := by decide +kernel
theorem d_MM_put_1 : decode b_MM_put 1 = .ok (.iload_n 1, 1) := by decide +kernel
theorem d_MM_put_2 : decode b_MM_put 2 = .ok (.iload_n 2, 1) := by decide +kernel
theorem d_MM_put_3 : decode b_MM_put 3 = .ok (.lload_n 3, 1) := by decide +kernel
theorem d_MM_put_4 : decode b_MM_put 4 = .ok (.iconst 0, 1) := by decide +kernel
theorem d_MM_put_5 : decode b_MM_put 5 = .ok (.invokevirtual 92, 3) := by decide +kernel
theorem d_MM_put_8 : decode b_MM_put 8 = .ok (.ireturn, 1) := by decide +kernel
theorem d_MM_delete_0 : decode b_MM_delete 0 = .ok (.aload_n 0, 1) := by decide +kernel
theorem d_MM_delete_1 : decode b_MM_delete 1 = .ok (.iload_n 1, 1) := by decide +kernel
theorem d_MM_delete_2 : decode b_MM_delete 2 = .ok (.iload_n 2, 1) := by decide +kernel
theorem d_MM_delete_3 : decode b_MM_delete 3 = .ok (.lconst 0, 1) := by decide +kernel
theorem d_MM_delete_4 : decode b_MM_delete 4 = .ok (.iconst 1, 1) := by decide +kernel
theorem d_MM_delete_5 : decode b_MM_delete 5 = .ok (.invokevirtual 92, 3) := by decide +kernel
theorem d_MM_delete_8 : decode b_MM_delete 8 = .ok (.ireturn, 1) := by decide +kernel
theorem d_MM_part_45 : decode b_MM_part 45 = .ok (.aload_n 0, 1) := by decide +kernel
theorem d_MM_part_46 : decode b_MM_part 46 = .ok (.getfield 15, 3) := by decide +kernel
theorem d_MM_part_49 : decode b_MM_part 49 = .ok (.iload_n 1, 1) := by decide +kernel
theorem d_MM_part_50 : decode b_MM_part 50 = .ok (.aaload, 1) := by decide +kernel
theorem d_MM_part_51 : decode b_MM_part 51 = .ok (.astore 5, 2) := by decide +kernel
theorem d_MM_part_53 : decode b_MM_part 53 = .ok (.aload_n 0, 1) := by decide +kernel
theorem d_MM_part_54 : decode b_MM_part 54 = .ok (.aload 5, 2) := by decide +kernel
theorem d_MM_part_56 : decode b_MM_part 56 = .ok (.getfield 100, 3) := by decide +kernel
theorem d_MM_part_59 : decode b_MM_part 59 = .ok (.bipush 8, 2) := by decide +kernel
theorem d_MM_part_61 : decode b_MM_part 61 = .ok (.if_icmp .ne 7, 3) := by decide +kernel
theorem d_MM_part_64 : decode b_MM_part 64 = .ok (.iconst 1, 1) := by decide +kernel
theorem d_MM_part_65 : decode b_MM_part 65 = .ok (.goto 4, 3) := by decide +kernel
theorem d_MM_part_69 : decode b_MM_part 69 = .ok (.iconst 3, 1) := by decide +kernel
theorem d_MM_part_70 : decode b_MM_part 70 = .ok (.invokevirtual 57, 3) := by decide +kernel
theorem d_MM_part_73 : decode b_MM_part 73 = .ok (.ifCond .eq 5, 3) := by decide +kernel
theorem d_MM_part_76 : decode b_MM_part 76 = .ok (.lconst 0, 1) := by decide +kernel
theorem d_MM_part_77 : decode b_MM_part 77 = .ok (.lreturn, 1) := by decide +kernel
theorem d_MM_part_68 : decode b_MM_part 68 = .ok (.iconst 0, 1) := by decide +kernel
theorem d_MM_part_78 : decode b_MM_part 78 = .ok (.aload 5, 2) := by decide +kernel
theorem d_MM_part_80 : decode b_MM_part 80 = .ok (.getfield 103, 3) := by decide +kernel
theorem d_MM_part_83 : decode b_MM_part 83 = .ok (.aload 5, 2) := by decide +kernel
theorem d_MM_part_85 : decode b_MM_part 85 = .ok (.getfield 100, 3) := by decide +kernel
theorem d_MM_part_88 : decode b_MM_part 88 = .ok (.iload_n 2, 1) := by decide +kernel
theorem d_MM_part_89 : decode b_MM_part 89 = .ok (.iastore, 1) := by decide +kernel
theorem d_MM_part_90 : decode b_MM_part 90 = .ok (.aload 5, 2) := by decide +kernel
theorem d_MM_part_92 : decode b_MM_part 92 = .ok (.getfield 106, 3) := by decide +kernel
theorem d_MM_part_95 : decode b_MM_part 95 = .ok (.aload 5, 2) := by decide +kernel
theorem d_MM_part_97 : decode b_MM_part 97 = .ok (.dup, 1) := by decide +kernel
theorem d_MM_part_98 : decode b_MM_part 98 = .ok (.getfield 100, 3) := by decide +kernel
theorem d_MM_part_101 : decode b_MM_part 101 = .ok (.dup_x1, 1) := by decide +kernel
theorem d_MM_part_102 : decode b_MM_part 102 = .ok (.iconst 1, 1) := by decide +kernel
theorem d_MM_part_103 : decode b_MM_part 103 = .ok (.iadd, 1) := by decide +kernel
theorem d_MM_part_104 : decode b_MM_part 104 = .ok (.putfield 100, 3) := by decide +kernel
theorem d_MM_part_107 : decode b_MM_part 107 = .ok (.iload_n 3, 1) := by decide +kernel
theorem d_MM_part_108 : decode b_MM_part 108 = .ok (.iastore, 1) := by decide +kernel
theorem d_MM_part_109 : decode b_MM_part 109 = .ok (.aload_n 0, 1) := by decide +kernel
theorem d_MM_part_110 : decode b_MM_part 110 = .ok (.aload 5, 2) := by decide +kernel
theorem d_MM_part_112 : decode b_MM_part 112 = .ok (.getfield 72, 3) := by decide +kernel
theorem d_MM_part_115 : decode b_MM_part 115 = .ok (.invokevirtual 88, 3) := by decide +kernel
theorem d_MM_part_118 : decode b_MM_part 118 = .ok (.aload_n 0, 1) := by decide +kernel
theorem d_MM_part_119 : decode b_MM_part 119 = .ok (.aload 5, 2) := by decide +kernel
theorem d_MM_part_121 : decode b_MM_part 121 = .ok (.invokevirtual 39, 3) := by decide +kernel
theorem d_MM_part_124 : decode b_MM_part 124 = .ok (.aload_n 0, 1) := by decide +kernel
theorem d_MM_part_125 : decode b_MM_part 125 = .ok (.iload_n 2, 1) := by decide +kernel
theorem d_MM_part_126 : decode b_MM_part 126 = .ok (.iload_n 3, 1) := by decide +kernel
theorem d_MM_part_127 : decode b_MM_part 127 = .ok (.iload 4, 2) := by decide +kernel
theorem d_MM_part_129 : decode b_MM_part 129 = .ok (.invokevirtual 109, 3) := by decide +kernel
theorem d_MM_part_132 : decode b_MM_part 132 = .ok (.lreturn, 1) := by decide +kernel
theorem d_MM_abort_33 : decode b_MM_abort 33 = .ok (.aload_n 0, 1) := by decide +kernel
theorem d_MM_abort_34 : decode b_MM_abort 34 = .ok (.getfield 15, 3) := by decide +kernel
theorem d_MM_abort_37 : decode b_MM_abort 37 = .ok (.iload_n 1, 1) := by decide +kernel
theorem d_MM_abort_38 : decode b_MM_abort 38 = .ok (.aaload, 1) := by decide +kernel
theorem d_MM_abort_39 : decode b_MM_abort 39 = .ok (.iconst 0, 1) := by decide +kernel
theorem d_MM_abort_40 : decode b_MM_abort 40 = .ok (.putfield 61, 3) := by decide +kernel
theorem d_MM_abort_43 : decode b_MM_abort 43 = .ok (.return_, 1) := by decide +kernel
theorem d_MM_commit_35 : decode b_MM_commit 35 = .ok (.aload_n 0, 1) := by decide +kernel
theorem d_MM_commit_36 : decode b_MM_commit 36 = .ok (.getfield 15, 3) := by decide +kernel
theorem d_MM_commit_39 : decode b_MM_commit 39 = .ok (.iload_n 1, 1) := by decide +kernel
theorem d_MM_commit_40 : decode b_MM_commit 40 = .ok (.aaload, 1) := by decide +kernel
theorem d_MM_commit_41 : decode b_MM_commit 41 = .ok (.astore_n 2, 1) := by decide +kernel
theorem d_MM_commit_42 : decode b_MM_commit 42 = .ok (.aload_n 2, 1) := by decide +kernel
theorem d_MM_commit_43 : decode b_MM_commit 43 = .ok (.getfield 43, 3) := by decide +kernel
theorem d_MM_commit_46 : decode b_MM_commit 46 = .ok (.ifCond .le 79, 3) := by decide +kernel
theorem d_MM_commit_125 : decode b_MM_commit 125 = .ok (.aload_n 2, 1) := by decide +kernel
theorem d_MM_commit_126 : decode b_MM_commit 126 = .ok (.iconst 0, 1) := by decide +kernel
theorem d_MM_commit_127 : decode b_MM_commit 127 = .ok (.putfield 61, 3) := by decide +kernel
theorem d_MM_commit_130 : decode b_MM_commit 130 = .ok (.aload_n 2, 1) := by decide +kernel
theorem d_MM_commit_131 : decode b_MM_commit 131 = .ok (.getfield 43, 3) := by decide +kernel
theorem d_MM_commit_134 : decode b_MM_commit 134 = .ok (.ifCond .le 12, 3) := by decide +kernel
theorem d_MM_commit_146 : decode b_MM_commit 146 = .ok (.iconst (-1), 1) := by decide +kernel
theorem d_MM_commit_147 : decode b_MM_commit 147 = .ok (.ireturn, 1) := by decide +kernel
theorem d_MM_commit_49 : decode b_MM_commit 49 = .ok (.aload_n 0, 1) := by decide +kernel
theorem d_MM_commit_50 : decode b_MM_commit 50 = .ok (.aload_n 0, 1) := by decide +kernel
theorem d_MM_commit_51 : decode b_MM_commit 51 = .ok (.getfield 113, 3) := by decide +kernel
theorem d_MM_commit_54 : decode b_MM_commit 54 = .ok (.sipush 400, 3) := by decide +kernel
theorem d_MM_commit_57 : decode b_MM_commit 57 = .ok (.if_icmp .ne 7, 3) := by decide +kernel
theorem d_MM_commit_60 : decode b_MM_commit 60 = .ok (.iconst 1, 1) := by decide +kernel
theorem d_MM_commit_61 : decode b_MM_commit 61 = .ok (.goto 4, 3) := by decide +kernel
theorem d_MM_commit_65 : decode b_MM_commit 65 = .ok (.iconst 3, 1) := by decide +kernel
theorem d_MM_commit_66 : decode b_MM_commit 66 = .ok (.invokevirtual 57, 3) := by decide +kernel
theorem d_MM_commit_69 : decode b_MM_commit 69 = .ok (.ifCond .eq 5, 3) := by decide +kernel
theorem d_MM_commit_72 : decode b_MM_commit 72 = .ok (.iconst 0, 1) := by decide +kernel
theorem d_MM_commit_73 : decode b_MM_commit 73 = .ok (.ireturn, 1) := by decide +kernel
theorem d_MM_state_33 : decode b_MM_state 33 = .ok (.aload_n 0, 1) := by decide +kernel
theorem d_MM_state_34 : decode b_MM_state 34 = .ok (.aload_n 0, 1) := by decide +kernel
theorem d_MM_state_35 : decode b_MM_state 35 = .ok (.getfield 18, 3) := by decide +kernel
theorem d_MM_state_38 : decode b_MM_state 38 = .ok (.iload_n 1, 1) := by decide +kernel
theorem d_MM_state_39 : decode b_MM_state 39 = .ok (.iaload, 1) := by decide +kernel
theorem d_MM_state_40 : decode b_MM_state 40 = .ok (.invokevirtual 88, 3) := by decide +kernel
theorem d_MM_state_43 : decode b_MM_state 43 = .ok (.aload_n 0, 1) := by decide +kernel
theorem d_MM_state_44 : decode b_MM_state 44 = .ok (.aload_n 0, 1) := by decide +kernel
theorem d_MM_state_45 : decode b_MM_state 45 = .ok (.getfield 26, 3) := by decide +kernel
theorem d_MM_state_48 : decode b_MM_state 48 = .ok (.iload_n 2, 1) := by decide +kernel
theorem d_MM_state_49 : decode b_MM_state 49 = .ok (.baload, 1) := by decide +kernel
theorem d_MM_state_50 : decode b_MM_state 50 = .ok (.ifCond .ne 7, 3) := by decide +kernel
theorem d_MM_state_57 : decode b_MM_state 57 = .ok (.iconst 0, 1) := by decide +kernel
theorem d_MM_state_58 : decode b_MM_state 58 = .ok (.iconst 2, 1) := by decide +kernel
theorem d_MM_state_59 : decode b_MM_state 59 = .ok (.invokevirtual 57, 3) := by decide +kernel
theorem d_MM_state_62 : decode b_MM_state 62 = .ok (.ifCond .eq 7, 3) := by decide +kernel
theorem d_MM_state_69 : decode b_MM_state 69 = .ok (.aload_n 0, 1) := by decide +kernel
theorem d_MM_state_70 : decode b_MM_state 70 = .ok (.getfield 22, 3) := by decide +kernel
theorem d_MM_state_73 : decode b_MM_state 73 = .ok (.iload_n 2, 1) := by decide +kernel
theorem d_MM_state_74 : decode b_MM_state 74 = .ok (.laload, 1) := by decide +kernel
theorem d_MM_state_75 : decode b_MM_state 75 = .ok (.lreturn, 1) := by decide +kernel
theorem d_MM_state_53 : decode b_MM_state 53 = .ok (.iconst 1, 1) := by decide +kernel
theorem d_MM_state_54 : decode b_MM_state 54 = .ok (.goto 4, 3) := by decide +kernel
theorem d_MM_state_65 : decode b_MM_state 65 = .ok (.lconst 0, 1) := by decide +kernel
theorem d_MM_state_66 : decode b_MM_state 66 = .ok (.goto 9, 3) := by decide +kernel
theorem d_MM_look_33 : decode b_MM_look 33 = .ok (.aload_n 0, 1) := by decide +kernel
theorem d_MM_look_34 : decode b_MM_look 34 = .ok (.aload_n 0, 1) := by decide +kernel
theorem d_MM_look_35 : decode b_MM_look 35 = .ok (.getfield 18, 3) := by decide +kernel
theorem d_MM_look_38 : decode b_MM_look 38 = .ok (.iload_n 1, 1) := by decide +kernel
theorem d_MM_look_39 : decode b_MM_look 39 = .ok (.iaload, 1) := by decide +kernel
theorem d_MM_look_40 : decode b_MM_look 40 = .ok (.invokevirtual 88, 3) := by decide +kernel
theorem d_MM_look_43 : decode b_MM_look 43 = .ok (.aload_n 0, 1) := by decide +kernel
theorem d_MM_look_44 : decode b_MM_look 44 = .ok (.iload_n 2, 1) := by decide +kernel
theorem d_MM_look_45 : decode b_MM_look 45 = .ok (.iload_n 3, 1) := by decide +kernel
theorem d_MM_look_46 : decode b_MM_look 46 = .ok (.iload 4, 2) := by decide +kernel
theorem d_MM_look_48 : decode b_MM_look 48 = .ok (.invokevirtual 109, 3) := by decide +kernel
theorem d_MM_look_51 : decode b_MM_look 51 = .ok (.lreturn, 1) := by decide +kernel
theorem d_MM_verdict_23 : decode b_MM_verdict 23 = .ok (.aload_n 0, 1) := by decide +kernel
theorem d_MM_verdict_24 : decode b_MM_verdict 24 = .ok (.iload_n 2, 1) := by decide +kernel
theorem d_MM_verdict_25 : decode b_MM_verdict 25 = .ok (.aload_n 0, 1) := by decide +kernel
theorem d_MM_verdict_26 : decode b_MM_verdict 26 = .ok (.getfield 113, 3) := by decide +kernel
theorem d_MM_verdict_29 : decode b_MM_verdict 29 = .ok (.invokestatic 53, 3) := by decide +kernel
theorem d_MM_verdict_32 : decode b_MM_verdict 32 = .ok (.ifCond .ne 7, 3) := by decide +kernel
theorem d_MM_verdict_35 : decode b_MM_verdict 35 = .ok (.iconst 1, 1) := by decide +kernel
theorem d_MM_verdict_36 : decode b_MM_verdict 36 = .ok (.goto 4, 3) := by decide +kernel
theorem d_MM_verdict_40 : decode b_MM_verdict 40 = .ok (.iconst 2, 1) := by decide +kernel
theorem d_MM_verdict_41 : decode b_MM_verdict 41 = .ok (.invokevirtual 57, 3) := by decide +kernel
theorem d_MM_verdict_44 : decode b_MM_verdict 44 = .ok (.ifCond .eq 5, 3) := by decide +kernel
theorem d_MM_verdict_47 : decode b_MM_verdict 47 = .ok (.iconst 0, 1) := by decide +kernel
theorem d_MM_verdict_48 : decode b_MM_verdict 48 = .ok (.ireturn, 1) := by decide +kernel
theorem d_MM_intention_24 : decode b_MM_intention 24 = .ok (.aload_n 0, 1) := by decide +kernel
theorem d_MM_intention_25 : decode b_MM_intention 25 = .ok (.iload_n 1, 1) := by decide +kernel
theorem d_MM_intention_26 : decode b_MM_intention 26 = .ok (.aload_n 0, 1) := by decide +kernel
theorem d_MM_intention_27 : decode b_MM_intention 27 = .ok (.getfield 113, 3) := by decide +kernel
theorem d_MM_intention_30 : decode b_MM_intention 30 = .ok (.invokestatic 53, 3) := by decide +kernel
theorem d_MM_intention_33 : decode b_MM_intention 33 = .ok (.ifCond .ne 7, 3) := by decide +kernel
theorem d_MM_intention_36 : decode b_MM_intention 36 = .ok (.iconst 1, 1) := by decide +kernel
theorem d_MM_intention_37 : decode b_MM_intention 37 = .ok (.goto 4, 3) := by decide +kernel
theorem d_MM_intention_41 : decode b_MM_intention 41 = .ok (.iconst 2, 1) := by decide +kernel
theorem d_MM_intention_42 : decode b_MM_intention 42 = .ok (.invokevirtual 57, 3) := by decide +kernel
theorem d_MM_intention_45 : decode b_MM_intention 45 = .ok (.ifCond .eq 5, 3) := by decide +kernel
theorem d_MM_intention_48 : decode b_MM_intention 48 = .ok (.iconst 0, 1) := by decide +kernel
theorem d_MM_intention_49 : decode b_MM_intention 49 = .ok (.ireturn, 1) := by decide +kernel
theorem d_MM_verdict_39 : decode b_MM_verdict 39 = .ok (.iconst 0, 1) := by decide +kernel
theorem d_MM_verdict_49 : decode b_MM_verdict 49 = .ok (.iload_n 2, 1) := by decide +kernel
theorem d_MM_verdict_50 : decode b_MM_verdict 50 = .ok (.aload_n 0, 1) := by decide +kernel
theorem d_MM_verdict_51 : decode b_MM_verdict 51 = .ok (.getfield 18, 3) := by decide +kernel
theorem d_MM_verdict_54 : decode b_MM_verdict 54 = .ok (.iload_n 1, 1) := by decide +kernel
theorem d_MM_verdict_55 : decode b_MM_verdict 55 = .ok (.iaload, 1) := by decide +kernel
theorem d_MM_verdict_56 : decode b_MM_verdict 56 = .ok (.if_icmp .lt 7, 3) := by decide +kernel
theorem d_MM_verdict_63 : decode b_MM_verdict 63 = .ok (.aload_n 0, 1) := by decide +kernel
theorem d_MM_verdict_64 : decode b_MM_verdict 64 = .ok (.getfield 11, 3) := by decide +kernel
theorem d_MM_verdict_67 : decode b_MM_verdict 67 = .ok (.iload_n 2, 1) := by decide +kernel
theorem d_MM_verdict_68 : decode b_MM_verdict 68 = .ok (.aaload, 1) := by decide +kernel
theorem d_MM_verdict_69 : decode b_MM_verdict 69 = .ok (.getfield 35, 3) := by decide +kernel
theorem d_MM_verdict_72 : decode b_MM_verdict 72 = .ok (.ifCond .eq 7, 3) := by decide +kernel
theorem d_MM_verdict_79 : decode b_MM_verdict 79 = .ok (.iconst 2, 1) := by decide +kernel
theorem d_MM_verdict_80 : decode b_MM_verdict 80 = .ok (.ireturn, 1) := by decide +kernel
theorem d_MM_verdict_75 : decode b_MM_verdict 75 = .ok (.iconst 1, 1) := by decide +kernel
theorem d_MM_verdict_76 : decode b_MM_verdict 76 = .ok (.goto 4, 3) := by decide +kernel
theorem d_MM_verdict_59 : decode b_MM_verdict 59 = .ok (.iconst 0, 1) := by decide +kernel
theorem d_MM_verdict_60 : decode b_MM_verdict 60 = .ok (.goto 20, 3) := by decide +kernel
theorem d_MM_intention_40 : decode b_MM_intention 40 = .ok (.iconst 0, 1) := by decide +kernel
theorem d_MM_intention_50 : decode b_MM_intention 50 = .ok (.aload_n 0, 1) := by decide +kernel
theorem d_MM_intention_51 : decode b_MM_intention 51 = .ok (.getfield 11, 3) := by decide +kernel
theorem d_MM_intention_54 : decode b_MM_intention 54 = .ok (.iload_n 1, 1) := by decide +kernel
theorem d_MM_intention_55 : decode b_MM_intention 55 = .ok (.aaload, 1) := by decide +kernel
theorem d_MM_intention_56 : decode b_MM_intention 56 = .ok (.astore_n 3, 1) := by decide +kernel
theorem d_MM_intention_57 : decode b_MM_intention 57 = .ok (.iload_n 2, 1) := by decide +kernel
theorem d_MM_intention_58 : decode b_MM_intention 58 = .ok (.ifCond .ne 10, 3) := by decide +kernel
theorem d_MM_intention_61 : decode b_MM_intention 61 = .ok (.aload_n 3, 1) := by decide +kernel
theorem d_MM_intention_62 : decode b_MM_intention 62 = .ok (.getfield 72, 3) := by decide +kernel
theorem d_MM_intention_65 : decode b_MM_intention 65 = .ok (.goto 55, 3) := by decide +kernel
theorem d_MM_intention_120 : decode b_MM_intention 120 = .ok (.ireturn, 1) := by decide +kernel
theorem d_MM_intention_68 : decode b_MM_intention 68 = .ok (.iload_n 2, 1) := by decide +kernel
theorem d_MM_intention_69 : decode b_MM_intention 69 = .ok (.iconst 1, 1) := by decide +kernel
theorem d_MM_intention_70 : decode b_MM_intention 70 = .ok (.if_icmp .ne 10, 3) := by decide +kernel
theorem d_MM_intention_73 : decode b_MM_intention 73 = .ok (.aload_n 3, 1) := by decide +kernel
theorem d_MM_intention_74 : decode b_MM_intention 74 = .ok (.getfield 69, 3) := by decide +kernel
theorem d_MM_intention_77 : decode b_MM_intention 77 = .ok (.goto 43, 3) := by decide +kernel
theorem d_MM_intention_80 : decode b_MM_intention 80 = .ok (.iload_n 2, 1) := by decide +kernel
theorem d_MM_intention_81 : decode b_MM_intention 81 = .ok (.iconst 2, 1) := by decide +kernel
theorem d_MM_intention_82 : decode b_MM_intention 82 = .ok (.if_icmp .ne 10, 3) := by decide +kernel
theorem d_MM_intention_85 : decode b_MM_intention 85 = .ok (.aload_n 3, 1) := by decide +kernel
theorem d_MM_intention_86 : decode b_MM_intention 86 = .ok (.getfield 85, 3) := by decide +kernel
theorem d_MM_intention_89 : decode b_MM_intention 89 = .ok (.goto 31, 3) := by decide +kernel
theorem d_MM_intention_92 : decode b_MM_intention 92 = .ok (.iload_n 2, 1) := by decide +kernel
theorem d_MM_intention_93 : decode b_MM_intention 93 = .ok (.iconst 3, 1) := by decide +kernel
theorem d_MM_intention_94 : decode b_MM_intention 94 = .ok (.if_icmp .ne 10, 3) := by decide +kernel
theorem d_MM_intention_97 : decode b_MM_intention 97 = .ok (.aload_n 3, 1) := by decide +kernel
theorem d_MM_intention_98 : decode b_MM_intention 98 = .ok (.getfield 100, 3) := by decide +kernel
theorem d_MM_intention_101 : decode b_MM_intention 101 = .ok (.goto 19, 3) := by decide +kernel
theorem d_MM_intention_104 : decode b_MM_intention 104 = .ok (.iload_n 2, 1) := by decide +kernel
theorem d_MM_intention_105 : decode b_MM_intention 105 = .ok (.iconst 4, 1) := by decide +kernel
theorem d_MM_intention_106 : decode b_MM_intention 106 = .ok (.if_icmp .ne 10, 3) := by decide +kernel
theorem d_MM_intention_109 : decode b_MM_intention 109 = .ok (.aload_n 3, 1) := by decide +kernel
theorem d_MM_intention_110 : decode b_MM_intention 110 = .ok (.getfield 43, 3) := by decide +kernel
theorem d_MM_intention_113 : decode b_MM_intention 113 = .ok (.goto 7, 3) := by decide +kernel
theorem d_MM_intention_116 : decode b_MM_intention 116 = .ok (.aload_n 3, 1) := by decide +kernel
theorem d_MM_intention_117 : decode b_MM_intention 117 = .ok (.getfield 66, 3) := by decide +kernel
set_option maxHeartbeats 4000000 in
set_option maxRecDepth 100000 in
theorem c_MM_begin_1 {l : Launch} {b : Nat} {dC : Nat → ClassId} {dI : Nat → Nat → Nat} {dA : Nat → ClassId} {zs : Nat → Nat} {w : mh_w} {m0 : Nat} {er : Int32} {g : st_G} (hR : rM dA w m0 er g) (hG : sg_ok g) {t u lv : Int32} (h : (st_in t 16 && (st_in u 4 && st_in lv 2)) = false) : mh_Met l b dC dI dA zs y_MM_begin (mh_rm 4 10 500) [.ref m0, .int t, .int u, .int lv] w (mh_V none (fun w' => rM dA w' m0 (nI 1) g ∧ mh_D w w')) := by
  obtain ⟨aG, aO, aA, aV, aH, lg, op, at_, hQ⟩ := hR
  have hQ2 := hQ
  obtain ⟨r50, r51, r52, r53, ⟨vf, r54⟩, ⟨hf, r55⟩, ra, ro, rl⟩ := hQ2
  have hG2 := hG
  obtain ⟨gn, grs, gat, glo, gdr⟩ := hG2
  refine mh_ofW (cc := b_MM_begin) (n := 5) (ret := none) (hs := []) (by decide) k742 ?_
  intro p e s m below meth c hx hb hr hml hown hts hlocks hnm hT hOK hadm
  have K0 : mh_K0 p s m ([.ref m0, .int t, .int u, .int lv]).toArray c "MeldHostModel" b_MM_begin dC dI dA := ⟨hx, hb, hown, hts, hOK.1, hOK.2.1⟩
  have hX := hOK.2.2.2.2
  have hb0 := hOK.2.2.2.1
  have hS : va_S (mh_A b) s.heap s.heap [] := va_S.rf
  have hl := lv_entry ([.ref m0, .int t, .int u, .int lv]) (n := 5) (Nat.le_of_ble_eq_true rfl)
  rw [lg_entry_eq]
  generalize (lg_sl ([.ref m0, .int t, .int u, .int lv]) ++ List.replicate (5 - (lg_sl ([.ref m0, .int t, .int u, .int lv])).length) Slot.unset).toArray = ls at hl ⊢
  have hl : lv_has ls 5 [(0, .ref m0), (1, .int t), (2, .int u), (3, .int lv)] := hl
  refine lv_aload_n hx hb d_MM_begin_0 rfl (lv_at hl 0 rfl) ?_
  refine lv_iload_n hx hb d_MM_begin_1 rfl (lv_at hl 1 rfl) ?_
  refine lv_bipush (v := nI 16) hx hb d_MM_begin_2 (by decide) ?_
  refine mh_callR (mh_sS (rest := [.ref m0]) (av := [.int t, .int (nI 16)]) K0 e_MM_in l_MM_53 k744 rfl rfl d_MM_begin_4) (c_MM_in) K0 hOK hml hl.1 e_MM_in hX hS d_MM_begin_4 (Nat.le_of_ble_eq_true rfl) (Nat.le_of_ble_eq_true rfl) (Nat.le_of_ble_eq_true rfl) (Nat.le_of_ble_eq_true rfl) (Nat.le_of_ble_eq_true rfl) (fun H locs hX hS => ?_)
  refine W.eq (g2 := F0 m 7 ls [.int (mh_b (st_in t 16)), .ref m0]) rfl ?_
  refine mh_ifeqB (tgt := 26) hx hb d_MM_begin_7 (by decide) (fun c1 => ?_) (fun c1 => ?_)
  · skip
    refine lv_iconst (v := nI 1) hx hb d_MM_begin_26 (by decide) ?_
    refine lv_goto (tgt := 31) hx hb d_MM_begin_27 (by decide) ?_
    refine lv_iconst (v := nI 1) hx hb d_MM_begin_31 (by decide) ?_
    refine mh_callV (mh_sV (rest := []) (av := [.int (nI 1), .int (nI 1)]) K0 hX r50 rfl e_MM_fails l_MM_57 k748 kp15 rfl rfl d_MM_begin_32) (c_MM_fails1 r50) K0 hOK hml hl.1 e_MM_fails hX hS d_MM_begin_32 (Nat.le_of_ble_eq_true rfl) (Nat.le_of_ble_eq_true rfl) (Nat.le_of_ble_eq_true rfl) (Nat.le_of_ble_eq_true rfl) (Nat.le_of_ble_eq_true rfl) (fun wf1 H locs ⟨hm1, hF1⟩ hX hS => ?_)
    refine W.eq (g2 := F0 m 35 ls [.int (nI 1)]) rfl ?_
    refine mh_if_eq (tgt := 39) hx hb (by omega) d_MM_begin_35 (by decide) (fun z => absurd z (by omega)) (fun _ => ?_)
    exact mh_vret K0 hr hlocks hX hS (⟨rfl, ⟨aG, aO, aA, aV, aH, lg, op, at_, hQ.sc (fun k i h1 h2 h3 h4 => by rw [hF1 _ _ (by omega)]) hm1 ⟨_, ((hF1 54 0 (by omega)).trans r54)⟩ ⟨_, ((hF1 55 0 (by omega)).trans r55)⟩⟩, fun k i h => by rw [hF1 _ _ (by omega)]⟩) (Nat.le_of_ble_eq_true rfl) (Nat.le_of_ble_eq_true rfl) d_MM_begin_38
  · skip
    refine lv_iload_n hx hb d_MM_begin_10 rfl (lv_at hl 2 rfl) ?_
    refine lv_iconst (v := nI 4) hx hb d_MM_begin_11 (by decide) ?_
    refine mh_callR (mh_sS (rest := [.ref m0]) (av := [.int u, .int (nI 4)]) K0 e_MM_in l_MM_53 k744 rfl rfl d_MM_begin_12) (c_MM_in) K0 hOK hml hl.1 e_MM_in hX hS d_MM_begin_12 (Nat.le_of_ble_eq_true rfl) (Nat.le_of_ble_eq_true rfl) (Nat.le_of_ble_eq_true rfl) (Nat.le_of_ble_eq_true rfl) (Nat.le_of_ble_eq_true rfl) (fun H locs hX hS => ?_)
    refine W.eq (g2 := F0 m 15 ls [.int (mh_b (st_in u 4)), .ref m0]) rfl ?_
    refine mh_ifeqB (tgt := 26) hx hb d_MM_begin_15 (by decide) (fun c2 => ?_) (fun c2 => ?_)
    · skip
      refine lv_iconst (v := nI 1) hx hb d_MM_begin_26 (by decide) ?_
      refine lv_goto (tgt := 31) hx hb d_MM_begin_27 (by decide) ?_
      refine lv_iconst (v := nI 1) hx hb d_MM_begin_31 (by decide) ?_
      refine mh_callV (mh_sV (rest := []) (av := [.int (nI 1), .int (nI 1)]) K0 hX r50 rfl e_MM_fails l_MM_57 k748 kp15 rfl rfl d_MM_begin_32) (c_MM_fails1 r50) K0 hOK hml hl.1 e_MM_fails hX hS d_MM_begin_32 (Nat.le_of_ble_eq_true rfl) (Nat.le_of_ble_eq_true rfl) (Nat.le_of_ble_eq_true rfl) (Nat.le_of_ble_eq_true rfl) (Nat.le_of_ble_eq_true rfl) (fun wf2 H locs ⟨hm2, hF2⟩ hX hS => ?_)
      refine W.eq (g2 := F0 m 35 ls [.int (nI 1)]) rfl ?_
      refine mh_if_eq (tgt := 39) hx hb (by omega) d_MM_begin_35 (by decide) (fun z => absurd z (by omega)) (fun _ => ?_)
      exact mh_vret K0 hr hlocks hX hS (⟨rfl, ⟨aG, aO, aA, aV, aH, lg, op, at_, hQ.sc (fun k i h1 h2 h3 h4 => by rw [hF2 _ _ (by omega)]) hm2 ⟨_, ((hF2 54 0 (by omega)).trans r54)⟩ ⟨_, ((hF2 55 0 (by omega)).trans r55)⟩⟩, fun k i h => by rw [hF2 _ _ (by omega)]⟩) (Nat.le_of_ble_eq_true rfl) (Nat.le_of_ble_eq_true rfl) d_MM_begin_38
    · skip
      refine lv_iload_n hx hb d_MM_begin_18 rfl (lv_at hl 3 rfl) ?_
      refine lv_iconst (v := nI 2) hx hb d_MM_begin_19 (by decide) ?_
      refine mh_callR (mh_sS (rest := [.ref m0]) (av := [.int lv, .int (nI 2)]) K0 e_MM_in l_MM_53 k744 rfl rfl d_MM_begin_20) (c_MM_in) K0 hOK hml hl.1 e_MM_in hX hS d_MM_begin_20 (Nat.le_of_ble_eq_true rfl) (Nat.le_of_ble_eq_true rfl) (Nat.le_of_ble_eq_true rfl) (Nat.le_of_ble_eq_true rfl) (Nat.le_of_ble_eq_true rfl) (fun H locs hX hS => ?_)
      refine W.eq (g2 := F0 m 23 ls [.int (mh_b (st_in lv 2)), .ref m0]) rfl ?_
      refine mh_ifneB (tgt := 30) hx hb d_MM_begin_23 (by decide) (fun c3 => ?_) (fun c3 => ?_)
      · skip
        refine lv_iconst (v := nI 0) hx hb d_MM_begin_30 (by decide) ?_
        refine lv_iconst (v := nI 1) hx hb d_MM_begin_31 (by decide) ?_
        exact absurd h (by simp [c1, c2, c3])
      · skip
        refine lv_iconst (v := nI 1) hx hb d_MM_begin_26 (by decide) ?_
        refine lv_goto (tgt := 31) hx hb d_MM_begin_27 (by decide) ?_
        refine lv_iconst (v := nI 1) hx hb d_MM_begin_31 (by decide) ?_
        refine mh_callV (mh_sV (rest := []) (av := [.int (nI 1), .int (nI 1)]) K0 hX r50 rfl e_MM_fails l_MM_57 k748 kp15 rfl rfl d_MM_begin_32) (c_MM_fails1 r50) K0 hOK hml hl.1 e_MM_fails hX hS d_MM_begin_32 (Nat.le_of_ble_eq_true rfl) (Nat.le_of_ble_eq_true rfl) (Nat.le_of_ble_eq_true rfl) (Nat.le_of_ble_eq_true rfl) (Nat.le_of_ble_eq_true rfl) (fun wf3 H locs ⟨hm3, hF3⟩ hX hS => ?_)
        refine W.eq (g2 := F0 m 35 ls [.int (nI 1)]) rfl ?_
        refine mh_if_eq (tgt := 39) hx hb (by omega) d_MM_begin_35 (by decide) (fun z => absurd z (by omega)) (fun _ => ?_)
        exact mh_vret K0 hr hlocks hX hS (⟨rfl, ⟨aG, aO, aA, aV, aH, lg, op, at_, hQ.sc (fun k i h1 h2 h3 h4 => by rw [hF3 _ _ (by omega)]) hm3 ⟨_, ((hF3 54 0 (by omega)).trans r54)⟩ ⟨_, ((hF3 55 0 (by omega)).trans r55)⟩⟩, fun k i h => by rw [hF3 _ _ (by omega)]⟩) (Nat.le_of_ble_eq_true rfl) (Nat.le_of_ble_eq_true rfl) d_MM_begin_38
set_option maxHeartbeats 4000000 in
set_option maxRecDepth 100000 in
theorem c_MM_get_1 {l : Launch} {b : Nat} {dC : Nat → ClassId} {dI : Nat → Nat → Nat} {dA : Nat → ClassId} {zs : Nat → Nat} {w : mh_w} {m0 : Nat} {er : Int32} {g : st_G} (hR : rM dA w m0 er g) (hG : sg_ok g) {t key : Int32} (h : (st_in t 16 && st_in key 256) = false) : mh_Met l b dC dI dA zs y_MM_get (mh_rm 4 10 500) [.ref m0, .int t, .int key] w (mh_V (some (.long 0)) (fun w' => rM dA w' m0 (nI 1) g ∧ mh_D w w')) := by
  obtain ⟨aG, aO, aA, aV, aH, lg, op, at_, hQ⟩ := hR
  have hQ2 := hQ
  obtain ⟨r50, r51, r52, r53, ⟨vf, r54⟩, ⟨hf, r55⟩, ra, ro, rl⟩ := hQ2
  have hG2 := hG
  obtain ⟨gn, grs, gat, glo, gdr⟩ := hG2
  refine mh_ofW (cc := b_MM_get) (n := 4) (ret := (some .long)) (hs := []) (by decide) k757 ?_
  intro p e s m below meth c hx hb hr hml hown hts hlocks hnm hT hOK hadm
  have K0 : mh_K0 p s m ([.ref m0, .int t, .int key]).toArray c "MeldHostModel" b_MM_get dC dI dA := ⟨hx, hb, hown, hts, hOK.1, hOK.2.1⟩
  have hX := hOK.2.2.2.2
  have hb0 := hOK.2.2.2.1
  have hS : va_S (mh_A b) s.heap s.heap [] := va_S.rf
  have hl := lv_entry ([.ref m0, .int t, .int key]) (n := 4) (Nat.le_of_ble_eq_true rfl)
  rw [lg_entry_eq]
  generalize (lg_sl ([.ref m0, .int t, .int key]) ++ List.replicate (4 - (lg_sl ([.ref m0, .int t, .int key])).length) Slot.unset).toArray = ls at hl ⊢
  have hl : lv_has ls 4 [(0, .ref m0), (1, .int t), (2, .int key)] := hl
  refine lv_aload_n hx hb d_MM_get_0 rfl (lv_at hl 0 rfl) ?_
  refine lv_iload_n hx hb d_MM_get_1 rfl (lv_at hl 1 rfl) ?_
  refine lv_bipush (v := nI 16) hx hb d_MM_get_2 (by decide) ?_
  refine mh_callR (mh_sS (rest := [.ref m0]) (av := [.int t, .int (nI 16)]) K0 e_MM_in l_MM_53 k744 rfl rfl d_MM_get_4) (c_MM_in) K0 hOK hml hl.1 e_MM_in hX hS d_MM_get_4 (Nat.le_of_ble_eq_true rfl) (Nat.le_of_ble_eq_true rfl) (Nat.le_of_ble_eq_true rfl) (Nat.le_of_ble_eq_true rfl) (Nat.le_of_ble_eq_true rfl) (fun H locs hX hS => ?_)
  refine W.eq (g2 := F0 m 7 ls [.int (mh_b (st_in t 16)), .ref m0]) rfl ?_
  refine mh_ifeqB (tgt := 20) hx hb d_MM_get_7 (by decide) (fun c1 => ?_) (fun c1 => ?_)
  · skip
    refine lv_iconst (v := nI 1) hx hb d_MM_get_20 (by decide) ?_
    refine lv_goto (tgt := 25) hx hb d_MM_get_21 (by decide) ?_
    refine lv_iconst (v := nI 1) hx hb d_MM_get_25 (by decide) ?_
    refine mh_callV (mh_sV (rest := []) (av := [.int (nI 1), .int (nI 1)]) K0 hX r50 rfl e_MM_fails l_MM_57 k748 kp15 rfl rfl d_MM_get_26) (c_MM_fails1 r50) K0 hOK hml hl.1 e_MM_fails hX hS d_MM_get_26 (Nat.le_of_ble_eq_true rfl) (Nat.le_of_ble_eq_true rfl) (Nat.le_of_ble_eq_true rfl) (Nat.le_of_ble_eq_true rfl) (Nat.le_of_ble_eq_true rfl) (fun wf4 H locs ⟨hm4, hF4⟩ hX hS => ?_)
    refine W.eq (g2 := F0 m 29 ls [.int (nI 1)]) rfl ?_
    refine mh_if_eq (tgt := 34) hx hb (by omega) d_MM_get_29 (by decide) (fun z => absurd z (by omega)) (fun _ => ?_)
    refine lv_lconst (v := 0) hx hb d_MM_get_32 rfl ?_
    exact mh_lret K0 hr hlocks hX hS (⟨rfl, ⟨aG, aO, aA, aV, aH, lg, op, at_, hQ.sc (fun k i h1 h2 h3 h4 => by rw [hF4 _ _ (by omega)]) hm4 ⟨_, ((hF4 54 0 (by omega)).trans r54)⟩ ⟨_, ((hF4 55 0 (by omega)).trans r55)⟩⟩, fun k i h => by rw [hF4 _ _ (by omega)]⟩) (Nat.le_of_ble_eq_true rfl) (Nat.le_of_ble_eq_true rfl) d_MM_get_33
  · skip
    refine lv_iload_n hx hb d_MM_get_10 rfl (lv_at hl 2 rfl) ?_
    refine lv_sipush (v := nI 256) hx hb d_MM_get_11 (by decide) ?_
    refine mh_callR (mh_sS (rest := [.ref m0]) (av := [.int key, .int (nI 256)]) K0 e_MM_in l_MM_53 k744 rfl rfl d_MM_get_14) (c_MM_in) K0 hOK hml hl.1 e_MM_in hX hS d_MM_get_14 (Nat.le_of_ble_eq_true rfl) (Nat.le_of_ble_eq_true rfl) (Nat.le_of_ble_eq_true rfl) (Nat.le_of_ble_eq_true rfl) (Nat.le_of_ble_eq_true rfl) (fun H locs hX hS => ?_)
    refine W.eq (g2 := F0 m 17 ls [.int (mh_b (st_in key 256)), .ref m0]) rfl ?_
    refine mh_ifneB (tgt := 24) hx hb d_MM_get_17 (by decide) (fun c2 => ?_) (fun c2 => ?_)
    · skip
      refine lv_iconst (v := nI 0) hx hb d_MM_get_24 (by decide) ?_
      refine lv_iconst (v := nI 1) hx hb d_MM_get_25 (by decide) ?_
      exact absurd h (by simp [c1, c2])
    · skip
      refine lv_iconst (v := nI 1) hx hb d_MM_get_20 (by decide) ?_
      refine lv_goto (tgt := 25) hx hb d_MM_get_21 (by decide) ?_
      refine lv_iconst (v := nI 1) hx hb d_MM_get_25 (by decide) ?_
      refine mh_callV (mh_sV (rest := []) (av := [.int (nI 1), .int (nI 1)]) K0 hX r50 rfl e_MM_fails l_MM_57 k748 kp15 rfl rfl d_MM_get_26) (c_MM_fails1 r50) K0 hOK hml hl.1 e_MM_fails hX hS d_MM_get_26 (Nat.le_of_ble_eq_true rfl) (Nat.le_of_ble_eq_true rfl) (Nat.le_of_ble_eq_true rfl) (Nat.le_of_ble_eq_true rfl) (Nat.le_of_ble_eq_true rfl) (fun wf5 H locs ⟨hm5, hF5⟩ hX hS => ?_)
      refine W.eq (g2 := F0 m 29 ls [.int (nI 1)]) rfl ?_
      refine mh_if_eq (tgt := 34) hx hb (by omega) d_MM_get_29 (by decide) (fun z => absurd z (by omega)) (fun _ => ?_)
      refine lv_lconst (v := 0) hx hb d_MM_get_32 rfl ?_
      exact mh_lret K0 hr hlocks hX hS (⟨rfl, ⟨aG, aO, aA, aV, aH, lg, op, at_, hQ.sc (fun k i h1 h2 h3 h4 => by rw [hF5 _ _ (by omega)]) hm5 ⟨_, ((hF5 54 0 (by omega)).trans r54)⟩ ⟨_, ((hF5 55 0 (by omega)).trans r55)⟩⟩, fun k i h => by rw [hF5 _ _ (by omega)]⟩) (Nat.le_of_ble_eq_true rfl) (Nat.le_of_ble_eq_true rfl) d_MM_get_33
set_option maxHeartbeats 4000000 in
set_option maxRecDepth 100000 in
theorem c_MM_write_1 {l : Launch} {b : Nat} {dC : Nat → ClassId} {dI : Nat → Nat → Nat} {dA : Nat → ClassId} {zs : Nat → Nat} {w : mh_w} {m0 : Nat} {er : Int32} {g : st_G} (hR : rM dA w m0 er g) (hG : sg_ok g) {t key : Int32} {v : Int64} {nb : Int32} (h : (st_in t 16 && st_in key 256) = false) : mh_Met l b dC dI dA zs y_MM_write (mh_rm 4 10 500) [.ref m0, .int t, .int key, .long v, .int nb] w (mh_V (some (.int (nI 0))) (fun w' => rM dA w' m0 (nI 1) g ∧ mh_D w w')) := by
  obtain ⟨aG, aO, aA, aV, aH, lg, op, at_, hQ⟩ := hR
  have hQ2 := hQ
  obtain ⟨r50, r51, r52, r53, ⟨vf, r54⟩, ⟨hf, r55⟩, ra, ro, rl⟩ := hQ2
  have hG2 := hG
  obtain ⟨gn, grs, gat, glo, gdr⟩ := hG2
  refine mh_ofW (cc := b_MM_write) (n := 8) (ret := (some .int)) (hs := []) (by decide) k781 ?_
  intro p e s m below meth c hx hb hr hml hown hts hlocks hnm hT hOK hadm
  have K0 : mh_K0 p s m ([.ref m0, .int t, .int key, .long v, .int nb]).toArray c "MeldHostModel" b_MM_write dC dI dA := ⟨hx, hb, hown, hts, hOK.1, hOK.2.1⟩
  have hX := hOK.2.2.2.2
  have hb0 := hOK.2.2.2.1
  have hS : va_S (mh_A b) s.heap s.heap [] := va_S.rf
  have hl := lv_entry ([.ref m0, .int t, .int key, .long v, .int nb]) (n := 8) (Nat.le_of_ble_eq_true rfl)
  rw [lg_entry_eq]
  generalize (lg_sl ([.ref m0, .int t, .int key, .long v, .int nb]) ++ List.replicate (8 - (lg_sl ([.ref m0, .int t, .int key, .long v, .int nb])).length) Slot.unset).toArray = ls at hl ⊢
  have hl : lv_has ls 8 [(0, .ref m0), (1, .int t), (2, .int key), (3, .long v), (5, .int nb)] := hl
  refine lv_aload_n hx hb d_MM_write_0 rfl (lv_at hl 0 rfl) ?_
  refine lv_iload_n hx hb d_MM_write_1 rfl (lv_at hl 1 rfl) ?_
  refine lv_bipush (v := nI 16) hx hb d_MM_write_2 (by decide) ?_
  refine mh_callR (mh_sS (rest := [.ref m0]) (av := [.int t, .int (nI 16)]) K0 e_MM_in l_MM_53 k744 rfl rfl d_MM_write_4) (c_MM_in) K0 hOK hml hl.1 e_MM_in hX hS d_MM_write_4 (Nat.le_of_ble_eq_true rfl) (Nat.le_of_ble_eq_true rfl) (Nat.le_of_ble_eq_true rfl) (Nat.le_of_ble_eq_true rfl) (Nat.le_of_ble_eq_true rfl) (fun H locs hX hS => ?_)
  refine W.eq (g2 := F0 m 7 ls [.int (mh_b (st_in t 16)), .ref m0]) rfl ?_
  refine mh_ifeqB (tgt := 20) hx hb d_MM_write_7 (by decide) (fun c1 => ?_) (fun c1 => ?_)
  · skip
    refine lv_iconst (v := nI 1) hx hb d_MM_write_20 (by decide) ?_
    refine lv_goto (tgt := 25) hx hb d_MM_write_21 (by decide) ?_
    refine lv_iconst (v := nI 1) hx hb d_MM_write_25 (by decide) ?_
    refine mh_callV (mh_sV (rest := []) (av := [.int (nI 1), .int (nI 1)]) K0 hX r50 rfl e_MM_fails l_MM_57 k748 kp15 rfl rfl d_MM_write_26) (c_MM_fails1 r50) K0 hOK hml hl.1 e_MM_fails hX hS d_MM_write_26 (Nat.le_of_ble_eq_true rfl) (Nat.le_of_ble_eq_true rfl) (Nat.le_of_ble_eq_true rfl) (Nat.le_of_ble_eq_true rfl) (Nat.le_of_ble_eq_true rfl) (fun wf6 H locs ⟨hm6, hF6⟩ hX hS => ?_)
    refine W.eq (g2 := F0 m 29 ls [.int (nI 1)]) rfl ?_
    refine mh_if_eq (tgt := 34) hx hb (by omega) d_MM_write_29 (by decide) (fun z => absurd z (by omega)) (fun _ => ?_)
    refine lv_iconst (v := nI 0) hx hb d_MM_write_32 (by decide) ?_
    exact mh_iret K0 hr rfl hlocks hX hS (⟨rfl, ⟨aG, aO, aA, aV, aH, lg, op, at_, hQ.sc (fun k i h1 h2 h3 h4 => by rw [hF6 _ _ (by omega)]) hm6 ⟨_, ((hF6 54 0 (by omega)).trans r54)⟩ ⟨_, ((hF6 55 0 (by omega)).trans r55)⟩⟩, fun k i h => by rw [hF6 _ _ (by omega)]⟩) (Nat.le_of_ble_eq_true rfl) (Nat.le_of_ble_eq_true rfl) d_MM_write_33
  · skip
    refine lv_iload_n hx hb d_MM_write_10 rfl (lv_at hl 2 rfl) ?_
    refine lv_sipush (v := nI 256) hx hb d_MM_write_11 (by decide) ?_
    refine mh_callR (mh_sS (rest := [.ref m0]) (av := [.int key, .int (nI 256)]) K0 e_MM_in l_MM_53 k744 rfl rfl d_MM_write_14) (c_MM_in) K0 hOK hml hl.1 e_MM_in hX hS d_MM_write_14 (Nat.le_of_ble_eq_true rfl) (Nat.le_of_ble_eq_true rfl) (Nat.le_of_ble_eq_true rfl) (Nat.le_of_ble_eq_true rfl) (Nat.le_of_ble_eq_true rfl) (fun H locs hX hS => ?_)
    refine W.eq (g2 := F0 m 17 ls [.int (mh_b (st_in key 256)), .ref m0]) rfl ?_
    refine mh_ifneB (tgt := 24) hx hb d_MM_write_17 (by decide) (fun c2 => ?_) (fun c2 => ?_)
    · skip
      refine lv_iconst (v := nI 0) hx hb d_MM_write_24 (by decide) ?_
      refine lv_iconst (v := nI 1) hx hb d_MM_write_25 (by decide) ?_
      exact absurd h (by simp [c1, c2])
    · skip
      refine lv_iconst (v := nI 1) hx hb d_MM_write_20 (by decide) ?_
      refine lv_goto (tgt := 25) hx hb d_MM_write_21 (by decide) ?_
      refine lv_iconst (v := nI 1) hx hb d_MM_write_25 (by decide) ?_
      refine mh_callV (mh_sV (rest := []) (av := [.int (nI 1), .int (nI 1)]) K0 hX r50 rfl e_MM_fails l_MM_57 k748 kp15 rfl rfl d_MM_write_26) (c_MM_fails1 r50) K0 hOK hml hl.1 e_MM_fails hX hS d_MM_write_26 (Nat.le_of_ble_eq_true rfl) (Nat.le_of_ble_eq_true rfl) (Nat.le_of_ble_eq_true rfl) (Nat.le_of_ble_eq_true rfl) (Nat.le_of_ble_eq_true rfl) (fun wf7 H locs ⟨hm7, hF7⟩ hX hS => ?_)
      refine W.eq (g2 := F0 m 29 ls [.int (nI 1)]) rfl ?_
      refine mh_if_eq (tgt := 34) hx hb (by omega) d_MM_write_29 (by decide) (fun z => absurd z (by omega)) (fun _ => ?_)
      refine lv_iconst (v := nI 0) hx hb d_MM_write_32 (by decide) ?_
      exact mh_iret K0 hr rfl hlocks hX hS (⟨rfl, ⟨aG, aO, aA, aV, aH, lg, op, at_, hQ.sc (fun k i h1 h2 h3 h4 => by rw [hF7 _ _ (by omega)]) hm7 ⟨_, ((hF7 54 0 (by omega)).trans r54)⟩ ⟨_, ((hF7 55 0 (by omega)).trans r55)⟩⟩, fun k i h => by rw [hF7 _ _ (by omega)]⟩) (Nat.le_of_ble_eq_true rfl) (Nat.le_of_ble_eq_true rfl) d_MM_write_33
set_option maxHeartbeats 4000000 in
set_option maxRecDepth 100000 in
theorem c_MM_part_1 {l : Launch} {b : Nat} {dC : Nat → ClassId} {dI : Nat → Nat → Nat} {dA : Nat → ClassId} {zs : Nat → Nat} {w : mh_w} {m0 : Nat} {er : Int32} {g : st_G} (hR : rM dA w m0 er g) (hG : sg_ok g) {t low high what : Int32} (h : (st_in t 16 && sp_pt low high what) = false) : mh_Met l b dC dI dA zs y_MM_part (mh_rm 4 10 500) [.ref m0, .int t, .int low, .int high, .int what] w (mh_V (some (.long 0)) (fun w' => rM dA w' m0 (nI 1) g ∧ mh_D w w')) := by
  obtain ⟨aG, aO, aA, aV, aH, lg, op, at_, hQ⟩ := hR
  have hQ2 := hQ
  obtain ⟨r50, r51, r52, r53, ⟨vf, r54⟩, ⟨hf, r55⟩, ra, ro, rl⟩ := hQ2
  have hG2 := hG
  obtain ⟨gn, grs, gat, glo, gdr⟩ := hG2
  refine mh_ofW (cc := b_MM_part) (n := 6) (ret := (some .long)) (hs := []) (by decide) k789 ?_
  intro p e s m below meth c hx hb hr hml hown hts hlocks hnm hT hOK hadm
  have K0 : mh_K0 p s m ([.ref m0, .int t, .int low, .int high, .int what]).toArray c "MeldHostModel" b_MM_part dC dI dA := ⟨hx, hb, hown, hts, hOK.1, hOK.2.1⟩
  have hX := hOK.2.2.2.2
  have hb0 := hOK.2.2.2.1
  have hS : va_S (mh_A b) s.heap s.heap [] := va_S.rf
  have hl := lv_entry ([.ref m0, .int t, .int low, .int high, .int what]) (n := 6) (Nat.le_of_ble_eq_true rfl)
  rw [lg_entry_eq]
  generalize (lg_sl ([.ref m0, .int t, .int low, .int high, .int what]) ++ List.replicate (6 - (lg_sl ([.ref m0, .int t, .int low, .int high, .int what])).length) Slot.unset).toArray = ls at hl ⊢
  have hl : lv_has ls 6 [(0, .ref m0), (1, .int t), (2, .int low), (3, .int high), (4, .int what)] := hl
  refine lv_aload_n hx hb d_MM_part_0 rfl (lv_at hl 0 rfl) ?_
  refine lv_iload_n hx hb d_MM_part_1 rfl (lv_at hl 1 rfl) ?_
  refine lv_bipush (v := nI 16) hx hb d_MM_part_2 (by decide) ?_
  refine mh_callR (mh_sS (rest := [.ref m0]) (av := [.int t, .int (nI 16)]) K0 e_MM_in l_MM_53 k744 rfl rfl d_MM_part_4) (c_MM_in) K0 hOK hml hl.1 e_MM_in hX hS d_MM_part_4 (Nat.le_of_ble_eq_true rfl) (Nat.le_of_ble_eq_true rfl) (Nat.le_of_ble_eq_true rfl) (Nat.le_of_ble_eq_true rfl) (Nat.le_of_ble_eq_true rfl) (fun H locs hX hS => ?_)
  refine W.eq (g2 := F0 m 7 ls [.int (mh_b (st_in t 16)), .ref m0]) rfl ?_
  refine mh_ifeqB (tgt := 20) hx hb d_MM_part_7 (by decide) (fun c1 => ?_) (fun c1 => ?_)
  · skip
    refine lv_iconst (v := nI 1) hx hb d_MM_part_20 (by decide) ?_
    refine lv_goto (tgt := 25) hx hb d_MM_part_21 (by decide) ?_
    refine lv_iconst (v := nI 1) hx hb d_MM_part_25 (by decide) ?_
    refine mh_callV (mh_sV (rest := []) (av := [.int (nI 1), .int (nI 1)]) K0 hX r50 rfl e_MM_fails l_MM_57 k748 kp15 rfl rfl d_MM_part_26) (c_MM_fails1 r50) K0 hOK hml hl.1 e_MM_fails hX hS d_MM_part_26 (Nat.le_of_ble_eq_true rfl) (Nat.le_of_ble_eq_true rfl) (Nat.le_of_ble_eq_true rfl) (Nat.le_of_ble_eq_true rfl) (Nat.le_of_ble_eq_true rfl) (fun wf8 H locs ⟨hm8, hF8⟩ hX hS => ?_)
    refine W.eq (g2 := F0 m 29 ls [.int (nI 1)]) rfl ?_
    refine mh_if_eq (tgt := 34) hx hb (by omega) d_MM_part_29 (by decide) (fun z => absurd z (by omega)) (fun _ => ?_)
    refine lv_lconst (v := 0) hx hb d_MM_part_32 rfl ?_
    exact mh_lret K0 hr hlocks hX hS (⟨rfl, ⟨aG, aO, aA, aV, aH, lg, op, at_, hQ.sc (fun k i h1 h2 h3 h4 => by rw [hF8 _ _ (by omega)]) hm8 ⟨_, ((hF8 54 0 (by omega)).trans r54)⟩ ⟨_, ((hF8 55 0 (by omega)).trans r55)⟩⟩, fun k i h => by rw [hF8 _ _ (by omega)]⟩) (Nat.le_of_ble_eq_true rfl) (Nat.le_of_ble_eq_true rfl) d_MM_part_33
  · skip
    refine lv_iload_n hx hb d_MM_part_10 rfl (lv_at hl 2 rfl) ?_
    refine lv_iload_n hx hb d_MM_part_11 rfl (lv_at hl 3 rfl) ?_
    refine lv_iload hx hb d_MM_part_12 (lv_at hl 4 rfl) ?_
    refine mh_callR (mh_sS (rest := [.ref m0]) (av := [.int low, .int high, .int what]) K0 e_MM_bad l_MM_96 k791 rfl rfl d_MM_part_14) (c_MM_bad) K0 hOK hml hl.1 e_MM_bad hX hS d_MM_part_14 (Nat.le_of_ble_eq_true rfl) (Nat.le_of_ble_eq_true rfl) (Nat.le_of_ble_eq_true rfl) (Nat.le_of_ble_eq_true rfl) (Nat.le_of_ble_eq_true rfl) (fun H locs hX hS => ?_)
    refine W.eq (g2 := F0 m 17 ls [.int (mh_b (!sp_pt low high what)), .ref m0]) rfl ?_
    refine mh_ifeqB (tgt := 24) hx hb d_MM_part_17 (by decide) (fun c2 => ?_) (fun c2 => ?_)
    · skip
      refine lv_iconst (v := nI 0) hx hb d_MM_part_24 (by decide) ?_
      refine lv_iconst (v := nI 1) hx hb d_MM_part_25 (by decide) ?_
      simp at c2; exact absurd h (by simp [c1, c2])
    · skip
      refine lv_iconst (v := nI 1) hx hb d_MM_part_20 (by decide) ?_
      refine lv_goto (tgt := 25) hx hb d_MM_part_21 (by decide) ?_
      refine lv_iconst (v := nI 1) hx hb d_MM_part_25 (by decide) ?_
      refine mh_callV (mh_sV (rest := []) (av := [.int (nI 1), .int (nI 1)]) K0 hX r50 rfl e_MM_fails l_MM_57 k748 kp15 rfl rfl d_MM_part_26) (c_MM_fails1 r50) K0 hOK hml hl.1 e_MM_fails hX hS d_MM_part_26 (Nat.le_of_ble_eq_true rfl) (Nat.le_of_ble_eq_true rfl) (Nat.le_of_ble_eq_true rfl) (Nat.le_of_ble_eq_true rfl) (Nat.le_of_ble_eq_true rfl) (fun wf9 H locs ⟨hm9, hF9⟩ hX hS => ?_)
      refine W.eq (g2 := F0 m 29 ls [.int (nI 1)]) rfl ?_
      refine mh_if_eq (tgt := 34) hx hb (by omega) d_MM_part_29 (by decide) (fun z => absurd z (by omega)) (fun _ => ?_)
      refine lv_lconst (v := 0) hx hb d_MM_part_32 rfl ?_
      exact mh_lret K0 hr hlocks hX hS (⟨rfl, ⟨aG, aO, aA, aV, aH, lg, op, at_, hQ.sc (fun k i h1 h2 h3 h4 => by rw [hF9 _ _ (by omega)]) hm9 ⟨_, ((hF9 54 0 (by omega)).trans r54)⟩ ⟨_, ((hF9 55 0 (by omega)).trans r55)⟩⟩, fun k i h => by rw [hF9 _ _ (by omega)]⟩) (Nat.le_of_ble_eq_true rfl) (Nat.le_of_ble_eq_true rfl) d_MM_part_33
set_option maxHeartbeats 4000000 in
set_option maxRecDepth 100000 in
theorem c_MM_look_1 {l : Launch} {b : Nat} {dC : Nat → ClassId} {dI : Nat → Nat → Nat} {dA : Nat → ClassId} {zs : Nat → Nat} {w : mh_w} {m0 : Nat} {er : Int32} {g : st_G} (hR : rM dA w m0 er g) (hG : sg_ok g) {u low high what : Int32} (h : (st_in u 4 && sp_pt low high what) = false) : mh_Met l b dC dI dA zs y_MM_look (mh_rm 4 10 500) [.ref m0, .int u, .int low, .int high, .int what] w (mh_V (some (.long 0)) (fun w' => rM dA w' m0 (nI 1) g ∧ mh_D w w')) := by
  obtain ⟨aG, aO, aA, aV, aH, lg, op, at_, hQ⟩ := hR
  have hQ2 := hQ
  obtain ⟨r50, r51, r52, r53, ⟨vf, r54⟩, ⟨hf, r55⟩, ra, ro, rl⟩ := hQ2
  have hG2 := hG
  obtain ⟨gn, grs, gat, glo, gdr⟩ := hG2
  refine mh_ofW (cc := b_MM_look) (n := 5) (ret := (some .long)) (hs := []) (by decide) k825 ?_
  intro p e s m below meth c hx hb hr hml hown hts hlocks hnm hT hOK hadm
  have K0 : mh_K0 p s m ([.ref m0, .int u, .int low, .int high, .int what]).toArray c "MeldHostModel" b_MM_look dC dI dA := ⟨hx, hb, hown, hts, hOK.1, hOK.2.1⟩
  have hX := hOK.2.2.2.2
  have hb0 := hOK.2.2.2.1
  have hS : va_S (mh_A b) s.heap s.heap [] := va_S.rf
  have hl := lv_entry ([.ref m0, .int u, .int low, .int high, .int what]) (n := 5) (Nat.le_of_ble_eq_true rfl)
  rw [lg_entry_eq]
  generalize (lg_sl ([.ref m0, .int u, .int low, .int high, .int what]) ++ List.replicate (5 - (lg_sl ([.ref m0, .int u, .int low, .int high, .int what])).length) Slot.unset).toArray = ls at hl ⊢
  have hl : lv_has ls 5 [(0, .ref m0), (1, .int u), (2, .int low), (3, .int high), (4, .int what)] := hl
  refine lv_aload_n hx hb d_MM_look_0 rfl (lv_at hl 0 rfl) ?_
  refine lv_iload_n hx hb d_MM_look_1 rfl (lv_at hl 1 rfl) ?_
  refine lv_iconst (v := nI 4) hx hb d_MM_look_2 (by decide) ?_
  refine mh_callR (mh_sS (rest := [.ref m0]) (av := [.int u, .int (nI 4)]) K0 e_MM_in l_MM_53 k744 rfl rfl d_MM_look_3) (c_MM_in) K0 hOK hml hl.1 e_MM_in hX hS d_MM_look_3 (Nat.le_of_ble_eq_true rfl) (Nat.le_of_ble_eq_true rfl) (Nat.le_of_ble_eq_true rfl) (Nat.le_of_ble_eq_true rfl) (Nat.le_of_ble_eq_true rfl) (fun H locs hX hS => ?_)
  refine W.eq (g2 := F0 m 6 ls [.int (mh_b (st_in u 4)), .ref m0]) rfl ?_
  refine mh_ifeqB (tgt := 19) hx hb d_MM_look_6 (by decide) (fun c1 => ?_) (fun c1 => ?_)
  · skip
    refine lv_iconst (v := nI 1) hx hb d_MM_look_19 (by decide) ?_
    refine lv_goto (tgt := 24) hx hb d_MM_look_20 (by decide) ?_
    refine lv_iconst (v := nI 1) hx hb d_MM_look_24 (by decide) ?_
    refine mh_callV (mh_sV (rest := []) (av := [.int (nI 1), .int (nI 1)]) K0 hX r50 rfl e_MM_fails l_MM_57 k748 kp15 rfl rfl d_MM_look_25) (c_MM_fails1 r50) K0 hOK hml hl.1 e_MM_fails hX hS d_MM_look_25 (Nat.le_of_ble_eq_true rfl) (Nat.le_of_ble_eq_true rfl) (Nat.le_of_ble_eq_true rfl) (Nat.le_of_ble_eq_true rfl) (Nat.le_of_ble_eq_true rfl) (fun wf10 H locs ⟨hm10, hF10⟩ hX hS => ?_)
    refine W.eq (g2 := F0 m 28 ls [.int (nI 1)]) rfl ?_
    refine mh_if_eq (tgt := 33) hx hb (by omega) d_MM_look_28 (by decide) (fun z => absurd z (by omega)) (fun _ => ?_)
    refine lv_lconst (v := 0) hx hb d_MM_look_31 rfl ?_
    exact mh_lret K0 hr hlocks hX hS (⟨rfl, ⟨aG, aO, aA, aV, aH, lg, op, at_, hQ.sc (fun k i h1 h2 h3 h4 => by rw [hF10 _ _ (by omega)]) hm10 ⟨_, ((hF10 54 0 (by omega)).trans r54)⟩ ⟨_, ((hF10 55 0 (by omega)).trans r55)⟩⟩, fun k i h => by rw [hF10 _ _ (by omega)]⟩) (Nat.le_of_ble_eq_true rfl) (Nat.le_of_ble_eq_true rfl) d_MM_look_32
  · skip
    refine lv_iload_n hx hb d_MM_look_9 rfl (lv_at hl 2 rfl) ?_
    refine lv_iload_n hx hb d_MM_look_10 rfl (lv_at hl 3 rfl) ?_
    refine lv_iload hx hb d_MM_look_11 (lv_at hl 4 rfl) ?_
    refine mh_callR (mh_sS (rest := [.ref m0]) (av := [.int low, .int high, .int what]) K0 e_MM_bad l_MM_96 k791 rfl rfl d_MM_look_13) (c_MM_bad) K0 hOK hml hl.1 e_MM_bad hX hS d_MM_look_13 (Nat.le_of_ble_eq_true rfl) (Nat.le_of_ble_eq_true rfl) (Nat.le_of_ble_eq_true rfl) (Nat.le_of_ble_eq_true rfl) (Nat.le_of_ble_eq_true rfl) (fun H locs hX hS => ?_)
    refine W.eq (g2 := F0 m 16 ls [.int (mh_b (!sp_pt low high what)), .ref m0]) rfl ?_
    refine mh_ifeqB (tgt := 23) hx hb d_MM_look_16 (by decide) (fun c2 => ?_) (fun c2 => ?_)
    · skip
      refine lv_iconst (v := nI 0) hx hb d_MM_look_23 (by decide) ?_
      refine lv_iconst (v := nI 1) hx hb d_MM_look_24 (by decide) ?_
      simp at c2; exact absurd h (by simp [c1, c2])
    · skip
      refine lv_iconst (v := nI 1) hx hb d_MM_look_19 (by decide) ?_
      refine lv_goto (tgt := 24) hx hb d_MM_look_20 (by decide) ?_
      refine lv_iconst (v := nI 1) hx hb d_MM_look_24 (by decide) ?_
      refine mh_callV (mh_sV (rest := []) (av := [.int (nI 1), .int (nI 1)]) K0 hX r50 rfl e_MM_fails l_MM_57 k748 kp15 rfl rfl d_MM_look_25) (c_MM_fails1 r50) K0 hOK hml hl.1 e_MM_fails hX hS d_MM_look_25 (Nat.le_of_ble_eq_true rfl) (Nat.le_of_ble_eq_true rfl) (Nat.le_of_ble_eq_true rfl) (Nat.le_of_ble_eq_true rfl) (Nat.le_of_ble_eq_true rfl) (fun wf11 H locs ⟨hm11, hF11⟩ hX hS => ?_)
      refine W.eq (g2 := F0 m 28 ls [.int (nI 1)]) rfl ?_
      refine mh_if_eq (tgt := 33) hx hb (by omega) d_MM_look_28 (by decide) (fun z => absurd z (by omega)) (fun _ => ?_)
      refine lv_lconst (v := 0) hx hb d_MM_look_31 rfl ?_
      exact mh_lret K0 hr hlocks hX hS (⟨rfl, ⟨aG, aO, aA, aV, aH, lg, op, at_, hQ.sc (fun k i h1 h2 h3 h4 => by rw [hF11 _ _ (by omega)]) hm11 ⟨_, ((hF11 54 0 (by omega)).trans r54)⟩ ⟨_, ((hF11 55 0 (by omega)).trans r55)⟩⟩, fun k i h => by rw [hF11 _ _ (by omega)]⟩) (Nat.le_of_ble_eq_true rfl) (Nat.le_of_ble_eq_true rfl) d_MM_look_32
set_option maxHeartbeats 4000000 in
set_option maxRecDepth 100000 in
theorem c_MM_commit_1 {l : Launch} {b : Nat} {dC : Nat → ClassId} {dI : Nat → Nat → Nat} {dA : Nat → ClassId} {zs : Nat → Nat} {w : mh_w} {m0 : Nat} {er : Int32} {g : st_G} (hR : rM dA w m0 er g) (hG : sg_ok g) {t : Int32} (h : st_in t 16 = false) : mh_Met l b dC dI dA zs y_MM_commit (mh_rm 4 10 500) [.ref m0, .int t] w (mh_V (some (.int (nI 0))) (fun w' => rM dA w' m0 (nI 1) g ∧ mh_D w w')) := by
  obtain ⟨aG, aO, aA, aV, aH, lg, op, at_, hQ⟩ := hR
  have hQ2 := hQ
  obtain ⟨r50, r51, r52, r53, ⟨vf, r54⟩, ⟨hf, r55⟩, ra, ro, rl⟩ := hQ2
  have hG2 := hG
  obtain ⟨gn, grs, gat, glo, gdr⟩ := hG2
  refine mh_ofW (cc := b_MM_commit) (n := 3) (ret := (some .int)) (hs := []) (by decide) k800 ?_
  intro p e s m below meth c hx hb hr hml hown hts hlocks hnm hT hOK hadm
  have K0 : mh_K0 p s m ([.ref m0, .int t]).toArray c "MeldHostModel" b_MM_commit dC dI dA := ⟨hx, hb, hown, hts, hOK.1, hOK.2.1⟩
  have hX := hOK.2.2.2.2
  have hb0 := hOK.2.2.2.1
  have hS : va_S (mh_A b) s.heap s.heap [] := va_S.rf
  have hl := lv_entry ([.ref m0, .int t]) (n := 3) (Nat.le_of_ble_eq_true rfl)
  rw [lg_entry_eq]
  generalize (lg_sl ([.ref m0, .int t]) ++ List.replicate (3 - (lg_sl ([.ref m0, .int t])).length) Slot.unset).toArray = ls at hl ⊢
  have hl : lv_has ls 3 [(0, .ref m0), (1, .int t)] := hl
  refine lv_aload_n hx hb d_MM_commit_0 rfl (lv_at hl 0 rfl) ?_
  refine lv_iload_n hx hb d_MM_commit_1 rfl (lv_at hl 1 rfl) ?_
  refine lv_bipush (v := nI 16) hx hb d_MM_commit_2 (by decide) ?_
  refine mh_callR (mh_sS (rest := [.ref m0]) (av := [.int t, .int (nI 16)]) K0 e_MM_in l_MM_53 k744 rfl rfl d_MM_commit_4) (c_MM_in) K0 hOK hml hl.1 e_MM_in hX hS d_MM_commit_4 (Nat.le_of_ble_eq_true rfl) (Nat.le_of_ble_eq_true rfl) (Nat.le_of_ble_eq_true rfl) (Nat.le_of_ble_eq_true rfl) (Nat.le_of_ble_eq_true rfl) (fun H locs hX hS => ?_)
  refine W.eq (g2 := F0 m 7 ls [.int (mh_b (st_in t 16)), .ref m0]) rfl ?_
  refine mh_ifneB (tgt := 14) hx hb d_MM_commit_7 (by decide) (fun c1 => ?_) (fun c1 => ?_)
  · skip
    refine lv_iconst (v := nI 0) hx hb d_MM_commit_14 (by decide) ?_
    refine lv_iconst (v := nI 1) hx hb d_MM_commit_15 (by decide) ?_
    exact absurd h (by simp [c1])
  · skip
    refine lv_iconst (v := nI 1) hx hb d_MM_commit_10 (by decide) ?_
    refine lv_goto (tgt := 15) hx hb d_MM_commit_11 (by decide) ?_
    refine lv_iconst (v := nI 1) hx hb d_MM_commit_15 (by decide) ?_
    refine mh_callV (mh_sV (rest := []) (av := [.int (nI 1), .int (nI 1)]) K0 hX r50 rfl e_MM_fails l_MM_57 k748 kp15 rfl rfl d_MM_commit_16) (c_MM_fails1 r50) K0 hOK hml hl.1 e_MM_fails hX hS d_MM_commit_16 (Nat.le_of_ble_eq_true rfl) (Nat.le_of_ble_eq_true rfl) (Nat.le_of_ble_eq_true rfl) (Nat.le_of_ble_eq_true rfl) (Nat.le_of_ble_eq_true rfl) (fun wf12 H locs ⟨hm12, hF12⟩ hX hS => ?_)
    refine W.eq (g2 := F0 m 19 ls [.int (nI 1)]) rfl ?_
    refine mh_if_eq (tgt := 24) hx hb (by omega) d_MM_commit_19 (by decide) (fun z => absurd z (by omega)) (fun _ => ?_)
    refine lv_iconst (v := nI 0) hx hb d_MM_commit_22 (by decide) ?_
    exact mh_iret K0 hr rfl hlocks hX hS (⟨rfl, ⟨aG, aO, aA, aV, aH, lg, op, at_, hQ.sc (fun k i h1 h2 h3 h4 => by rw [hF12 _ _ (by omega)]) hm12 ⟨_, ((hF12 54 0 (by omega)).trans r54)⟩ ⟨_, ((hF12 55 0 (by omega)).trans r55)⟩⟩, fun k i h => by rw [hF12 _ _ (by omega)]⟩) (Nat.le_of_ble_eq_true rfl) (Nat.le_of_ble_eq_true rfl) d_MM_commit_23
set_option maxHeartbeats 4000000 in
set_option maxRecDepth 100000 in
theorem c_MM_abort_1 {l : Launch} {b : Nat} {dC : Nat → ClassId} {dI : Nat → Nat → Nat} {dA : Nat → ClassId} {zs : Nat → Nat} {w : mh_w} {m0 : Nat} {er : Int32} {g : st_G} (hR : rM dA w m0 er g) (hG : sg_ok g) {t : Int32} (h : st_in t 16 = false) : mh_Met l b dC dI dA zs y_MM_abort (mh_rm 4 10 500) [.ref m0, .int t] w (mh_V none (fun w' => rM dA w' m0 (nI 1) g ∧ mh_D w w')) := by
  obtain ⟨aG, aO, aA, aV, aH, lg, op, at_, hQ⟩ := hR
  have hQ2 := hQ
  obtain ⟨r50, r51, r52, r53, ⟨vf, r54⟩, ⟨hf, r55⟩, ra, ro, rl⟩ := hQ2
  have hG2 := hG
  obtain ⟨gn, grs, gat, glo, gdr⟩ := hG2
  refine mh_ofW (cc := b_MM_abort) (n := 2) (ret := none) (hs := []) (by decide) k808 ?_
  intro p e s m below meth c hx hb hr hml hown hts hlocks hnm hT hOK hadm
  have K0 : mh_K0 p s m ([.ref m0, .int t]).toArray c "MeldHostModel" b_MM_abort dC dI dA := ⟨hx, hb, hown, hts, hOK.1, hOK.2.1⟩
  have hX := hOK.2.2.2.2
  have hb0 := hOK.2.2.2.1
  have hS : va_S (mh_A b) s.heap s.heap [] := va_S.rf
  have hl := lv_entry ([.ref m0, .int t]) (n := 2) (Nat.le_of_ble_eq_true rfl)
  rw [lg_entry_eq]
  generalize (lg_sl ([.ref m0, .int t]) ++ List.replicate (2 - (lg_sl ([.ref m0, .int t])).length) Slot.unset).toArray = ls at hl ⊢
  have hl : lv_has ls 2 [(0, .ref m0), (1, .int t)] := hl
  refine lv_aload_n hx hb d_MM_abort_0 rfl (lv_at hl 0 rfl) ?_
  refine lv_iload_n hx hb d_MM_abort_1 rfl (lv_at hl 1 rfl) ?_
  refine lv_bipush (v := nI 16) hx hb d_MM_abort_2 (by decide) ?_
  refine mh_callR (mh_sS (rest := [.ref m0]) (av := [.int t, .int (nI 16)]) K0 e_MM_in l_MM_53 k744 rfl rfl d_MM_abort_4) (c_MM_in) K0 hOK hml hl.1 e_MM_in hX hS d_MM_abort_4 (Nat.le_of_ble_eq_true rfl) (Nat.le_of_ble_eq_true rfl) (Nat.le_of_ble_eq_true rfl) (Nat.le_of_ble_eq_true rfl) (Nat.le_of_ble_eq_true rfl) (fun H locs hX hS => ?_)
  refine W.eq (g2 := F0 m 7 ls [.int (mh_b (st_in t 16)), .ref m0]) rfl ?_
  refine mh_ifneB (tgt := 14) hx hb d_MM_abort_7 (by decide) (fun c1 => ?_) (fun c1 => ?_)
  · skip
    refine lv_iconst (v := nI 0) hx hb d_MM_abort_14 (by decide) ?_
    refine lv_iconst (v := nI 1) hx hb d_MM_abort_15 (by decide) ?_
    exact absurd h (by simp [c1])
  · skip
    refine lv_iconst (v := nI 1) hx hb d_MM_abort_10 (by decide) ?_
    refine lv_goto (tgt := 15) hx hb d_MM_abort_11 (by decide) ?_
    refine lv_iconst (v := nI 1) hx hb d_MM_abort_15 (by decide) ?_
    refine mh_callV (mh_sV (rest := []) (av := [.int (nI 1), .int (nI 1)]) K0 hX r50 rfl e_MM_fails l_MM_57 k748 kp15 rfl rfl d_MM_abort_16) (c_MM_fails1 r50) K0 hOK hml hl.1 e_MM_fails hX hS d_MM_abort_16 (Nat.le_of_ble_eq_true rfl) (Nat.le_of_ble_eq_true rfl) (Nat.le_of_ble_eq_true rfl) (Nat.le_of_ble_eq_true rfl) (Nat.le_of_ble_eq_true rfl) (fun wf13 H locs ⟨hm13, hF13⟩ hX hS => ?_)
    refine W.eq (g2 := F0 m 19 ls [.int (nI 1)]) rfl ?_
    refine mh_if_eq (tgt := 23) hx hb (by omega) d_MM_abort_19 (by decide) (fun z => absurd z (by omega)) (fun _ => ?_)
    exact mh_vret K0 hr hlocks hX hS (⟨rfl, ⟨aG, aO, aA, aV, aH, lg, op, at_, hQ.sc (fun k i h1 h2 h3 h4 => by rw [hF13 _ _ (by omega)]) hm13 ⟨_, ((hF13 54 0 (by omega)).trans r54)⟩ ⟨_, ((hF13 55 0 (by omega)).trans r55)⟩⟩, fun k i h => by rw [hF13 _ _ (by omega)]⟩) (Nat.le_of_ble_eq_true rfl) (Nat.le_of_ble_eq_true rfl) d_MM_abort_22
set_option maxHeartbeats 4000000 in
set_option maxRecDepth 100000 in
theorem c_MM_restart_1 {l : Launch} {b : Nat} {dC : Nat → ClassId} {dI : Nat → Nat → Nat} {dA : Nat → ClassId} {zs : Nat → Nat} {w : mh_w} {m0 : Nat} {er : Int32} {g : st_G} (hR : rM dA w m0 er g) (hG : sg_ok g) {u : Int32} (h : st_in u 4 = false) : mh_Met l b dC dI dA zs y_MM_restart (mh_rm 4 10 500) [.ref m0, .int u] w (mh_V none (fun w' => rM dA w' m0 (nI 1) g ∧ mh_D w w')) := by
  obtain ⟨aG, aO, aA, aV, aH, lg, op, at_, hQ⟩ := hR
  have hQ2 := hQ
  obtain ⟨r50, r51, r52, r53, ⟨vf, r54⟩, ⟨hf, r55⟩, ra, ro, rl⟩ := hQ2
  have hG2 := hG
  obtain ⟨gn, grs, gat, glo, gdr⟩ := hG2
  refine mh_ofW (cc := b_MM_restart) (n := 3) (ret := none) (hs := []) (by decide) k817 ?_
  intro p e s m below meth c hx hb hr hml hown hts hlocks hnm hT hOK hadm
  have K0 : mh_K0 p s m ([.ref m0, .int u]).toArray c "MeldHostModel" b_MM_restart dC dI dA := ⟨hx, hb, hown, hts, hOK.1, hOK.2.1⟩
  have hX := hOK.2.2.2.2
  have hb0 := hOK.2.2.2.1
  have hS : va_S (mh_A b) s.heap s.heap [] := va_S.rf
  have hl := lv_entry ([.ref m0, .int u]) (n := 3) (Nat.le_of_ble_eq_true rfl)
  rw [lg_entry_eq]
  generalize (lg_sl ([.ref m0, .int u]) ++ List.replicate (3 - (lg_sl ([.ref m0, .int u])).length) Slot.unset).toArray = ls at hl ⊢
  have hl : lv_has ls 3 [(0, .ref m0), (1, .int u)] := hl
  refine lv_aload_n hx hb d_MM_restart_0 rfl (lv_at hl 0 rfl) ?_
  refine lv_iload_n hx hb d_MM_restart_1 rfl (lv_at hl 1 rfl) ?_
  refine lv_iconst (v := nI 4) hx hb d_MM_restart_2 (by decide) ?_
  refine mh_callR (mh_sS (rest := [.ref m0]) (av := [.int u, .int (nI 4)]) K0 e_MM_in l_MM_53 k744 rfl rfl d_MM_restart_3) (c_MM_in) K0 hOK hml hl.1 e_MM_in hX hS d_MM_restart_3 (Nat.le_of_ble_eq_true rfl) (Nat.le_of_ble_eq_true rfl) (Nat.le_of_ble_eq_true rfl) (Nat.le_of_ble_eq_true rfl) (Nat.le_of_ble_eq_true rfl) (fun H locs hX hS => ?_)
  refine W.eq (g2 := F0 m 6 ls [.int (mh_b (st_in u 4)), .ref m0]) rfl ?_
  refine mh_ifneB (tgt := 13) hx hb d_MM_restart_6 (by decide) (fun c1 => ?_) (fun c1 => ?_)
  · skip
    refine lv_iconst (v := nI 0) hx hb d_MM_restart_13 (by decide) ?_
    refine lv_iconst (v := nI 1) hx hb d_MM_restart_14 (by decide) ?_
    exact absurd h (by simp [c1])
  · skip
    refine lv_iconst (v := nI 1) hx hb d_MM_restart_9 (by decide) ?_
    refine lv_goto (tgt := 14) hx hb d_MM_restart_10 (by decide) ?_
    refine lv_iconst (v := nI 1) hx hb d_MM_restart_14 (by decide) ?_
    refine mh_callV (mh_sV (rest := []) (av := [.int (nI 1), .int (nI 1)]) K0 hX r50 rfl e_MM_fails l_MM_57 k748 kp15 rfl rfl d_MM_restart_15) (c_MM_fails1 r50) K0 hOK hml hl.1 e_MM_fails hX hS d_MM_restart_15 (Nat.le_of_ble_eq_true rfl) (Nat.le_of_ble_eq_true rfl) (Nat.le_of_ble_eq_true rfl) (Nat.le_of_ble_eq_true rfl) (Nat.le_of_ble_eq_true rfl) (fun wf14 H locs ⟨hm14, hF14⟩ hX hS => ?_)
    refine W.eq (g2 := F0 m 18 ls [.int (nI 1)]) rfl ?_
    refine mh_if_eq (tgt := 22) hx hb (by omega) d_MM_restart_18 (by decide) (fun z => absurd z (by omega)) (fun _ => ?_)
    exact mh_vret K0 hr hlocks hX hS (⟨rfl, ⟨aG, aO, aA, aV, aH, lg, op, at_, hQ.sc (fun k i h1 h2 h3 h4 => by rw [hF14 _ _ (by omega)]) hm14 ⟨_, ((hF14 54 0 (by omega)).trans r54)⟩ ⟨_, ((hF14 55 0 (by omega)).trans r55)⟩⟩, fun k i h => by rw [hF14 _ _ (by omega)]⟩) (Nat.le_of_ble_eq_true rfl) (Nat.le_of_ble_eq_true rfl) d_MM_restart_21
set_option maxHeartbeats 4000000 in
set_option maxRecDepth 100000 in
theorem c_MM_state_1 {l : Launch} {b : Nat} {dC : Nat → ClassId} {dI : Nat → Nat → Nat} {dA : Nat → ClassId} {zs : Nat → Nat} {w : mh_w} {m0 : Nat} {er : Int32} {g : st_G} (hR : rM dA w m0 er g) (hG : sg_ok g) {u key : Int32} (h : (st_in u 4 && st_in key 256) = false) : mh_Met l b dC dI dA zs y_MM_state (mh_rm 4 10 500) [.ref m0, .int u, .int key] w (mh_V (some (.long 0)) (fun w' => rM dA w' m0 (nI 1) g ∧ mh_D w w')) := by
  obtain ⟨aG, aO, aA, aV, aH, lg, op, at_, hQ⟩ := hR
  have hQ2 := hQ
  obtain ⟨r50, r51, r52, r53, ⟨vf, r54⟩, ⟨hf, r55⟩, ra, ro, rl⟩ := hQ2
  have hG2 := hG
  obtain ⟨gn, grs, gat, glo, gdr⟩ := hG2
  refine mh_ofW (cc := b_MM_state) (n := 3) (ret := (some .long)) (hs := []) (by decide) k821 ?_
  intro p e s m below meth c hx hb hr hml hown hts hlocks hnm hT hOK hadm
  have K0 : mh_K0 p s m ([.ref m0, .int u, .int key]).toArray c "MeldHostModel" b_MM_state dC dI dA := ⟨hx, hb, hown, hts, hOK.1, hOK.2.1⟩
  have hX := hOK.2.2.2.2
  have hb0 := hOK.2.2.2.1
  have hS : va_S (mh_A b) s.heap s.heap [] := va_S.rf
  have hl := lv_entry ([.ref m0, .int u, .int key]) (n := 3) (Nat.le_of_ble_eq_true rfl)
  rw [lg_entry_eq]
  generalize (lg_sl ([.ref m0, .int u, .int key]) ++ List.replicate (3 - (lg_sl ([.ref m0, .int u, .int key])).length) Slot.unset).toArray = ls at hl ⊢
  have hl : lv_has ls 3 [(0, .ref m0), (1, .int u), (2, .int key)] := hl
  refine lv_aload_n hx hb d_MM_state_0 rfl (lv_at hl 0 rfl) ?_
  refine lv_iload_n hx hb d_MM_state_1 rfl (lv_at hl 1 rfl) ?_
  refine lv_iconst (v := nI 4) hx hb d_MM_state_2 (by decide) ?_
  refine mh_callR (mh_sS (rest := [.ref m0]) (av := [.int u, .int (nI 4)]) K0 e_MM_in l_MM_53 k744 rfl rfl d_MM_state_3) (c_MM_in) K0 hOK hml hl.1 e_MM_in hX hS d_MM_state_3 (Nat.le_of_ble_eq_true rfl) (Nat.le_of_ble_eq_true rfl) (Nat.le_of_ble_eq_true rfl) (Nat.le_of_ble_eq_true rfl) (Nat.le_of_ble_eq_true rfl) (fun H locs hX hS => ?_)
  refine W.eq (g2 := F0 m 6 ls [.int (mh_b (st_in u 4)), .ref m0]) rfl ?_
  refine mh_ifeqB (tgt := 19) hx hb d_MM_state_6 (by decide) (fun c1 => ?_) (fun c1 => ?_)
  · skip
    refine lv_iconst (v := nI 1) hx hb d_MM_state_19 (by decide) ?_
    refine lv_goto (tgt := 24) hx hb d_MM_state_20 (by decide) ?_
    refine lv_iconst (v := nI 1) hx hb d_MM_state_24 (by decide) ?_
    refine mh_callV (mh_sV (rest := []) (av := [.int (nI 1), .int (nI 1)]) K0 hX r50 rfl e_MM_fails l_MM_57 k748 kp15 rfl rfl d_MM_state_25) (c_MM_fails1 r50) K0 hOK hml hl.1 e_MM_fails hX hS d_MM_state_25 (Nat.le_of_ble_eq_true rfl) (Nat.le_of_ble_eq_true rfl) (Nat.le_of_ble_eq_true rfl) (Nat.le_of_ble_eq_true rfl) (Nat.le_of_ble_eq_true rfl) (fun wf15 H locs ⟨hm15, hF15⟩ hX hS => ?_)
    refine W.eq (g2 := F0 m 28 ls [.int (nI 1)]) rfl ?_
    refine mh_if_eq (tgt := 33) hx hb (by omega) d_MM_state_28 (by decide) (fun z => absurd z (by omega)) (fun _ => ?_)
    refine lv_lconst (v := 0) hx hb d_MM_state_31 rfl ?_
    exact mh_lret K0 hr hlocks hX hS (⟨rfl, ⟨aG, aO, aA, aV, aH, lg, op, at_, hQ.sc (fun k i h1 h2 h3 h4 => by rw [hF15 _ _ (by omega)]) hm15 ⟨_, ((hF15 54 0 (by omega)).trans r54)⟩ ⟨_, ((hF15 55 0 (by omega)).trans r55)⟩⟩, fun k i h => by rw [hF15 _ _ (by omega)]⟩) (Nat.le_of_ble_eq_true rfl) (Nat.le_of_ble_eq_true rfl) d_MM_state_32
  · skip
    refine lv_iload_n hx hb d_MM_state_9 rfl (lv_at hl 2 rfl) ?_
    refine lv_sipush (v := nI 256) hx hb d_MM_state_10 (by decide) ?_
    refine mh_callR (mh_sS (rest := [.ref m0]) (av := [.int key, .int (nI 256)]) K0 e_MM_in l_MM_53 k744 rfl rfl d_MM_state_13) (c_MM_in) K0 hOK hml hl.1 e_MM_in hX hS d_MM_state_13 (Nat.le_of_ble_eq_true rfl) (Nat.le_of_ble_eq_true rfl) (Nat.le_of_ble_eq_true rfl) (Nat.le_of_ble_eq_true rfl) (Nat.le_of_ble_eq_true rfl) (fun H locs hX hS => ?_)
    refine W.eq (g2 := F0 m 16 ls [.int (mh_b (st_in key 256)), .ref m0]) rfl ?_
    refine mh_ifneB (tgt := 23) hx hb d_MM_state_16 (by decide) (fun c2 => ?_) (fun c2 => ?_)
    · skip
      refine lv_iconst (v := nI 0) hx hb d_MM_state_23 (by decide) ?_
      refine lv_iconst (v := nI 1) hx hb d_MM_state_24 (by decide) ?_
      exact absurd h (by simp [c1, c2])
    · skip
      refine lv_iconst (v := nI 1) hx hb d_MM_state_19 (by decide) ?_
      refine lv_goto (tgt := 24) hx hb d_MM_state_20 (by decide) ?_
      refine lv_iconst (v := nI 1) hx hb d_MM_state_24 (by decide) ?_
      refine mh_callV (mh_sV (rest := []) (av := [.int (nI 1), .int (nI 1)]) K0 hX r50 rfl e_MM_fails l_MM_57 k748 kp15 rfl rfl d_MM_state_25) (c_MM_fails1 r50) K0 hOK hml hl.1 e_MM_fails hX hS d_MM_state_25 (Nat.le_of_ble_eq_true rfl) (Nat.le_of_ble_eq_true rfl) (Nat.le_of_ble_eq_true rfl) (Nat.le_of_ble_eq_true rfl) (Nat.le_of_ble_eq_true rfl) (fun wf16 H locs ⟨hm16, hF16⟩ hX hS => ?_)
      refine W.eq (g2 := F0 m 28 ls [.int (nI 1)]) rfl ?_
      refine mh_if_eq (tgt := 33) hx hb (by omega) d_MM_state_28 (by decide) (fun z => absurd z (by omega)) (fun _ => ?_)
      refine lv_lconst (v := 0) hx hb d_MM_state_31 rfl ?_
      exact mh_lret K0 hr hlocks hX hS (⟨rfl, ⟨aG, aO, aA, aV, aH, lg, op, at_, hQ.sc (fun k i h1 h2 h3 h4 => by rw [hF16 _ _ (by omega)]) hm16 ⟨_, ((hF16 54 0 (by omega)).trans r54)⟩ ⟨_, ((hF16 55 0 (by omega)).trans r55)⟩⟩, fun k i h => by rw [hF16 _ _ (by omega)]⟩) (Nat.le_of_ble_eq_true rfl) (Nat.le_of_ble_eq_true rfl) d_MM_state_32
set_option maxHeartbeats 4000000 in
set_option maxRecDepth 100000 in
theorem c_MM_verdict_1 {l : Launch} {b : Nat} {dC : Nat → ClassId} {dI : Nat → Nat → Nat} {dA : Nat → ClassId} {zs : Nat → Nat} {w : mh_w} {m0 : Nat} {er : Int32} {g : st_G} (hR : rM dA w m0 er g) (hG : sg_ok g) {u k : Int32} (h : st_in u 4 = false) : mh_Met l b dC dI dA zs y_MM_verdict (mh_rm 4 10 500) [.ref m0, .int u, .int k] w (mh_V (some (.int (nI 0))) (fun w' => rM dA w' m0 (nI 1) g ∧ mh_D w w')) := by
  obtain ⟨aG, aO, aA, aV, aH, lg, op, at_, hQ⟩ := hR
  have hQ2 := hQ
  obtain ⟨r50, r51, r52, r53, ⟨vf, r54⟩, ⟨hf, r55⟩, ra, ro, rl⟩ := hQ2
  have hG2 := hG
  obtain ⟨gn, grs, gat, glo, gdr⟩ := hG2
  refine mh_ofW (cc := b_MM_verdict) (n := 3) (ret := (some .int)) (hs := []) (by decide) k829 ?_
  intro p e s m below meth c hx hb hr hml hown hts hlocks hnm hT hOK hadm
  have K0 : mh_K0 p s m ([.ref m0, .int u, .int k]).toArray c "MeldHostModel" b_MM_verdict dC dI dA := ⟨hx, hb, hown, hts, hOK.1, hOK.2.1⟩
  have hX := hOK.2.2.2.2
  have hb0 := hOK.2.2.2.1
  have hS : va_S (mh_A b) s.heap s.heap [] := va_S.rf
  have hl := lv_entry ([.ref m0, .int u, .int k]) (n := 3) (Nat.le_of_ble_eq_true rfl)
  rw [lg_entry_eq]
  generalize (lg_sl ([.ref m0, .int u, .int k]) ++ List.replicate (3 - (lg_sl ([.ref m0, .int u, .int k])).length) Slot.unset).toArray = ls at hl ⊢
  have hl : lv_has ls 3 [(0, .ref m0), (1, .int u), (2, .int k)] := hl
  refine lv_aload_n hx hb d_MM_verdict_0 rfl (lv_at hl 0 rfl) ?_
  refine lv_iload_n hx hb d_MM_verdict_1 rfl (lv_at hl 1 rfl) ?_
  refine lv_iconst (v := nI 4) hx hb d_MM_verdict_2 (by decide) ?_
  refine mh_callR (mh_sS (rest := [.ref m0]) (av := [.int u, .int (nI 4)]) K0 e_MM_in l_MM_53 k744 rfl rfl d_MM_verdict_3) (c_MM_in) K0 hOK hml hl.1 e_MM_in hX hS d_MM_verdict_3 (Nat.le_of_ble_eq_true rfl) (Nat.le_of_ble_eq_true rfl) (Nat.le_of_ble_eq_true rfl) (Nat.le_of_ble_eq_true rfl) (Nat.le_of_ble_eq_true rfl) (fun H locs hX hS => ?_)
  refine W.eq (g2 := F0 m 6 ls [.int (mh_b (st_in u 4)), .ref m0]) rfl ?_
  refine mh_ifneB (tgt := 13) hx hb d_MM_verdict_6 (by decide) (fun c1 => ?_) (fun c1 => ?_)
  · skip
    refine lv_iconst (v := nI 0) hx hb d_MM_verdict_13 (by decide) ?_
    refine lv_iconst (v := nI 1) hx hb d_MM_verdict_14 (by decide) ?_
    exact absurd h (by simp [c1])
  · skip
    refine lv_iconst (v := nI 1) hx hb d_MM_verdict_9 (by decide) ?_
    refine lv_goto (tgt := 14) hx hb d_MM_verdict_10 (by decide) ?_
    refine lv_iconst (v := nI 1) hx hb d_MM_verdict_14 (by decide) ?_
    refine mh_callV (mh_sV (rest := []) (av := [.int (nI 1), .int (nI 1)]) K0 hX r50 rfl e_MM_fails l_MM_57 k748 kp15 rfl rfl d_MM_verdict_15) (c_MM_fails1 r50) K0 hOK hml hl.1 e_MM_fails hX hS d_MM_verdict_15 (Nat.le_of_ble_eq_true rfl) (Nat.le_of_ble_eq_true rfl) (Nat.le_of_ble_eq_true rfl) (Nat.le_of_ble_eq_true rfl) (Nat.le_of_ble_eq_true rfl) (fun wf17 H locs ⟨hm17, hF17⟩ hX hS => ?_)
    refine W.eq (g2 := F0 m 18 ls [.int (nI 1)]) rfl ?_
    refine mh_if_eq (tgt := 23) hx hb (by omega) d_MM_verdict_18 (by decide) (fun z => absurd z (by omega)) (fun _ => ?_)
    refine lv_iconst (v := nI 0) hx hb d_MM_verdict_21 (by decide) ?_
    exact mh_iret K0 hr rfl hlocks hX hS (⟨rfl, ⟨aG, aO, aA, aV, aH, lg, op, at_, hQ.sc (fun k i h1 h2 h3 h4 => by rw [hF17 _ _ (by omega)]) hm17 ⟨_, ((hF17 54 0 (by omega)).trans r54)⟩ ⟨_, ((hF17 55 0 (by omega)).trans r55)⟩⟩, fun k i h => by rw [hF17 _ _ (by omega)]⟩) (Nat.le_of_ble_eq_true rfl) (Nat.le_of_ble_eq_true rfl) d_MM_verdict_22
set_option maxHeartbeats 4000000 in
set_option maxRecDepth 100000 in
theorem c_MM_intention_1 {l : Launch} {b : Nat} {dC : Nat → ClassId} {dI : Nat → Nat → Nat} {dA : Nat → ClassId} {zs : Nat → Nat} {w : mh_w} {m0 : Nat} {er : Int32} {g : st_G} (hR : rM dA w m0 er g) (hG : sg_ok g) {k what : Int32} (h : st_in what 6 = false) : mh_Met l b dC dI dA zs y_MM_intention (mh_rm 4 10 500) [.ref m0, .int k, .int what] w (mh_V (some (.int (nI 0))) (fun w' => rM dA w' m0 (nI 1) g ∧ mh_D w w')) := by
  obtain ⟨aG, aO, aA, aV, aH, lg, op, at_, hQ⟩ := hR
  have hQ2 := hQ
  obtain ⟨r50, r51, r52, r53, ⟨vf, r54⟩, ⟨hf, r55⟩, ra, ro, rl⟩ := hQ2
  have hG2 := hG
  obtain ⟨gn, grs, gat, glo, gdr⟩ := hG2
  refine mh_ofW (cc := b_MM_intention) (n := 4) (ret := (some .int)) (hs := []) (by decide) k833 ?_
  intro p e s m below meth c hx hb hr hml hown hts hlocks hnm hT hOK hadm
  have K0 : mh_K0 p s m ([.ref m0, .int k, .int what]).toArray c "MeldHostModel" b_MM_intention dC dI dA := ⟨hx, hb, hown, hts, hOK.1, hOK.2.1⟩
  have hX := hOK.2.2.2.2
  have hb0 := hOK.2.2.2.1
  have hS : va_S (mh_A b) s.heap s.heap [] := va_S.rf
  have hl := lv_entry ([.ref m0, .int k, .int what]) (n := 4) (Nat.le_of_ble_eq_true rfl)
  rw [lg_entry_eq]
  generalize (lg_sl ([.ref m0, .int k, .int what]) ++ List.replicate (4 - (lg_sl ([.ref m0, .int k, .int what])).length) Slot.unset).toArray = ls at hl ⊢
  have hl : lv_has ls 4 [(0, .ref m0), (1, .int k), (2, .int what)] := hl
  refine lv_aload_n hx hb d_MM_intention_0 rfl (lv_at hl 0 rfl) ?_
  refine lv_iload_n hx hb d_MM_intention_1 rfl (lv_at hl 2 rfl) ?_
  refine lv_bipush (v := nI 6) hx hb d_MM_intention_2 (by decide) ?_
  refine mh_callR (mh_sS (rest := [.ref m0]) (av := [.int what, .int (nI 6)]) K0 e_MM_in l_MM_53 k744 rfl rfl d_MM_intention_4) (c_MM_in) K0 hOK hml hl.1 e_MM_in hX hS d_MM_intention_4 (Nat.le_of_ble_eq_true rfl) (Nat.le_of_ble_eq_true rfl) (Nat.le_of_ble_eq_true rfl) (Nat.le_of_ble_eq_true rfl) (Nat.le_of_ble_eq_true rfl) (fun H locs hX hS => ?_)
  refine W.eq (g2 := F0 m 7 ls [.int (mh_b (st_in what 6)), .ref m0]) rfl ?_
  refine mh_ifneB (tgt := 14) hx hb d_MM_intention_7 (by decide) (fun c1 => ?_) (fun c1 => ?_)
  · skip
    refine lv_iconst (v := nI 0) hx hb d_MM_intention_14 (by decide) ?_
    refine lv_iconst (v := nI 1) hx hb d_MM_intention_15 (by decide) ?_
    exact absurd h (by simp [c1])
  · skip
    refine lv_iconst (v := nI 1) hx hb d_MM_intention_10 (by decide) ?_
    refine lv_goto (tgt := 15) hx hb d_MM_intention_11 (by decide) ?_
    refine lv_iconst (v := nI 1) hx hb d_MM_intention_15 (by decide) ?_
    refine mh_callV (mh_sV (rest := []) (av := [.int (nI 1), .int (nI 1)]) K0 hX r50 rfl e_MM_fails l_MM_57 k748 kp15 rfl rfl d_MM_intention_16) (c_MM_fails1 r50) K0 hOK hml hl.1 e_MM_fails hX hS d_MM_intention_16 (Nat.le_of_ble_eq_true rfl) (Nat.le_of_ble_eq_true rfl) (Nat.le_of_ble_eq_true rfl) (Nat.le_of_ble_eq_true rfl) (Nat.le_of_ble_eq_true rfl) (fun wf18 H locs ⟨hm18, hF18⟩ hX hS => ?_)
    refine W.eq (g2 := F0 m 19 ls [.int (nI 1)]) rfl ?_
    refine mh_if_eq (tgt := 24) hx hb (by omega) d_MM_intention_19 (by decide) (fun z => absurd z (by omega)) (fun _ => ?_)
    refine lv_iconst (v := nI 0) hx hb d_MM_intention_22 (by decide) ?_
    exact mh_iret K0 hr rfl hlocks hX hS (⟨rfl, ⟨aG, aO, aA, aV, aH, lg, op, at_, hQ.sc (fun k i h1 h2 h3 h4 => by rw [hF18 _ _ (by omega)]) hm18 ⟨_, ((hF18 54 0 (by omega)).trans r54)⟩ ⟨_, ((hF18 55 0 (by omega)).trans r55)⟩⟩, fun k i h => by rw [hF18 _ _ (by omega)]⟩) (Nat.le_of_ble_eq_true rfl) (Nat.le_of_ble_eq_true rfl) d_MM_intention_23
set_option maxHeartbeats 4000000 in
set_option maxRecDepth 100000 in
theorem c_MM_advance_1 {l : Launch} {b : Nat} {dC : Nat → ClassId} {dI : Nat → Nat → Nat} {dA : Nat → ClassId} {zs : Nat → Nat} {w : mh_w} {m0 : Nat} {er : Int32} {g : st_G} (hR : rM dA w m0 er g) (hG : sg_ok g) {u k9 : Int32} (h : (st_in u 4 && st_in k9 401) = false) : mh_Met l b dC dI dA zs y_MM_advance (mh_rm 4 10 500) [.ref m0, .int u, .int k9] w (mh_V (some (.int (nI 0))) (fun w' => rM dA w' m0 (nI 1) g ∧ mh_D w w')) := by
  obtain ⟨aG, aO, aA, aV, aH, lg, op, at_, hQ⟩ := hR
  have hQ2 := hQ
  obtain ⟨r50, r51, r52, r53, ⟨vf, r54⟩, ⟨hf, r55⟩, ra, ro, rl⟩ := hQ2
  have hG2 := hG
  obtain ⟨gn, grs, gat, glo, gdr⟩ := hG2
  refine mh_ofW (cc := b_MM_advance) (n := 4) (ret := (some .int)) (hs := []) (by decide) k812 ?_
  intro p e s m below meth c hx hb hr hml hown hts hlocks hnm hT hOK hadm
  have K0 : mh_K0 p s m ([.ref m0, .int u, .int k9]).toArray c "MeldHostModel" b_MM_advance dC dI dA := ⟨hx, hb, hown, hts, hOK.1, hOK.2.1⟩
  have hX := hOK.2.2.2.2
  have hb0 := hOK.2.2.2.1
  have hS : va_S (mh_A b) s.heap s.heap [] := va_S.rf
  have hl := lv_entry ([.ref m0, .int u, .int k9]) (n := 4) (Nat.le_of_ble_eq_true rfl)
  rw [lg_entry_eq]
  generalize (lg_sl ([.ref m0, .int u, .int k9]) ++ List.replicate (4 - (lg_sl ([.ref m0, .int u, .int k9])).length) Slot.unset).toArray = ls at hl ⊢
  have hl : lv_has ls 4 [(0, .ref m0), (1, .int u), (2, .int k9)] := hl
  refine lv_aload_n hx hb d_MM_advance_0 rfl (lv_at hl 0 rfl) ?_
  refine lv_iload_n hx hb d_MM_advance_1 rfl (lv_at hl 1 rfl) ?_
  refine lv_iconst (v := nI 4) hx hb d_MM_advance_2 (by decide) ?_
  refine mh_callR (mh_sS (rest := [.ref m0]) (av := [.int u, .int (nI 4)]) K0 e_MM_in l_MM_53 k744 rfl rfl d_MM_advance_3) (c_MM_in) K0 hOK hml hl.1 e_MM_in hX hS d_MM_advance_3 (Nat.le_of_ble_eq_true rfl) (Nat.le_of_ble_eq_true rfl) (Nat.le_of_ble_eq_true rfl) (Nat.le_of_ble_eq_true rfl) (Nat.le_of_ble_eq_true rfl) (fun H locs hX hS => ?_)
  refine W.eq (g2 := F0 m 6 ls [.int (mh_b (st_in u 4)), .ref m0]) rfl ?_
  refine mh_ifeqB (tgt := 20) hx hb d_MM_advance_6 (by decide) (fun c1 => ?_) (fun c1 => ?_)
  · skip
    refine lv_iconst (v := nI 1) hx hb d_MM_advance_20 (by decide) ?_
    refine lv_goto (tgt := 25) hx hb d_MM_advance_21 (by decide) ?_
    refine lv_iconst (v := nI 1) hx hb d_MM_advance_25 (by decide) ?_
    refine mh_callV (mh_sV (rest := []) (av := [.int (nI 1), .int (nI 1)]) K0 hX r50 rfl e_MM_fails l_MM_57 k748 kp15 rfl rfl d_MM_advance_26) (c_MM_fails1 r50) K0 hOK hml hl.1 e_MM_fails hX hS d_MM_advance_26 (Nat.le_of_ble_eq_true rfl) (Nat.le_of_ble_eq_true rfl) (Nat.le_of_ble_eq_true rfl) (Nat.le_of_ble_eq_true rfl) (Nat.le_of_ble_eq_true rfl) (fun wf19 H locs ⟨hm19, hF19⟩ hX hS => ?_)
    refine W.eq (g2 := F0 m 29 ls [.int (nI 1)]) rfl ?_
    refine mh_if_eq (tgt := 34) hx hb (by omega) d_MM_advance_29 (by decide) (fun z => absurd z (by omega)) (fun _ => ?_)
    refine lv_iconst (v := nI 0) hx hb d_MM_advance_32 (by decide) ?_
    exact mh_iret K0 hr rfl hlocks hX hS (⟨rfl, ⟨aG, aO, aA, aV, aH, lg, op, at_, hQ.sc (fun k i h1 h2 h3 h4 => by rw [hF19 _ _ (by omega)]) hm19 ⟨_, ((hF19 54 0 (by omega)).trans r54)⟩ ⟨_, ((hF19 55 0 (by omega)).trans r55)⟩⟩, fun k i h => by rw [hF19 _ _ (by omega)]⟩) (Nat.le_of_ble_eq_true rfl) (Nat.le_of_ble_eq_true rfl) d_MM_advance_33
  · skip
    refine lv_iload_n hx hb d_MM_advance_9 rfl (lv_at hl 2 rfl) ?_
    refine lv_if_lt (tgt := 20) hx hb d_MM_advance_10 (by decide) (fun c2 => ?_) (fun c2 => ?_)
    · skip
      refine lv_iconst (v := nI 1) hx hb d_MM_advance_20 (by decide) ?_
      refine lv_goto (tgt := 25) hx hb d_MM_advance_21 (by decide) ?_
      refine lv_iconst (v := nI 1) hx hb d_MM_advance_25 (by decide) ?_
      refine mh_callV (mh_sV (rest := []) (av := [.int (nI 1), .int (nI 1)]) K0 hX r50 rfl e_MM_fails l_MM_57 k748 kp15 rfl rfl d_MM_advance_26) (c_MM_fails1 r50) K0 hOK hml hl.1 e_MM_fails hX hS d_MM_advance_26 (Nat.le_of_ble_eq_true rfl) (Nat.le_of_ble_eq_true rfl) (Nat.le_of_ble_eq_true rfl) (Nat.le_of_ble_eq_true rfl) (Nat.le_of_ble_eq_true rfl) (fun wf20 H locs ⟨hm20, hF20⟩ hX hS => ?_)
      refine W.eq (g2 := F0 m 29 ls [.int (nI 1)]) rfl ?_
      refine mh_if_eq (tgt := 34) hx hb (by omega) d_MM_advance_29 (by decide) (fun z => absurd z (by omega)) (fun _ => ?_)
      refine lv_iconst (v := nI 0) hx hb d_MM_advance_32 (by decide) ?_
      exact mh_iret K0 hr rfl hlocks hX hS (⟨rfl, ⟨aG, aO, aA, aV, aH, lg, op, at_, hQ.sc (fun k i h1 h2 h3 h4 => by rw [hF20 _ _ (by omega)]) hm20 ⟨_, ((hF20 54 0 (by omega)).trans r54)⟩ ⟨_, ((hF20 55 0 (by omega)).trans r55)⟩⟩, fun k i h => by rw [hF20 _ _ (by omega)]⟩) (Nat.le_of_ble_eq_true rfl) (Nat.le_of_ble_eq_true rfl) d_MM_advance_33
    · skip
      refine lv_iload_n hx hb d_MM_advance_13 rfl (lv_at hl 2 rfl) ?_
      refine lv_sipush (v := nI 400) hx hb d_MM_advance_14 (by decide) ?_
      refine lv_icmp_le (tgt := 24) hx hb d_MM_advance_17 (by decide) (fun c3 => ?_) (fun c3 => ?_)
      · skip
        exact absurd h (by simp [c1, st_in_401 c2 c3])
      · skip
        refine lv_iconst (v := nI 1) hx hb d_MM_advance_20 (by decide) ?_
        refine lv_goto (tgt := 25) hx hb d_MM_advance_21 (by decide) ?_
        refine lv_iconst (v := nI 1) hx hb d_MM_advance_25 (by decide) ?_
        refine mh_callV (mh_sV (rest := []) (av := [.int (nI 1), .int (nI 1)]) K0 hX r50 rfl e_MM_fails l_MM_57 k748 kp15 rfl rfl d_MM_advance_26) (c_MM_fails1 r50) K0 hOK hml hl.1 e_MM_fails hX hS d_MM_advance_26 (Nat.le_of_ble_eq_true rfl) (Nat.le_of_ble_eq_true rfl) (Nat.le_of_ble_eq_true rfl) (Nat.le_of_ble_eq_true rfl) (Nat.le_of_ble_eq_true rfl) (fun wf21 H locs ⟨hm21, hF21⟩ hX hS => ?_)
        refine W.eq (g2 := F0 m 29 ls [.int (nI 1)]) rfl ?_
        refine mh_if_eq (tgt := 34) hx hb (by omega) d_MM_advance_29 (by decide) (fun z => absurd z (by omega)) (fun _ => ?_)
        refine lv_iconst (v := nI 0) hx hb d_MM_advance_32 (by decide) ?_
        exact mh_iret K0 hr rfl hlocks hX hS (⟨rfl, ⟨aG, aO, aA, aV, aH, lg, op, at_, hQ.sc (fun k i h1 h2 h3 h4 => by rw [hF21 _ _ (by omega)]) hm21 ⟨_, ((hF21 54 0 (by omega)).trans r54)⟩ ⟨_, ((hF21 55 0 (by omega)).trans r55)⟩⟩, fun k i h => by rw [hF21 _ _ (by omega)]⟩) (Nat.le_of_ble_eq_true rfl) (Nat.le_of_ble_eq_true rfl) d_MM_advance_33
set_option maxHeartbeats 4000000 in
set_option maxRecDepth 100000 in
theorem c_MM_get_2 {l : Launch} {b : Nat} {dC : Nat → ClassId} {dI : Nat → Nat → Nat} {dA : Nat → ClassId} {zs : Nat → Nat} {w : mh_w} {m0 : Nat} {er : Int32} {g : st_G} (hR : rM dA w m0 er g) (hG : sg_ok g) {t : Nat} (ht : t < 16) {key : Nat} (hk : key < 256) (hd : sg_dr g t = none) : mh_Met l b dC dI dA zs y_MM_get (mh_rm 4 10 500) [.ref m0, .int (nI t), .int (nI key)] w (mh_V (some (.long 0)) (fun w' => rM dA w' m0 (nI 2) g ∧ mh_D w w')) := by
  obtain ⟨aG, aO, aA, aV, aH, lg, op, at_, hQ⟩ := hR
  have hQ2 := hQ
  obtain ⟨r50, r51, r52, r53, ⟨vf, r54⟩, ⟨hf, r55⟩, ra, ro, rl⟩ := hQ2
  have hG2 := hG
  obtain ⟨gn, grs, gat, glo, gdr⟩ := hG2
  refine mh_ofW (cc := b_MM_get) (n := 4) (ret := (some .long)) (hs := []) (by decide) k757 ?_
  intro p e s m below meth c hx hb hr hml hown hts hlocks hnm hT hOK hadm
  have K0 : mh_K0 p s m ([.ref m0, .int (nI t), .int (nI key)]).toArray c "MeldHostModel" b_MM_get dC dI dA := ⟨hx, hb, hown, hts, hOK.1, hOK.2.1⟩
  have hX := hOK.2.2.2.2
  have hb0 := hOK.2.2.2.1
  have hS : va_S (mh_A b) s.heap s.heap [] := va_S.rf
  have hl := lv_entry ([.ref m0, .int (nI t), .int (nI key)]) (n := 4) (Nat.le_of_ble_eq_true rfl)
  rw [lg_entry_eq]
  generalize (lg_sl ([.ref m0, .int (nI t), .int (nI key)]) ++ List.replicate (4 - (lg_sl ([.ref m0, .int (nI t), .int (nI key)])).length) Slot.unset).toArray = ls at hl ⊢
  have hl : lv_has ls 4 [(0, .ref m0), (1, .int (nI t)), (2, .int (nI key))] := hl
  obtain ⟨a, x9, ha, hW0, ho9, hx9⟩ := ro t ht
  have hW : rW dA w 56 t a x9 false := by rw [hd] at hW0; exact hW0
  have hWc := hW
  obtain ⟨a1, a2, a3, a4, a5, a6, rdf, lo, hi, wk, no, nn, i0, i1, i2, i3, i4, i5, i6, hrd, hlo, hwk⟩ := hWc
  refine lv_aload_n hx hb d_MM_get_0 rfl (lv_at hl 0 rfl) ?_
  refine lv_iload_n hx hb d_MM_get_1 rfl (lv_at hl 1 rfl) ?_
  refine lv_bipush (v := nI 16) hx hb d_MM_get_2 (by decide) ?_
  refine mh_callR (mh_sS (rest := [.ref m0]) (av := [.int (nI t), .int (nI 16)]) K0 e_MM_in l_MM_53 k744 rfl rfl d_MM_get_4) (c_MM_in) K0 hOK hml hl.1 e_MM_in hX hS d_MM_get_4 (Nat.le_of_ble_eq_true rfl) (Nat.le_of_ble_eq_true rfl) (Nat.le_of_ble_eq_true rfl) (Nat.le_of_ble_eq_true rfl) (Nat.le_of_ble_eq_true rfl) (fun H locs hX hS => ?_)
  refine W.eq (g2 := F0 m 7 ls [.int (mh_b (st_in (nI t) 16)), .ref m0]) rfl ?_
  refine mh_ifeqB (tgt := 20) hx hb d_MM_get_7 (by decide) (fun z => absurd z (by rw [st_in_nI ht (by decide)]; decide)) (fun _ => ?_)
  refine lv_iload_n hx hb d_MM_get_10 rfl (lv_at hl 2 rfl) ?_
  refine lv_sipush (v := nI 256) hx hb d_MM_get_11 (by decide) ?_
  refine mh_callR (mh_sS (rest := [.ref m0]) (av := [.int (nI key), .int (nI 256)]) K0 e_MM_in l_MM_53 k744 rfl rfl d_MM_get_14) (c_MM_in) K0 hOK hml hl.1 e_MM_in hX hS d_MM_get_14 (Nat.le_of_ble_eq_true rfl) (Nat.le_of_ble_eq_true rfl) (Nat.le_of_ble_eq_true rfl) (Nat.le_of_ble_eq_true rfl) (Nat.le_of_ble_eq_true rfl) (fun H locs hX hS => ?_)
  refine W.eq (g2 := F0 m 17 ls [.int (mh_b (st_in (nI key) 256)), .ref m0]) rfl ?_
  refine mh_ifneB (tgt := 24) hx hb d_MM_get_17 (by decide) (fun _ => ?_) (fun z => absurd z (by rw [st_in_nI hk (by decide)]; decide))
  refine lv_iconst (v := nI 0) hx hb d_MM_get_24 (by decide) ?_
  refine lv_iconst (v := nI 1) hx hb d_MM_get_25 (by decide) ?_
  refine mh_callV (mh_sV (rest := []) (av := [.int (nI 0), .int (nI 1)]) K0 hX r50 rfl e_MM_fails l_MM_57 k748 kp15 rfl rfl d_MM_get_26) (c_MM_fails0 r50) K0 hOK hml hl.1 e_MM_fails hX hS d_MM_get_26 (Nat.le_of_ble_eq_true rfl) (Nat.le_of_ble_eq_true rfl) (Nat.le_of_ble_eq_true rfl) (Nat.le_of_ble_eq_true rfl) (Nat.le_of_ble_eq_true rfl) (fun wf22 H locs ⟨hm22, hF22⟩ hX hS => ?_)
  refine W.eq (g2 := F0 m 29 ls [.int (nI 0)]) rfl ?_
  refine mh_if_eq (tgt := 34) hx hb (by omega) d_MM_get_29 (by decide) (fun _ => ?_) (fun z => absurd z (by omega))
  refine lv_aload_n hx hb d_MM_get_34 rfl (lv_at hl 0 rfl) ?_
  refine lv_iload_n hx hb d_MM_get_35 rfl (lv_at hl 1 rfl) ?_
  refine lv_iconst (v := nI 2) hx hb d_MM_get_36 (by decide) ?_
  refine mh_callV (mh_sV (rest := []) (av := [.int (nI t), .int (nI 2)]) K0 hX hm22 rfl e_MM_shut l_MM_75 k760 kp16 rfl rfl d_MM_get_37) (c_MM_shut1 (x := x9) hm22 ((hF22 52 0 (by omega)).trans r52) ht ha (hW.mv (fun z hz => by rw [hF22 _ _ (by omega)]))) K0 hOK hml hl.1 e_MM_shut hX hS d_MM_get_37 (Nat.le_of_ble_eq_true rfl) (Nat.le_of_ble_eq_true rfl) (Nat.le_of_ble_eq_true rfl) (Nat.le_of_ble_eq_true rfl) (Nat.le_of_ble_eq_true rfl) (fun wf23 H locs ⟨hm23, hF23⟩ hX hS => ?_)
  refine W.eq (g2 := F0 m 40 ls [.int (nI 1)]) rfl ?_
  refine mh_if_eq (tgt := 45) hx hb (by omega) d_MM_get_40 (by decide) (fun z => absurd z (by omega)) (fun _ => ?_)
  refine lv_lconst (v := 0) hx hb d_MM_get_43 rfl ?_
  exact mh_lret K0 hr hlocks hX hS (⟨rfl, ⟨aG, aO, aA, aV, aH, lg, op, at_, hQ.sc (fun k i h1 h2 h3 h4 => by rw [hF23 _ _ (by omega), hF22 _ _ (by omega)]) hm23 ⟨_, ((hF23 54 0 (by omega)).trans ((hF22 54 0 (by omega)).trans r54))⟩ ⟨_, ((hF23 55 0 (by omega)).trans ((hF22 55 0 (by omega)).trans r55))⟩⟩, fun k i h => by rw [hF23 _ _ (by omega), hF22 _ _ (by omega)]⟩) (Nat.le_of_ble_eq_true rfl) (Nat.le_of_ble_eq_true rfl) d_MM_get_44
set_option maxHeartbeats 4000000 in
set_option maxRecDepth 100000 in
theorem c_MM_write_2 {l : Launch} {b : Nat} {dC : Nat → ClassId} {dI : Nat → Nat → Nat} {dA : Nat → ClassId} {zs : Nat → Nat} {w : mh_w} {m0 : Nat} {er : Int32} {g : st_G} (hR : rM dA w m0 er g) (hG : sg_ok g) {t : Nat} (ht : t < 16) {key : Nat} (hk : key < 256) {v : Int64} {nb : Int32} (hd : sg_dr g t = none) : mh_Met l b dC dI dA zs y_MM_write (mh_rm 4 10 500) [.ref m0, .int (nI t), .int (nI key), .long v, .int nb] w (mh_V (some (.int (nI 0))) (fun w' => rM dA w' m0 (nI 2) g ∧ mh_D w w')) := by
  obtain ⟨aG, aO, aA, aV, aH, lg, op, at_, hQ⟩ := hR
  have hQ2 := hQ
  obtain ⟨r50, r51, r52, r53, ⟨vf, r54⟩, ⟨hf, r55⟩, ra, ro, rl⟩ := hQ2
  have hG2 := hG
  obtain ⟨gn, grs, gat, glo, gdr⟩ := hG2
  refine mh_ofW (cc := b_MM_write) (n := 8) (ret := (some .int)) (hs := []) (by decide) k781 ?_
  intro p e s m below meth c hx hb hr hml hown hts hlocks hnm hT hOK hadm
  have K0 : mh_K0 p s m ([.ref m0, .int (nI t), .int (nI key), .long v, .int nb]).toArray c "MeldHostModel" b_MM_write dC dI dA := ⟨hx, hb, hown, hts, hOK.1, hOK.2.1⟩
  have hX := hOK.2.2.2.2
  have hb0 := hOK.2.2.2.1
  have hS : va_S (mh_A b) s.heap s.heap [] := va_S.rf
  have hl := lv_entry ([.ref m0, .int (nI t), .int (nI key), .long v, .int nb]) (n := 8) (Nat.le_of_ble_eq_true rfl)
  rw [lg_entry_eq]
  generalize (lg_sl ([.ref m0, .int (nI t), .int (nI key), .long v, .int nb]) ++ List.replicate (8 - (lg_sl ([.ref m0, .int (nI t), .int (nI key), .long v, .int nb])).length) Slot.unset).toArray = ls at hl ⊢
  have hl : lv_has ls 8 [(0, .ref m0), (1, .int (nI t)), (2, .int (nI key)), (3, .long v), (5, .int nb)] := hl
  obtain ⟨a, x9, ha, hW0, ho9, hx9⟩ := ro t ht
  have hW : rW dA w 56 t a x9 false := by rw [hd] at hW0; exact hW0
  have hWc := hW
  obtain ⟨a1, a2, a3, a4, a5, a6, rdf, lo, hi, wk, no, nn, i0, i1, i2, i3, i4, i5, i6, hrd, hlo, hwk⟩ := hWc
  refine lv_aload_n hx hb d_MM_write_0 rfl (lv_at hl 0 rfl) ?_
  refine lv_iload_n hx hb d_MM_write_1 rfl (lv_at hl 1 rfl) ?_
  refine lv_bipush (v := nI 16) hx hb d_MM_write_2 (by decide) ?_
  refine mh_callR (mh_sS (rest := [.ref m0]) (av := [.int (nI t), .int (nI 16)]) K0 e_MM_in l_MM_53 k744 rfl rfl d_MM_write_4) (c_MM_in) K0 hOK hml hl.1 e_MM_in hX hS d_MM_write_4 (Nat.le_of_ble_eq_true rfl) (Nat.le_of_ble_eq_true rfl) (Nat.le_of_ble_eq_true rfl) (Nat.le_of_ble_eq_true rfl) (Nat.le_of_ble_eq_true rfl) (fun H locs hX hS => ?_)
  refine W.eq (g2 := F0 m 7 ls [.int (mh_b (st_in (nI t) 16)), .ref m0]) rfl ?_
  refine mh_ifeqB (tgt := 20) hx hb d_MM_write_7 (by decide) (fun z => absurd z (by rw [st_in_nI ht (by decide)]; decide)) (fun _ => ?_)
  refine lv_iload_n hx hb d_MM_write_10 rfl (lv_at hl 2 rfl) ?_
  refine lv_sipush (v := nI 256) hx hb d_MM_write_11 (by decide) ?_
  refine mh_callR (mh_sS (rest := [.ref m0]) (av := [.int (nI key), .int (nI 256)]) K0 e_MM_in l_MM_53 k744 rfl rfl d_MM_write_14) (c_MM_in) K0 hOK hml hl.1 e_MM_in hX hS d_MM_write_14 (Nat.le_of_ble_eq_true rfl) (Nat.le_of_ble_eq_true rfl) (Nat.le_of_ble_eq_true rfl) (Nat.le_of_ble_eq_true rfl) (Nat.le_of_ble_eq_true rfl) (fun H locs hX hS => ?_)
  refine W.eq (g2 := F0 m 17 ls [.int (mh_b (st_in (nI key) 256)), .ref m0]) rfl ?_
  refine mh_ifneB (tgt := 24) hx hb d_MM_write_17 (by decide) (fun _ => ?_) (fun z => absurd z (by rw [st_in_nI hk (by decide)]; decide))
  refine lv_iconst (v := nI 0) hx hb d_MM_write_24 (by decide) ?_
  refine lv_iconst (v := nI 1) hx hb d_MM_write_25 (by decide) ?_
  refine mh_callV (mh_sV (rest := []) (av := [.int (nI 0), .int (nI 1)]) K0 hX r50 rfl e_MM_fails l_MM_57 k748 kp15 rfl rfl d_MM_write_26) (c_MM_fails0 r50) K0 hOK hml hl.1 e_MM_fails hX hS d_MM_write_26 (Nat.le_of_ble_eq_true rfl) (Nat.le_of_ble_eq_true rfl) (Nat.le_of_ble_eq_true rfl) (Nat.le_of_ble_eq_true rfl) (Nat.le_of_ble_eq_true rfl) (fun wf24 H locs ⟨hm24, hF24⟩ hX hS => ?_)
  refine W.eq (g2 := F0 m 29 ls [.int (nI 0)]) rfl ?_
  refine mh_if_eq (tgt := 34) hx hb (by omega) d_MM_write_29 (by decide) (fun _ => ?_) (fun z => absurd z (by omega))
  refine lv_aload_n hx hb d_MM_write_34 rfl (lv_at hl 0 rfl) ?_
  refine lv_iload_n hx hb d_MM_write_35 rfl (lv_at hl 1 rfl) ?_
  refine lv_iconst (v := nI 2) hx hb d_MM_write_36 (by decide) ?_
  refine mh_callV (mh_sV (rest := []) (av := [.int (nI t), .int (nI 2)]) K0 hX hm24 rfl e_MM_shut l_MM_75 k760 kp16 rfl rfl d_MM_write_37) (c_MM_shut1 (x := x9) hm24 ((hF24 52 0 (by omega)).trans r52) ht ha (hW.mv (fun z hz => by rw [hF24 _ _ (by omega)]))) K0 hOK hml hl.1 e_MM_shut hX hS d_MM_write_37 (Nat.le_of_ble_eq_true rfl) (Nat.le_of_ble_eq_true rfl) (Nat.le_of_ble_eq_true rfl) (Nat.le_of_ble_eq_true rfl) (Nat.le_of_ble_eq_true rfl) (fun wf25 H locs ⟨hm25, hF25⟩ hX hS => ?_)
  refine W.eq (g2 := F0 m 40 ls [.int (nI 1)]) rfl ?_
  refine mh_if_eq (tgt := 45) hx hb (by omega) d_MM_write_40 (by decide) (fun z => absurd z (by omega)) (fun _ => ?_)
  refine lv_iconst (v := nI 0) hx hb d_MM_write_43 (by decide) ?_
  exact mh_iret K0 hr rfl hlocks hX hS (⟨rfl, ⟨aG, aO, aA, aV, aH, lg, op, at_, hQ.sc (fun k i h1 h2 h3 h4 => by rw [hF25 _ _ (by omega), hF24 _ _ (by omega)]) hm25 ⟨_, ((hF25 54 0 (by omega)).trans ((hF24 54 0 (by omega)).trans r54))⟩ ⟨_, ((hF25 55 0 (by omega)).trans ((hF24 55 0 (by omega)).trans r55))⟩⟩, fun k i h => by rw [hF25 _ _ (by omega), hF24 _ _ (by omega)]⟩) (Nat.le_of_ble_eq_true rfl) (Nat.le_of_ble_eq_true rfl) d_MM_write_44
set_option maxHeartbeats 4000000 in
set_option maxRecDepth 100000 in
theorem c_MM_part_2 {l : Launch} {b : Nat} {dC : Nat → ClassId} {dI : Nat → Nat → Nat} {dA : Nat → ClassId} {zs : Nat → Nat} {w : mh_w} {m0 : Nat} {er : Int32} {g : st_G} (hR : rM dA w m0 er g) (hG : sg_ok g) {t : Nat} (ht : t < 16) {low high q9 : Nat} (h1 : low ≤ high) (h2 : high < 256) (h3 : q9 < 4) (hd : sg_dr g t = none) : mh_Met l b dC dI dA zs y_MM_part (mh_rm 4 10 500) [.ref m0, .int (nI t), .int (nI low), .int (nI high), .int (nI q9)] w (mh_V (some (.long 0)) (fun w' => rM dA w' m0 (nI 2) g ∧ mh_D w w')) := by
  obtain ⟨aG, aO, aA, aV, aH, lg, op, at_, hQ⟩ := hR
  have hQ2 := hQ
  obtain ⟨r50, r51, r52, r53, ⟨vf, r54⟩, ⟨hf, r55⟩, ra, ro, rl⟩ := hQ2
  have hG2 := hG
  obtain ⟨gn, grs, gat, glo, gdr⟩ := hG2
  refine mh_ofW (cc := b_MM_part) (n := 6) (ret := (some .long)) (hs := []) (by decide) k789 ?_
  intro p e s m below meth c hx hb hr hml hown hts hlocks hnm hT hOK hadm
  have K0 : mh_K0 p s m ([.ref m0, .int (nI t), .int (nI low), .int (nI high), .int (nI q9)]).toArray c "MeldHostModel" b_MM_part dC dI dA := ⟨hx, hb, hown, hts, hOK.1, hOK.2.1⟩
  have hX := hOK.2.2.2.2
  have hb0 := hOK.2.2.2.1
  have hS : va_S (mh_A b) s.heap s.heap [] := va_S.rf
  have hl := lv_entry ([.ref m0, .int (nI t), .int (nI low), .int (nI high), .int (nI q9)]) (n := 6) (Nat.le_of_ble_eq_true rfl)
  rw [lg_entry_eq]
  generalize (lg_sl ([.ref m0, .int (nI t), .int (nI low), .int (nI high), .int (nI q9)]) ++ List.replicate (6 - (lg_sl ([.ref m0, .int (nI t), .int (nI low), .int (nI high), .int (nI q9)])).length) Slot.unset).toArray = ls at hl ⊢
  have hl : lv_has ls 6 [(0, .ref m0), (1, .int (nI t)), (2, .int (nI low)), (3, .int (nI high)), (4, .int (nI q9))] := hl
  obtain ⟨a, x9, ha, hW0, ho9, hx9⟩ := ro t ht
  have hW : rW dA w 56 t a x9 false := by rw [hd] at hW0; exact hW0
  have hWc := hW
  obtain ⟨a1, a2, a3, a4, a5, a6, rdf, lo, hi, wk, no, nn, i0, i1, i2, i3, i4, i5, i6, hrd, hlo, hwk⟩ := hWc
  refine lv_aload_n hx hb d_MM_part_0 rfl (lv_at hl 0 rfl) ?_
  refine lv_iload_n hx hb d_MM_part_1 rfl (lv_at hl 1 rfl) ?_
  refine lv_bipush (v := nI 16) hx hb d_MM_part_2 (by decide) ?_
  refine mh_callR (mh_sS (rest := [.ref m0]) (av := [.int (nI t), .int (nI 16)]) K0 e_MM_in l_MM_53 k744 rfl rfl d_MM_part_4) (c_MM_in) K0 hOK hml hl.1 e_MM_in hX hS d_MM_part_4 (Nat.le_of_ble_eq_true rfl) (Nat.le_of_ble_eq_true rfl) (Nat.le_of_ble_eq_true rfl) (Nat.le_of_ble_eq_true rfl) (Nat.le_of_ble_eq_true rfl) (fun H locs hX hS => ?_)
  refine W.eq (g2 := F0 m 7 ls [.int (mh_b (st_in (nI t) 16)), .ref m0]) rfl ?_
  refine mh_ifeqB (tgt := 20) hx hb d_MM_part_7 (by decide) (fun z => absurd z (by rw [st_in_nI ht (by decide)]; decide)) (fun _ => ?_)
  refine lv_iload_n hx hb d_MM_part_10 rfl (lv_at hl 2 rfl) ?_
  refine lv_iload_n hx hb d_MM_part_11 rfl (lv_at hl 3 rfl) ?_
  refine lv_iload hx hb d_MM_part_12 (lv_at hl 4 rfl) ?_
  refine mh_callR (mh_sS (rest := [.ref m0]) (av := [.int (nI low), .int (nI high), .int (nI q9)]) K0 e_MM_bad l_MM_96 k791 rfl rfl d_MM_part_14) (c_MM_bad) K0 hOK hml hl.1 e_MM_bad hX hS d_MM_part_14 (Nat.le_of_ble_eq_true rfl) (Nat.le_of_ble_eq_true rfl) (Nat.le_of_ble_eq_true rfl) (Nat.le_of_ble_eq_true rfl) (Nat.le_of_ble_eq_true rfl) (fun H locs hX hS => ?_)
  refine W.eq (g2 := F0 m 17 ls [.int (mh_b (!sp_pt (nI low) (nI high) (nI q9))), .ref m0]) rfl ?_
  refine mh_ifeqB (tgt := 24) hx hb d_MM_part_17 (by decide) (fun _ => ?_) (fun z => absurd z (by rw [sp_pt_ok h1 h2 h3]; decide))
  refine lv_iconst (v := nI 0) hx hb d_MM_part_24 (by decide) ?_
  refine lv_iconst (v := nI 1) hx hb d_MM_part_25 (by decide) ?_
  refine mh_callV (mh_sV (rest := []) (av := [.int (nI 0), .int (nI 1)]) K0 hX r50 rfl e_MM_fails l_MM_57 k748 kp15 rfl rfl d_MM_part_26) (c_MM_fails0 r50) K0 hOK hml hl.1 e_MM_fails hX hS d_MM_part_26 (Nat.le_of_ble_eq_true rfl) (Nat.le_of_ble_eq_true rfl) (Nat.le_of_ble_eq_true rfl) (Nat.le_of_ble_eq_true rfl) (Nat.le_of_ble_eq_true rfl) (fun wf26 H locs ⟨hm26, hF26⟩ hX hS => ?_)
  refine W.eq (g2 := F0 m 29 ls [.int (nI 0)]) rfl ?_
  refine mh_if_eq (tgt := 34) hx hb (by omega) d_MM_part_29 (by decide) (fun _ => ?_) (fun z => absurd z (by omega))
  refine lv_aload_n hx hb d_MM_part_34 rfl (lv_at hl 0 rfl) ?_
  refine lv_iload_n hx hb d_MM_part_35 rfl (lv_at hl 1 rfl) ?_
  refine lv_iconst (v := nI 2) hx hb d_MM_part_36 (by decide) ?_
  refine mh_callV (mh_sV (rest := []) (av := [.int (nI t), .int (nI 2)]) K0 hX hm26 rfl e_MM_shut l_MM_75 k760 kp16 rfl rfl d_MM_part_37) (c_MM_shut1 (x := x9) hm26 ((hF26 52 0 (by omega)).trans r52) ht ha (hW.mv (fun z hz => by rw [hF26 _ _ (by omega)]))) K0 hOK hml hl.1 e_MM_shut hX hS d_MM_part_37 (Nat.le_of_ble_eq_true rfl) (Nat.le_of_ble_eq_true rfl) (Nat.le_of_ble_eq_true rfl) (Nat.le_of_ble_eq_true rfl) (Nat.le_of_ble_eq_true rfl) (fun wf27 H locs ⟨hm27, hF27⟩ hX hS => ?_)
  refine W.eq (g2 := F0 m 40 ls [.int (nI 1)]) rfl ?_
  refine mh_if_eq (tgt := 45) hx hb (by omega) d_MM_part_40 (by decide) (fun z => absurd z (by omega)) (fun _ => ?_)
  refine lv_lconst (v := 0) hx hb d_MM_part_43 rfl ?_
  exact mh_lret K0 hr hlocks hX hS (⟨rfl, ⟨aG, aO, aA, aV, aH, lg, op, at_, hQ.sc (fun k i h1 h2 h3 h4 => by rw [hF27 _ _ (by omega), hF26 _ _ (by omega)]) hm27 ⟨_, ((hF27 54 0 (by omega)).trans ((hF26 54 0 (by omega)).trans r54))⟩ ⟨_, ((hF27 55 0 (by omega)).trans ((hF26 55 0 (by omega)).trans r55))⟩⟩, fun k i h => by rw [hF27 _ _ (by omega), hF26 _ _ (by omega)]⟩) (Nat.le_of_ble_eq_true rfl) (Nat.le_of_ble_eq_true rfl) d_MM_part_44
set_option maxHeartbeats 4000000 in
set_option maxRecDepth 100000 in
theorem c_MM_commit_2 {l : Launch} {b : Nat} {dC : Nat → ClassId} {dI : Nat → Nat → Nat} {dA : Nat → ClassId} {zs : Nat → Nat} {w : mh_w} {m0 : Nat} {er : Int32} {g : st_G} (hR : rM dA w m0 er g) (hG : sg_ok g) {t : Nat} (ht : t < 16) (hd : sg_dr g t = none) : mh_Met l b dC dI dA zs y_MM_commit (mh_rm 4 10 500) [.ref m0, .int (nI t)] w (mh_V (some (.int (nI 0))) (fun w' => rM dA w' m0 (nI 2) g ∧ mh_D w w')) := by
  obtain ⟨aG, aO, aA, aV, aH, lg, op, at_, hQ⟩ := hR
  have hQ2 := hQ
  obtain ⟨r50, r51, r52, r53, ⟨vf, r54⟩, ⟨hf, r55⟩, ra, ro, rl⟩ := hQ2
  have hG2 := hG
  obtain ⟨gn, grs, gat, glo, gdr⟩ := hG2
  refine mh_ofW (cc := b_MM_commit) (n := 3) (ret := (some .int)) (hs := []) (by decide) k800 ?_
  intro p e s m below meth c hx hb hr hml hown hts hlocks hnm hT hOK hadm
  have K0 : mh_K0 p s m ([.ref m0, .int (nI t)]).toArray c "MeldHostModel" b_MM_commit dC dI dA := ⟨hx, hb, hown, hts, hOK.1, hOK.2.1⟩
  have hX := hOK.2.2.2.2
  have hb0 := hOK.2.2.2.1
  have hS : va_S (mh_A b) s.heap s.heap [] := va_S.rf
  have hl := lv_entry ([.ref m0, .int (nI t)]) (n := 3) (Nat.le_of_ble_eq_true rfl)
  rw [lg_entry_eq]
  generalize (lg_sl ([.ref m0, .int (nI t)]) ++ List.replicate (3 - (lg_sl ([.ref m0, .int (nI t)])).length) Slot.unset).toArray = ls at hl ⊢
  have hl : lv_has ls 3 [(0, .ref m0), (1, .int (nI t))] := hl
  obtain ⟨a, x9, ha, hW0, ho9, hx9⟩ := ro t ht
  have hW : rW dA w 56 t a x9 false := by rw [hd] at hW0; exact hW0
  have hWc := hW
  obtain ⟨a1, a2, a3, a4, a5, a6, rdf, lo, hi, wk, no, nn, i0, i1, i2, i3, i4, i5, i6, hrd, hlo, hwk⟩ := hWc
  refine lv_aload_n hx hb d_MM_commit_0 rfl (lv_at hl 0 rfl) ?_
  refine lv_iload_n hx hb d_MM_commit_1 rfl (lv_at hl 1 rfl) ?_
  refine lv_bipush (v := nI 16) hx hb d_MM_commit_2 (by decide) ?_
  refine mh_callR (mh_sS (rest := [.ref m0]) (av := [.int (nI t), .int (nI 16)]) K0 e_MM_in l_MM_53 k744 rfl rfl d_MM_commit_4) (c_MM_in) K0 hOK hml hl.1 e_MM_in hX hS d_MM_commit_4 (Nat.le_of_ble_eq_true rfl) (Nat.le_of_ble_eq_true rfl) (Nat.le_of_ble_eq_true rfl) (Nat.le_of_ble_eq_true rfl) (Nat.le_of_ble_eq_true rfl) (fun H locs hX hS => ?_)
  refine W.eq (g2 := F0 m 7 ls [.int (mh_b (st_in (nI t) 16)), .ref m0]) rfl ?_
  refine mh_ifneB (tgt := 14) hx hb d_MM_commit_7 (by decide) (fun _ => ?_) (fun z => absurd z (by rw [st_in_nI ht (by decide)]; decide))
  refine lv_iconst (v := nI 0) hx hb d_MM_commit_14 (by decide) ?_
  refine lv_iconst (v := nI 1) hx hb d_MM_commit_15 (by decide) ?_
  refine mh_callV (mh_sV (rest := []) (av := [.int (nI 0), .int (nI 1)]) K0 hX r50 rfl e_MM_fails l_MM_57 k748 kp15 rfl rfl d_MM_commit_16) (c_MM_fails0 r50) K0 hOK hml hl.1 e_MM_fails hX hS d_MM_commit_16 (Nat.le_of_ble_eq_true rfl) (Nat.le_of_ble_eq_true rfl) (Nat.le_of_ble_eq_true rfl) (Nat.le_of_ble_eq_true rfl) (Nat.le_of_ble_eq_true rfl) (fun wf28 H locs ⟨hm28, hF28⟩ hX hS => ?_)
  refine W.eq (g2 := F0 m 19 ls [.int (nI 0)]) rfl ?_
  refine mh_if_eq (tgt := 24) hx hb (by omega) d_MM_commit_19 (by decide) (fun _ => ?_) (fun z => absurd z (by omega))
  refine lv_aload_n hx hb d_MM_commit_24 rfl (lv_at hl 0 rfl) ?_
  refine lv_iload_n hx hb d_MM_commit_25 rfl (lv_at hl 1 rfl) ?_
  refine lv_iconst (v := nI 2) hx hb d_MM_commit_26 (by decide) ?_
  refine mh_callV (mh_sV (rest := []) (av := [.int (nI t), .int (nI 2)]) K0 hX hm28 rfl e_MM_shut l_MM_75 k760 kp16 rfl rfl d_MM_commit_27) (c_MM_shut1 (x := x9) hm28 ((hF28 52 0 (by omega)).trans r52) ht ha (hW.mv (fun z hz => by rw [hF28 _ _ (by omega)]))) K0 hOK hml hl.1 e_MM_shut hX hS d_MM_commit_27 (Nat.le_of_ble_eq_true rfl) (Nat.le_of_ble_eq_true rfl) (Nat.le_of_ble_eq_true rfl) (Nat.le_of_ble_eq_true rfl) (Nat.le_of_ble_eq_true rfl) (fun wf29 H locs ⟨hm29, hF29⟩ hX hS => ?_)
  refine W.eq (g2 := F0 m 30 ls [.int (nI 1)]) rfl ?_
  refine mh_if_eq (tgt := 35) hx hb (by omega) d_MM_commit_30 (by decide) (fun z => absurd z (by omega)) (fun _ => ?_)
  refine lv_iconst (v := nI 0) hx hb d_MM_commit_33 (by decide) ?_
  exact mh_iret K0 hr rfl hlocks hX hS (⟨rfl, ⟨aG, aO, aA, aV, aH, lg, op, at_, hQ.sc (fun k i h1 h2 h3 h4 => by rw [hF29 _ _ (by omega), hF28 _ _ (by omega)]) hm29 ⟨_, ((hF29 54 0 (by omega)).trans ((hF28 54 0 (by omega)).trans r54))⟩ ⟨_, ((hF29 55 0 (by omega)).trans ((hF28 55 0 (by omega)).trans r55))⟩⟩, fun k i h => by rw [hF29 _ _ (by omega), hF28 _ _ (by omega)]⟩) (Nat.le_of_ble_eq_true rfl) (Nat.le_of_ble_eq_true rfl) d_MM_commit_34
set_option maxHeartbeats 4000000 in
set_option maxRecDepth 100000 in
theorem c_MM_abort_2 {l : Launch} {b : Nat} {dC : Nat → ClassId} {dI : Nat → Nat → Nat} {dA : Nat → ClassId} {zs : Nat → Nat} {w : mh_w} {m0 : Nat} {er : Int32} {g : st_G} (hR : rM dA w m0 er g) (hG : sg_ok g) {t : Nat} (ht : t < 16) (hd : sg_dr g t = none) : mh_Met l b dC dI dA zs y_MM_abort (mh_rm 4 10 500) [.ref m0, .int (nI t)] w (mh_V none (fun w' => rM dA w' m0 (nI 2) g ∧ mh_D w w')) := by
  obtain ⟨aG, aO, aA, aV, aH, lg, op, at_, hQ⟩ := hR
  have hQ2 := hQ
  obtain ⟨r50, r51, r52, r53, ⟨vf, r54⟩, ⟨hf, r55⟩, ra, ro, rl⟩ := hQ2
  have hG2 := hG
  obtain ⟨gn, grs, gat, glo, gdr⟩ := hG2
  refine mh_ofW (cc := b_MM_abort) (n := 2) (ret := none) (hs := []) (by decide) k808 ?_
  intro p e s m below meth c hx hb hr hml hown hts hlocks hnm hT hOK hadm
  have K0 : mh_K0 p s m ([.ref m0, .int (nI t)]).toArray c "MeldHostModel" b_MM_abort dC dI dA := ⟨hx, hb, hown, hts, hOK.1, hOK.2.1⟩
  have hX := hOK.2.2.2.2
  have hb0 := hOK.2.2.2.1
  have hS : va_S (mh_A b) s.heap s.heap [] := va_S.rf
  have hl := lv_entry ([.ref m0, .int (nI t)]) (n := 2) (Nat.le_of_ble_eq_true rfl)
  rw [lg_entry_eq]
  generalize (lg_sl ([.ref m0, .int (nI t)]) ++ List.replicate (2 - (lg_sl ([.ref m0, .int (nI t)])).length) Slot.unset).toArray = ls at hl ⊢
  have hl : lv_has ls 2 [(0, .ref m0), (1, .int (nI t))] := hl
  obtain ⟨a, x9, ha, hW0, ho9, hx9⟩ := ro t ht
  have hW : rW dA w 56 t a x9 false := by rw [hd] at hW0; exact hW0
  have hWc := hW
  obtain ⟨a1, a2, a3, a4, a5, a6, rdf, lo, hi, wk, no, nn, i0, i1, i2, i3, i4, i5, i6, hrd, hlo, hwk⟩ := hWc
  refine lv_aload_n hx hb d_MM_abort_0 rfl (lv_at hl 0 rfl) ?_
  refine lv_iload_n hx hb d_MM_abort_1 rfl (lv_at hl 1 rfl) ?_
  refine lv_bipush (v := nI 16) hx hb d_MM_abort_2 (by decide) ?_
  refine mh_callR (mh_sS (rest := [.ref m0]) (av := [.int (nI t), .int (nI 16)]) K0 e_MM_in l_MM_53 k744 rfl rfl d_MM_abort_4) (c_MM_in) K0 hOK hml hl.1 e_MM_in hX hS d_MM_abort_4 (Nat.le_of_ble_eq_true rfl) (Nat.le_of_ble_eq_true rfl) (Nat.le_of_ble_eq_true rfl) (Nat.le_of_ble_eq_true rfl) (Nat.le_of_ble_eq_true rfl) (fun H locs hX hS => ?_)
  refine W.eq (g2 := F0 m 7 ls [.int (mh_b (st_in (nI t) 16)), .ref m0]) rfl ?_
  refine mh_ifneB (tgt := 14) hx hb d_MM_abort_7 (by decide) (fun _ => ?_) (fun z => absurd z (by rw [st_in_nI ht (by decide)]; decide))
  refine lv_iconst (v := nI 0) hx hb d_MM_abort_14 (by decide) ?_
  refine lv_iconst (v := nI 1) hx hb d_MM_abort_15 (by decide) ?_
  refine mh_callV (mh_sV (rest := []) (av := [.int (nI 0), .int (nI 1)]) K0 hX r50 rfl e_MM_fails l_MM_57 k748 kp15 rfl rfl d_MM_abort_16) (c_MM_fails0 r50) K0 hOK hml hl.1 e_MM_fails hX hS d_MM_abort_16 (Nat.le_of_ble_eq_true rfl) (Nat.le_of_ble_eq_true rfl) (Nat.le_of_ble_eq_true rfl) (Nat.le_of_ble_eq_true rfl) (Nat.le_of_ble_eq_true rfl) (fun wf30 H locs ⟨hm30, hF30⟩ hX hS => ?_)
  refine W.eq (g2 := F0 m 19 ls [.int (nI 0)]) rfl ?_
  refine mh_if_eq (tgt := 23) hx hb (by omega) d_MM_abort_19 (by decide) (fun _ => ?_) (fun z => absurd z (by omega))
  refine lv_aload_n hx hb d_MM_abort_23 rfl (lv_at hl 0 rfl) ?_
  refine lv_iload_n hx hb d_MM_abort_24 rfl (lv_at hl 1 rfl) ?_
  refine lv_iconst (v := nI 2) hx hb d_MM_abort_25 (by decide) ?_
  refine mh_callV (mh_sV (rest := []) (av := [.int (nI t), .int (nI 2)]) K0 hX hm30 rfl e_MM_shut l_MM_75 k760 kp16 rfl rfl d_MM_abort_26) (c_MM_shut1 (x := x9) hm30 ((hF30 52 0 (by omega)).trans r52) ht ha (hW.mv (fun z hz => by rw [hF30 _ _ (by omega)]))) K0 hOK hml hl.1 e_MM_shut hX hS d_MM_abort_26 (Nat.le_of_ble_eq_true rfl) (Nat.le_of_ble_eq_true rfl) (Nat.le_of_ble_eq_true rfl) (Nat.le_of_ble_eq_true rfl) (Nat.le_of_ble_eq_true rfl) (fun wf31 H locs ⟨hm31, hF31⟩ hX hS => ?_)
  refine W.eq (g2 := F0 m 29 ls [.int (nI 1)]) rfl ?_
  refine mh_if_eq (tgt := 33) hx hb (by omega) d_MM_abort_29 (by decide) (fun z => absurd z (by omega)) (fun _ => ?_)
  exact mh_vret K0 hr hlocks hX hS (⟨rfl, ⟨aG, aO, aA, aV, aH, lg, op, at_, hQ.sc (fun k i h1 h2 h3 h4 => by rw [hF31 _ _ (by omega), hF30 _ _ (by omega)]) hm31 ⟨_, ((hF31 54 0 (by omega)).trans ((hF30 54 0 (by omega)).trans r54))⟩ ⟨_, ((hF31 55 0 (by omega)).trans ((hF30 55 0 (by omega)).trans r55))⟩⟩, fun k i h => by rw [hF31 _ _ (by omega), hF30 _ _ (by omega)]⟩) (Nat.le_of_ble_eq_true rfl) (Nat.le_of_ble_eq_true rfl) d_MM_abort_32
set_option maxHeartbeats 4000000 in
set_option maxRecDepth 100000 in
theorem c_MM_begin_2 {l : Launch} {b : Nat} {dC : Nat → ClassId} {dI : Nat → Nat → Nat} {dA : Nat → ClassId} {zs : Nat → Nat} {w : mh_w} {m0 : Nat} {er : Int32} {g : st_G} (hR : rM dA w m0 er g) (hG : sg_ok g) {t : Nat} (ht : t < 16) {u : Nat} (hu : u < 4) {lv : Nat} (hlv : lv < 2) {x : st_I} (hd : sg_dr g t = some x) : mh_Met l b dC dI dA zs y_MM_begin (mh_rm 4 10 500) [.ref m0, .int (nI t), .int (nI u), .int (nI lv)] w (mh_V none (fun w' => rM dA w' m0 (nI 2) g ∧ mh_D w w')) := by
  obtain ⟨aG, aO, aA, aV, aH, lg, op, at_, hQ⟩ := hR
  have hQ2 := hQ
  obtain ⟨r50, r51, r52, r53, ⟨vf, r54⟩, ⟨hf, r55⟩, ra, ro, rl⟩ := hQ2
  have hG2 := hG
  obtain ⟨gn, grs, gat, glo, gdr⟩ := hG2
  refine mh_ofW (cc := b_MM_begin) (n := 5) (ret := none) (hs := []) (by decide) k742 ?_
  intro p e s m below meth c hx hb hr hml hown hts hlocks hnm hT hOK hadm
  have K0 : mh_K0 p s m ([.ref m0, .int (nI t), .int (nI u), .int (nI lv)]).toArray c "MeldHostModel" b_MM_begin dC dI dA := ⟨hx, hb, hown, hts, hOK.1, hOK.2.1⟩
  have hX := hOK.2.2.2.2
  have hb0 := hOK.2.2.2.1
  have hS : va_S (mh_A b) s.heap s.heap [] := va_S.rf
  have hl := lv_entry ([.ref m0, .int (nI t), .int (nI u), .int (nI lv)]) (n := 5) (Nat.le_of_ble_eq_true rfl)
  rw [lg_entry_eq]
  generalize (lg_sl ([.ref m0, .int (nI t), .int (nI u), .int (nI lv)]) ++ List.replicate (5 - (lg_sl ([.ref m0, .int (nI t), .int (nI u), .int (nI lv)])).length) Slot.unset).toArray = ls at hl ⊢
  have hl : lv_has ls 5 [(0, .ref m0), (1, .int (nI t)), (2, .int (nI u)), (3, .int (nI lv))] := hl
  obtain ⟨a, x9, ha, hW0, ho9, hx9⟩ := ro t ht
  have ex := hx9 x hd
  subst ex
  have hW : rW dA w 56 t a x true := by rw [hd] at hW0; exact hW0
  have ho := gdr t x ht hd
  have ho2 := ho
  obtain ⟨o1, o2, o3, o4, o5, o6, o7, o8⟩ := ho2
  have hWc := hW
  obtain ⟨a1, a2, a3, a4, a5, a6, rdf, lo, hi, wk, no, nn, i0, i1, i2, i3, i4, i5, i6, hrd, hlo, hwk⟩ := hWc
  refine lv_aload_n hx hb d_MM_begin_0 rfl (lv_at hl 0 rfl) ?_
  refine lv_iload_n hx hb d_MM_begin_1 rfl (lv_at hl 1 rfl) ?_
  refine lv_bipush (v := nI 16) hx hb d_MM_begin_2 (by decide) ?_
  refine mh_callR (mh_sS (rest := [.ref m0]) (av := [.int (nI t), .int (nI 16)]) K0 e_MM_in l_MM_53 k744 rfl rfl d_MM_begin_4) (c_MM_in) K0 hOK hml hl.1 e_MM_in hX hS d_MM_begin_4 (Nat.le_of_ble_eq_true rfl) (Nat.le_of_ble_eq_true rfl) (Nat.le_of_ble_eq_true rfl) (Nat.le_of_ble_eq_true rfl) (Nat.le_of_ble_eq_true rfl) (fun H locs hX hS => ?_)
  refine W.eq (g2 := F0 m 7 ls [.int (mh_b (st_in (nI t) 16)), .ref m0]) rfl ?_
  refine mh_ifeqB (tgt := 26) hx hb d_MM_begin_7 (by decide) (fun z => absurd z (by rw [st_in_nI ht (by decide)]; decide)) (fun _ => ?_)
  refine lv_iload_n hx hb d_MM_begin_10 rfl (lv_at hl 2 rfl) ?_
  refine lv_iconst (v := nI 4) hx hb d_MM_begin_11 (by decide) ?_
  refine mh_callR (mh_sS (rest := [.ref m0]) (av := [.int (nI u), .int (nI 4)]) K0 e_MM_in l_MM_53 k744 rfl rfl d_MM_begin_12) (c_MM_in) K0 hOK hml hl.1 e_MM_in hX hS d_MM_begin_12 (Nat.le_of_ble_eq_true rfl) (Nat.le_of_ble_eq_true rfl) (Nat.le_of_ble_eq_true rfl) (Nat.le_of_ble_eq_true rfl) (Nat.le_of_ble_eq_true rfl) (fun H locs hX hS => ?_)
  refine W.eq (g2 := F0 m 15 ls [.int (mh_b (st_in (nI u) 4)), .ref m0]) rfl ?_
  refine mh_ifeqB (tgt := 26) hx hb d_MM_begin_15 (by decide) (fun z => absurd z (by rw [st_in_nI hu (by decide)]; decide)) (fun _ => ?_)
  refine lv_iload_n hx hb d_MM_begin_18 rfl (lv_at hl 3 rfl) ?_
  refine lv_iconst (v := nI 2) hx hb d_MM_begin_19 (by decide) ?_
  refine mh_callR (mh_sS (rest := [.ref m0]) (av := [.int (nI lv), .int (nI 2)]) K0 e_MM_in l_MM_53 k744 rfl rfl d_MM_begin_20) (c_MM_in) K0 hOK hml hl.1 e_MM_in hX hS d_MM_begin_20 (Nat.le_of_ble_eq_true rfl) (Nat.le_of_ble_eq_true rfl) (Nat.le_of_ble_eq_true rfl) (Nat.le_of_ble_eq_true rfl) (Nat.le_of_ble_eq_true rfl) (fun H locs hX hS => ?_)
  refine W.eq (g2 := F0 m 23 ls [.int (mh_b (st_in (nI lv) 2)), .ref m0]) rfl ?_
  refine mh_ifneB (tgt := 30) hx hb d_MM_begin_23 (by decide) (fun _ => ?_) (fun z => absurd z (by rw [st_in_nI hlv (by decide)]; decide))
  refine lv_iconst (v := nI 0) hx hb d_MM_begin_30 (by decide) ?_
  refine lv_iconst (v := nI 1) hx hb d_MM_begin_31 (by decide) ?_
  refine mh_callV (mh_sV (rest := []) (av := [.int (nI 0), .int (nI 1)]) K0 hX r50 rfl e_MM_fails l_MM_57 k748 kp15 rfl rfl d_MM_begin_32) (c_MM_fails0 r50) K0 hOK hml hl.1 e_MM_fails hX hS d_MM_begin_32 (Nat.le_of_ble_eq_true rfl) (Nat.le_of_ble_eq_true rfl) (Nat.le_of_ble_eq_true rfl) (Nat.le_of_ble_eq_true rfl) (Nat.le_of_ble_eq_true rfl) (fun wf32 H locs ⟨hm32, hF32⟩ hX hS => ?_)
  refine W.eq (g2 := F0 m 35 ls [.int (nI 0)]) rfl ?_
  refine mh_if_eq (tgt := 39) hx hb (by omega) d_MM_begin_35 (by decide) (fun _ => ?_) (fun z => absurd z (by omega))
  refine lv_aload_n hx hb d_MM_begin_39 rfl (lv_at hl 0 rfl) ?_
  refine lv_aload_n hx hb d_MM_begin_40 rfl (lv_at hl 0 rfl) ?_
  refine mh_get K0 hX hm32 f_MM_15 rfl d_MM_begin_41 ?_
  refine lv_iload_n hx hb d_MM_begin_44 rfl (lv_at hl 1 rfl) ?_
  refine mh_aaldN 7 rfl K0 hX ((hF32 52 0 (by omega)).trans r52) (by omega) (by omega) (r := (some a)) (ha) d_MM_begin_45 ?_
  refine W.eq (g2 := F0 m 46 ls [.ref a, .ref m0]) rfl ?_
  refine mh_get K0 hX ((hF32 56 t (by omega)).trans i0) f_MM_61 rfl d_MM_begin_46 ?_
  refine mh_ti (y := nI 1) (rfl) ?_
  refine lv_iconst (v := nI 2) hx hb d_MM_begin_49 (by decide) ?_
  refine mh_callV (mh_sV (rest := []) (av := [.int (nI 1), .int (nI 2)]) K0 hX hm32 rfl e_MM_fails l_MM_57 k748 kp15 rfl rfl d_MM_begin_50) (c_MM_fails1 hm32) K0 hOK hml hl.1 e_MM_fails hX hS d_MM_begin_50 (Nat.le_of_ble_eq_true rfl) (Nat.le_of_ble_eq_true rfl) (Nat.le_of_ble_eq_true rfl) (Nat.le_of_ble_eq_true rfl) (Nat.le_of_ble_eq_true rfl) (fun wf33 H locs ⟨hm33, hF33⟩ hX hS => ?_)
  refine W.eq (g2 := F0 m 53 ls [.int (nI 1)]) rfl ?_
  refine mh_if_eq (tgt := 57) hx hb (by omega) d_MM_begin_53 (by decide) (fun z => absurd z (by omega)) (fun _ => ?_)
  exact mh_vret K0 hr hlocks hX hS (⟨rfl, ⟨aG, aO, aA, aV, aH, lg, op, at_, hQ.sc (fun k i h1 h2 h3 h4 => by rw [hF33 _ _ (by omega), hF32 _ _ (by omega)]) hm33 ⟨_, ((hF33 54 0 (by omega)).trans ((hF32 54 0 (by omega)).trans r54))⟩ ⟨_, ((hF33 55 0 (by omega)).trans ((hF32 55 0 (by omega)).trans r55))⟩⟩, fun k i h => by rw [hF33 _ _ (by omega), hF32 _ _ (by omega)]⟩) (Nat.le_of_ble_eq_true rfl) (Nat.le_of_ble_eq_true rfl) d_MM_begin_56
set_option maxHeartbeats 4000000 in
set_option maxRecDepth 100000 in
theorem c_MM_begin_0 {l : Launch} {b : Nat} {dC : Nat → ClassId} {dI : Nat → Nat → Nat} {dA : Nat → ClassId} {zs : Nat → Nat} {w : mh_w} {m0 : Nat} {er : Int32} {g : st_G} (hR : rM dA w m0 er g) (hG : sg_ok g) {t : Nat} (ht : t < 16) {u : Nat} (hu : u < 4) {lv : Nat} (hlv : lv < 2) (hd : sg_dr g t = none) : mh_Met l b dC dI dA zs y_MM_begin (mh_rm 4 10 500) [.ref m0, .int (nI t), .int (nI u), .int (nI lv)] w (mh_V none (fun w' => rM dA w' m0 (nI 0) (g.1, g.2.1, va_up (sg_dr g) t (some (st_new u (sg_at g u) lv)), g.2.2.2) ∧ mh_D w w')) := by
  obtain ⟨aG, aO, aA, aV, aH, lg, op, at_, hQ⟩ := hR
  have hQ2 := hQ
  obtain ⟨r50, r51, r52, r53, ⟨vf, r54⟩, ⟨hf, r55⟩, ra, ro, rl⟩ := hQ2
  have hG2 := hG
  obtain ⟨gn, grs, gat, glo, gdr⟩ := hG2
  refine mh_ofW (cc := b_MM_begin) (n := 5) (ret := none) (hs := []) (by decide) k742 ?_
  intro p e s m below meth c hx hb hr hml hown hts hlocks hnm hT hOK hadm
  have K0 : mh_K0 p s m ([.ref m0, .int (nI t), .int (nI u), .int (nI lv)]).toArray c "MeldHostModel" b_MM_begin dC dI dA := ⟨hx, hb, hown, hts, hOK.1, hOK.2.1⟩
  have hX := hOK.2.2.2.2
  have hb0 := hOK.2.2.2.1
  have hS : va_S (mh_A b) s.heap s.heap [] := va_S.rf
  have hl := lv_entry ([.ref m0, .int (nI t), .int (nI u), .int (nI lv)]) (n := 5) (Nat.le_of_ble_eq_true rfl)
  rw [lg_entry_eq]
  generalize (lg_sl ([.ref m0, .int (nI t), .int (nI u), .int (nI lv)]) ++ List.replicate (5 - (lg_sl ([.ref m0, .int (nI t), .int (nI u), .int (nI lv)])).length) Slot.unset).toArray = ls at hl ⊢
  have hl : lv_has ls 5 [(0, .ref m0), (1, .int (nI t)), (2, .int (nI u)), (3, .int (nI lv))] := hl
  obtain ⟨a, x9, ha, hW0, ho9, hx9⟩ := ro t ht
  have hW : rW dA w 56 t a x9 false := by rw [hd] at hW0; exact hW0
  have hWc := hW
  obtain ⟨a1, a2, a3, a4, a5, a6, rdf, lo, hi, wk, no, nn, i0, i1, i2, i3, i4, i5, i6, hrd, hlo, hwk⟩ := hWc
  have hat := gat u hu
  refine lv_aload_n hx hb d_MM_begin_0 rfl (lv_at hl 0 rfl) ?_
  refine lv_iload_n hx hb d_MM_begin_1 rfl (lv_at hl 1 rfl) ?_
  refine lv_bipush (v := nI 16) hx hb d_MM_begin_2 (by decide) ?_
  refine mh_callR (mh_sS (rest := [.ref m0]) (av := [.int (nI t), .int (nI 16)]) K0 e_MM_in l_MM_53 k744 rfl rfl d_MM_begin_4) (c_MM_in) K0 hOK hml hl.1 e_MM_in hX hS d_MM_begin_4 (Nat.le_of_ble_eq_true rfl) (Nat.le_of_ble_eq_true rfl) (Nat.le_of_ble_eq_true rfl) (Nat.le_of_ble_eq_true rfl) (Nat.le_of_ble_eq_true rfl) (fun H locs hX hS => ?_)
  refine W.eq (g2 := F0 m 7 ls [.int (mh_b (st_in (nI t) 16)), .ref m0]) rfl ?_
  refine mh_ifeqB (tgt := 26) hx hb d_MM_begin_7 (by decide) (fun z => absurd z (by rw [st_in_nI ht (by decide)]; decide)) (fun _ => ?_)
  refine lv_iload_n hx hb d_MM_begin_10 rfl (lv_at hl 2 rfl) ?_
  refine lv_iconst (v := nI 4) hx hb d_MM_begin_11 (by decide) ?_
  refine mh_callR (mh_sS (rest := [.ref m0]) (av := [.int (nI u), .int (nI 4)]) K0 e_MM_in l_MM_53 k744 rfl rfl d_MM_begin_12) (c_MM_in) K0 hOK hml hl.1 e_MM_in hX hS d_MM_begin_12 (Nat.le_of_ble_eq_true rfl) (Nat.le_of_ble_eq_true rfl) (Nat.le_of_ble_eq_true rfl) (Nat.le_of_ble_eq_true rfl) (Nat.le_of_ble_eq_true rfl) (fun H locs hX hS => ?_)
  refine W.eq (g2 := F0 m 15 ls [.int (mh_b (st_in (nI u) 4)), .ref m0]) rfl ?_
  refine mh_ifeqB (tgt := 26) hx hb d_MM_begin_15 (by decide) (fun z => absurd z (by rw [st_in_nI hu (by decide)]; decide)) (fun _ => ?_)
  refine lv_iload_n hx hb d_MM_begin_18 rfl (lv_at hl 3 rfl) ?_
  refine lv_iconst (v := nI 2) hx hb d_MM_begin_19 (by decide) ?_
  refine mh_callR (mh_sS (rest := [.ref m0]) (av := [.int (nI lv), .int (nI 2)]) K0 e_MM_in l_MM_53 k744 rfl rfl d_MM_begin_20) (c_MM_in) K0 hOK hml hl.1 e_MM_in hX hS d_MM_begin_20 (Nat.le_of_ble_eq_true rfl) (Nat.le_of_ble_eq_true rfl) (Nat.le_of_ble_eq_true rfl) (Nat.le_of_ble_eq_true rfl) (Nat.le_of_ble_eq_true rfl) (fun H locs hX hS => ?_)
  refine W.eq (g2 := F0 m 23 ls [.int (mh_b (st_in (nI lv) 2)), .ref m0]) rfl ?_
  refine mh_ifneB (tgt := 30) hx hb d_MM_begin_23 (by decide) (fun _ => ?_) (fun z => absurd z (by rw [st_in_nI hlv (by decide)]; decide))
  refine lv_iconst (v := nI 0) hx hb d_MM_begin_30 (by decide) ?_
  refine lv_iconst (v := nI 1) hx hb d_MM_begin_31 (by decide) ?_
  refine mh_callV (mh_sV (rest := []) (av := [.int (nI 0), .int (nI 1)]) K0 hX r50 rfl e_MM_fails l_MM_57 k748 kp15 rfl rfl d_MM_begin_32) (c_MM_fails0 r50) K0 hOK hml hl.1 e_MM_fails hX hS d_MM_begin_32 (Nat.le_of_ble_eq_true rfl) (Nat.le_of_ble_eq_true rfl) (Nat.le_of_ble_eq_true rfl) (Nat.le_of_ble_eq_true rfl) (Nat.le_of_ble_eq_true rfl) (fun wf34 H locs ⟨hm34, hF34⟩ hX hS => ?_)
  refine W.eq (g2 := F0 m 35 ls [.int (nI 0)]) rfl ?_
  refine mh_if_eq (tgt := 39) hx hb (by omega) d_MM_begin_35 (by decide) (fun _ => ?_) (fun z => absurd z (by omega))
  refine lv_aload_n hx hb d_MM_begin_39 rfl (lv_at hl 0 rfl) ?_
  refine lv_aload_n hx hb d_MM_begin_40 rfl (lv_at hl 0 rfl) ?_
  refine mh_get K0 hX hm34 f_MM_15 rfl d_MM_begin_41 ?_
  refine lv_iload_n hx hb d_MM_begin_44 rfl (lv_at hl 1 rfl) ?_
  refine mh_aaldN 7 rfl K0 hX ((hF34 52 0 (by omega)).trans r52) (by omega) (by omega) (r := (some a)) (ha) d_MM_begin_45 ?_
  refine W.eq (g2 := F0 m 46 ls [.ref a, .ref m0]) rfl ?_
  refine mh_get K0 hX ((hF34 56 t (by omega)).trans i0) f_MM_61 rfl d_MM_begin_46 ?_
  refine mh_ti (y := nI 0) (rfl) ?_
  refine lv_iconst (v := nI 2) hx hb d_MM_begin_49 (by decide) ?_
  refine mh_callV (mh_sV (rest := []) (av := [.int (nI 0), .int (nI 2)]) K0 hX hm34 rfl e_MM_fails l_MM_57 k748 kp15 rfl rfl d_MM_begin_50) (c_MM_fails0 hm34) K0 hOK hml hl.1 e_MM_fails hX hS d_MM_begin_50 (Nat.le_of_ble_eq_true rfl) (Nat.le_of_ble_eq_true rfl) (Nat.le_of_ble_eq_true rfl) (Nat.le_of_ble_eq_true rfl) (Nat.le_of_ble_eq_true rfl) (fun wf35 H locs ⟨hm35, hF35⟩ hX hS => ?_)
  refine W.eq (g2 := F0 m 53 ls [.int (nI 0)]) rfl ?_
  refine mh_if_eq (tgt := 57) hx hb (by omega) d_MM_begin_53 (by decide) (fun _ => ?_) (fun z => absurd z (by omega))
  refine lv_aload_n hx hb d_MM_begin_57 rfl (lv_at hl 0 rfl) ?_
  refine mh_get K0 hX hm35 f_MM_15 rfl d_MM_begin_58 ?_
  refine lv_iload_n hx hb d_MM_begin_61 rfl (lv_at hl 1 rfl) ?_
  refine mh_aaldN 7 rfl K0 hX ((hF35 52 0 (by omega)).trans ((hF34 52 0 (by omega)).trans r52)) (by omega) (by omega) (r := (some a)) (ha) d_MM_begin_62 ?_
  refine W.eq (g2 := F0 m 63 ls [.ref a]) rfl ?_
  refine lv_astore (lv' := [(4, .ref a), (0, .ref m0), (1, .int (nI t)), (2, .int (nI u)), (3, .int (nI lv))]) hx hb d_MM_begin_63 hl (by decide) rfl (fun ls hl => ?_)
  refine lv_aload hx hb d_MM_begin_65 (lv_at hl 0 rfl) ?_
  refine mh_callV (mh_sV (rest := []) (av := []) K0 hX ((hF35 56 t (by omega)).trans ((hF34 56 t (by omega)).trans i0)) rfl e_WK_clear l_MM_63 k751 k752 rfl rfl d_MM_begin_67) (c_WK_clear (hW.mv (fun z hz => by rw [hF35 _ _ (by omega), hF34 _ _ (by omega)])) ho9) K0 hOK hml hl.1 e_WK_clear hX hS d_MM_begin_67 (Nat.le_of_ble_eq_true rfl) (Nat.le_of_ble_eq_true rfl) (Nat.le_of_ble_eq_true rfl) (Nat.le_of_ble_eq_true rfl) (Nat.le_of_ble_eq_true rfl) (fun wc H locs ⟨hW2, hFc⟩ hX hS => ?_)
  refine W.eq (g2 := F0 m 70 ls []) rfl ?_
  obtain ⟨b1, b2, b3, b4, b5, b6, rdf2, lo2, hi2, wk2, no2, nn2, j0, j1, j2, j3, j4, j5, j6, jrd, -, -⟩ := hW2
  have j0 : wc 56 t = some (a, .inr (6, [.int (nI (iv_sn x9)), .int (nI (iv_lv x9)), .int (nI (iv_sv x9)), .int (nI 0), .int (nI 0), .int (nI (pb_cnt (fun _ => false) 256)), .int (nI 0), .int (nI 0), .ref b1, .ref b2, .ref b3, .ref b4, .ref b5, .ref b6])) := j0
  refine lv_aload hx hb d_MM_begin_70 (lv_at hl 0 rfl) ?_
  refine lv_iconst (v := nI 1) hx hb d_MM_begin_72 (by decide) ?_
  refine mh_put K0 hX hS j0 f_MM_61 p_6_6 (by decide) (by decide) (Nat.le_of_ble_eq_true rfl) d_MM_begin_73 (fun H locs hX hS => ?_)
  have hX : mh_P (dC, dI) b (mh_set _ 56 t (some (a, .inr (6, [.int (nI (iv_sn x9)), .int (nI (iv_lv x9)), .int (nI (iv_sv x9)), .int (nI 0), .int (nI 0), .int (nI (pb_cnt (fun _ => false) 256)), .int (nI 1), .int (nI 0), .ref b1, .ref b2, .ref b3, .ref b4, .ref b5, .ref b6])))) H := hX
  have fs104 := mh_self hX
  refine lv_aload hx hb d_MM_begin_76 (lv_at hl 0 rfl) ?_
  refine lv_iload_n hx hb d_MM_begin_78 rfl (lv_at hl 3 rfl) ?_
  refine mh_put K0 hX hS fs104 f_MM_66 p_6_2 rfl rfl (Nat.le_of_ble_eq_true rfl) d_MM_begin_79 (fun H locs hX hS => ?_)
  have hX : mh_P (dC, dI) b (mh_set _ 56 t (some (a, .inr (6, [.int (nI (iv_sn x9)), .int (nI (iv_lv x9)), .int (nI u), .int (nI 0), .int (nI 0), .int (nI (pb_cnt (fun _ => false) 256)), .int (nI 1), .int (nI 0), .ref b1, .ref b2, .ref b3, .ref b4, .ref b5, .ref b6])))) H := hX
  have fs105 := mh_self hX
  refine lv_aload hx hb d_MM_begin_82 (lv_at hl 0 rfl) ?_
  refine lv_iload_n hx hb d_MM_begin_84 rfl (lv_at hl 4 rfl) ?_
  refine mh_put K0 hX hS fs105 f_MM_69 p_6_1 rfl rfl (Nat.le_of_ble_eq_true rfl) d_MM_begin_85 (fun H locs hX hS => ?_)
  have hX : mh_P (dC, dI) b (mh_set _ 56 t (some (a, .inr (6, [.int (nI (iv_sn x9)), .int (nI lv), .int (nI u), .int (nI 0), .int (nI 0), .int (nI (pb_cnt (fun _ => false) 256)), .int (nI 1), .int (nI 0), .ref b1, .ref b2, .ref b3, .ref b4, .ref b5, .ref b6])))) H := hX
  have fs106 := mh_self hX
  refine lv_aload hx hb d_MM_begin_88 (lv_at hl 0 rfl) ?_
  refine lv_aload_n hx hb d_MM_begin_90 rfl (lv_at hl 1 rfl) ?_
  refine mh_get K0 hX (mh_kp (mh_kp (mh_kp ((hFc 50 0 (by omega)).trans hm35) (by omega)) (by omega)) (by omega)) f_MM_18 rfl d_MM_begin_91 ?_
  refine lv_iload_n hx hb d_MM_begin_94 rfl (lv_at hl 3 rfl) ?_
  refine mh_ialdN K0 hX (mh_kp (mh_kp (mh_kp ((hFc 53 0 (by omega)).trans ((hF35 53 0 (by omega)).trans ((hF34 53 0 (by omega)).trans r53))) (by omega)) (by omega)) (by omega)) (by omega) (by omega) d_MM_begin_95 ?_
  refine mh_ti (y := nI (sg_at g u)) (ra u hu) ?_
  refine mh_put K0 hX hS fs106 f_MM_72 p_6_0 rfl rfl (Nat.le_of_ble_eq_true rfl) d_MM_begin_96 (fun H locs hX hS => ?_)
  have hX : mh_P (dC, dI) b (mh_set _ 56 t (some (a, .inr (6, [.int (nI (sg_at g u)), .int (nI lv), .int (nI u), .int (nI 0), .int (nI 0), .int (nI (pb_cnt (fun _ => false) 256)), .int (nI 1), .int (nI 0), .ref b1, .ref b2, .ref b3, .ref b4, .ref b5, .ref b6])))) H := hX
  have fs107 := mh_self hX
  exact mh_vret K0 hr hlocks hX hS (⟨rfl, ⟨aG, aO, aA, aV, aH, lg, op, at_, hQ.tx (x := (st_new u (sg_at g u) lv)) (fun k i h0 h1 h2 h3 h4 => by rw [mh_set_ne _ _ _ _ (by omega), mh_set_ne _ _ _ _ (by omega), mh_set_ne _ _ _ _ (by omega), mh_set_ne _ _ _ _ (by omega), hFc _ _ (by omega), hF35 _ _ (by omega), hF34 _ _ (by omega)]) (mh_kp (mh_kp (mh_kp (mh_kp ((hFc 50 0 (by omega)).trans hm35) (by omega)) (by omega)) (by omega)) (by omega)) ⟨_, (mh_kp (mh_kp (mh_kp (mh_kp ((hFc 54 0 (by omega)).trans ((hF35 54 0 (by omega)).trans ((hF34 54 0 (by omega)).trans r54))) (by omega)) (by omega)) (by omega)) (by omega))⟩ ⟨_, (mh_kp (mh_kp (mh_kp (mh_kp ((hFc 55 0 (by omega)).trans ((hF35 55 0 (by omega)).trans ((hF34 55 0 (by omega)).trans r55))) (by omega)) (by omega)) (by omega)) (by omega))⟩ ha (⟨b1, b2, b3, b4, b5, b6, rdf2, lo2, hi2, wk2, no2, nn2, fs107, (mh_kp (mh_kp (mh_kp (mh_kp j1 (by omega)) (by omega)) (by omega)) (by omega)), (mh_kp (mh_kp (mh_kp (mh_kp j2 (by omega)) (by omega)) (by omega)) (by omega)), (mh_kp (mh_kp (mh_kp (mh_kp j3 (by omega)) (by omega)) (by omega)) (by omega)), (mh_kp (mh_kp (mh_kp (mh_kp j4 (by omega)) (by omega)) (by omega)) (by omega)), (mh_kp (mh_kp (mh_kp (mh_kp j5 (by omega)) (by omega)) (by omega)) (by omega)), (mh_kp (mh_kp (mh_kp (mh_kp j6 (by omega)) (by omega)) (by omega)) (by omega)), jrd, fun j hj => absurd hj (Nat.not_lt_zero j), fun j hj => absurd hj (Nat.not_lt_zero j)⟩) (st_new_ok hu (by omega) hlv) (fun x2 hx2 => by cases hx2; rfl)⟩, fun k i h => by rw [mh_set_ne _ _ _ _ (by omega), mh_set_ne _ _ _ _ (by omega), mh_set_ne _ _ _ _ (by omega), mh_set_ne _ _ _ _ (by omega), hFc _ _ (by omega), hF35 _ _ (by omega), hF34 _ _ (by omega)]⟩) (Nat.le_of_ble_eq_true rfl) (Nat.le_of_ble_eq_true rfl) d_MM_begin_99
set_option maxHeartbeats 4000000 in
set_option maxRecDepth 100000 in
theorem c_MM_get_0 {l : Launch} {b : Nat} {dC : Nat → ClassId} {dI : Nat → Nat → Nat} {dA : Nat → ClassId} {zs : Nat → Nat} {w : mh_w} {m0 : Nat} {er : Int32} {g : st_G} (hR : rM dA w m0 er g) (hG : sg_ok g) {t : Nat} (ht : t < 16) {key : Nat} (hk : key < 256) {x : st_I} (hd : sg_dr g t = some x) {v : Int64} (hv : st_vw (sg_lg g) x key = some v) : mh_Met l b dC dI dA zs y_MM_get (mh_rm 4 10 500) [.ref m0, .int (nI t), .int (nI key)] w (mh_V (some (.long v)) (fun w' => rM dA w' m0 (nI 0) (g.1, g.2.1, va_up (sg_dr g) t (some (st_get x key)), g.2.2.2) ∧ mh_D w w')) := by
  obtain ⟨aG, aO, aA, aV, aH, lg, op, at_, hQ⟩ := hR
  have hQ2 := hQ
  obtain ⟨r50, r51, r52, r53, ⟨vf, r54⟩, ⟨hf, r55⟩, ra, ro, rl⟩ := hQ2
  have hG2 := hG
  obtain ⟨gn, grs, gat, glo, gdr⟩ := hG2
  refine mh_ofW (cc := b_MM_get) (n := 4) (ret := (some .long)) (hs := []) (by decide) k757 ?_
  intro p e s m below meth c hx hb hr hml hown hts hlocks hnm hT hOK hadm
  have K0 : mh_K0 p s m ([.ref m0, .int (nI t), .int (nI key)]).toArray c "MeldHostModel" b_MM_get dC dI dA := ⟨hx, hb, hown, hts, hOK.1, hOK.2.1⟩
  have hX := hOK.2.2.2.2
  have hb0 := hOK.2.2.2.1
  have hS : va_S (mh_A b) s.heap s.heap [] := va_S.rf
  have hl := lv_entry ([.ref m0, .int (nI t), .int (nI key)]) (n := 4) (Nat.le_of_ble_eq_true rfl)
  rw [lg_entry_eq]
  generalize (lg_sl ([.ref m0, .int (nI t), .int (nI key)]) ++ List.replicate (4 - (lg_sl ([.ref m0, .int (nI t), .int (nI key)])).length) Slot.unset).toArray = ls at hl ⊢
  have hl : lv_has ls 4 [(0, .ref m0), (1, .int (nI t)), (2, .int (nI key))] := hl
  obtain ⟨a, x9, ha, hW0, ho9, hx9⟩ := ro t ht
  have ex := hx9 x hd
  subst ex
  have hW : rW dA w 56 t a x true := by rw [hd] at hW0; exact hW0
  have ho := gdr t x ht hd
  have ho2 := ho
  obtain ⟨o1, o2, o3, o4, o5, o6, o7, o8⟩ := ho2
  have hWc := hW
  obtain ⟨a1, a2, a3, a4, a5, a6, rdf, lo, hi, wk, no, nn, i0, i1, i2, i3, i4, i5, i6, hrd, hlo, hwk⟩ := hWc
  refine lv_aload_n hx hb d_MM_get_0 rfl (lv_at hl 0 rfl) ?_
  refine lv_iload_n hx hb d_MM_get_1 rfl (lv_at hl 1 rfl) ?_
  refine lv_bipush (v := nI 16) hx hb d_MM_get_2 (by decide) ?_
  refine mh_callR (mh_sS (rest := [.ref m0]) (av := [.int (nI t), .int (nI 16)]) K0 e_MM_in l_MM_53 k744 rfl rfl d_MM_get_4) (c_MM_in) K0 hOK hml hl.1 e_MM_in hX hS d_MM_get_4 (Nat.le_of_ble_eq_true rfl) (Nat.le_of_ble_eq_true rfl) (Nat.le_of_ble_eq_true rfl) (Nat.le_of_ble_eq_true rfl) (Nat.le_of_ble_eq_true rfl) (fun H locs hX hS => ?_)
  refine W.eq (g2 := F0 m 7 ls [.int (mh_b (st_in (nI t) 16)), .ref m0]) rfl ?_
  refine mh_ifeqB (tgt := 20) hx hb d_MM_get_7 (by decide) (fun z => absurd z (by rw [st_in_nI ht (by decide)]; decide)) (fun _ => ?_)
  refine lv_iload_n hx hb d_MM_get_10 rfl (lv_at hl 2 rfl) ?_
  refine lv_sipush (v := nI 256) hx hb d_MM_get_11 (by decide) ?_
  refine mh_callR (mh_sS (rest := [.ref m0]) (av := [.int (nI key), .int (nI 256)]) K0 e_MM_in l_MM_53 k744 rfl rfl d_MM_get_14) (c_MM_in) K0 hOK hml hl.1 e_MM_in hX hS d_MM_get_14 (Nat.le_of_ble_eq_true rfl) (Nat.le_of_ble_eq_true rfl) (Nat.le_of_ble_eq_true rfl) (Nat.le_of_ble_eq_true rfl) (Nat.le_of_ble_eq_true rfl) (fun H locs hX hS => ?_)
  refine W.eq (g2 := F0 m 17 ls [.int (mh_b (st_in (nI key) 256)), .ref m0]) rfl ?_
  refine mh_ifneB (tgt := 24) hx hb d_MM_get_17 (by decide) (fun _ => ?_) (fun z => absurd z (by rw [st_in_nI hk (by decide)]; decide))
  refine lv_iconst (v := nI 0) hx hb d_MM_get_24 (by decide) ?_
  refine lv_iconst (v := nI 1) hx hb d_MM_get_25 (by decide) ?_
  refine mh_callV (mh_sV (rest := []) (av := [.int (nI 0), .int (nI 1)]) K0 hX r50 rfl e_MM_fails l_MM_57 k748 kp15 rfl rfl d_MM_get_26) (c_MM_fails0 r50) K0 hOK hml hl.1 e_MM_fails hX hS d_MM_get_26 (Nat.le_of_ble_eq_true rfl) (Nat.le_of_ble_eq_true rfl) (Nat.le_of_ble_eq_true rfl) (Nat.le_of_ble_eq_true rfl) (Nat.le_of_ble_eq_true rfl) (fun wf36 H locs ⟨hm36, hF36⟩ hX hS => ?_)
  refine W.eq (g2 := F0 m 29 ls [.int (nI 0)]) rfl ?_
  refine mh_if_eq (tgt := 34) hx hb (by omega) d_MM_get_29 (by decide) (fun _ => ?_) (fun z => absurd z (by omega))
  refine lv_aload_n hx hb d_MM_get_34 rfl (lv_at hl 0 rfl) ?_
  refine lv_iload_n hx hb d_MM_get_35 rfl (lv_at hl 1 rfl) ?_
  refine lv_iconst (v := nI 2) hx hb d_MM_get_36 (by decide) ?_
  refine mh_callV (mh_sV (rest := []) (av := [.int (nI t), .int (nI 2)]) K0 hX hm36 rfl e_MM_shut l_MM_75 k760 kp16 rfl rfl d_MM_get_37) (c_MM_shut0 (x := x) hm36 ((hF36 52 0 (by omega)).trans r52) ht ha (hW.mv (fun z hz => by rw [hF36 _ _ (by omega)]))) K0 hOK hml hl.1 e_MM_shut hX hS d_MM_get_37 (Nat.le_of_ble_eq_true rfl) (Nat.le_of_ble_eq_true rfl) (Nat.le_of_ble_eq_true rfl) (Nat.le_of_ble_eq_true rfl) (Nat.le_of_ble_eq_true rfl) (fun wf37 H locs ⟨hm37, hF37⟩ hX hS => ?_)
  refine W.eq (g2 := F0 m 40 ls [.int (nI 0)]) rfl ?_
  refine mh_if_eq (tgt := 45) hx hb (by omega) d_MM_get_40 (by decide) (fun _ => ?_) (fun z => absurd z (by omega))
  refine lv_aload_n hx hb d_MM_get_45 rfl (lv_at hl 0 rfl) ?_
  refine mh_get K0 hX hm37 f_MM_15 rfl d_MM_get_46 ?_
  refine lv_iload_n hx hb d_MM_get_49 rfl (lv_at hl 1 rfl) ?_
  refine mh_aaldN 7 rfl K0 hX ((hF37 52 0 (by omega)).trans ((hF36 52 0 (by omega)).trans r52)) (by omega) (by omega) (r := (some a)) (ha) d_MM_get_50 ?_
  refine W.eq (g2 := F0 m 51 ls [.ref a]) rfl ?_
  refine lv_astore_n (lv' := [(3, .ref a), (0, .ref m0), (1, .int (nI t)), (2, .int (nI key))]) hx hb d_MM_get_51 rfl hl (by decide) rfl (fun ls hl => ?_)
  refine lv_aload_n hx hb d_MM_get_52 rfl (lv_at hl 0 rfl) ?_
  refine lv_iload_n hx hb d_MM_get_53 rfl (lv_at hl 3 rfl) ?_
  by_cases hp : st_pl (iv_wk x) key (iv_nw x) < iv_nw x
  · skip
    refine mh_callR (mh_sV (rest := []) (av := [.int (nI key)]) K0 hX ((hF37 56 t (by omega)).trans ((hF36 56 t (by omega)).trans i0)) rfl e_WK_written l_MM_78 k763 k764 rfl rfl d_MM_get_54) (c_WK_written_y (hW.mv (fun z hz => by rw [hF37 _ _ (by omega), hF36 _ _ (by omega)])) ho hk hp) K0 hOK hml hl.1 e_WK_written hX hS d_MM_get_54 (Nat.le_of_ble_eq_true rfl) (Nat.le_of_ble_eq_true rfl) (Nat.le_of_ble_eq_true rfl) (Nat.le_of_ble_eq_true rfl) (Nat.le_of_ble_eq_true rfl) (fun H locs hX hS => ?_)
    refine W.eq (g2 := F0 m 57 ls [.int (nI (st_pl (iv_wk x) key (iv_nw x)))]) rfl ?_
    have hple := st_pl_le (iv_wk x) key (iv_nw x)
    refine mh_if_ge (tgt := 86) hx hb (by omega) d_MM_get_57 (by decide) (fun _ => ?_) (fun z => absurd z (by omega))
    have hW9 : rW dA wf37 56 t a (st_get x key) true := by rw [show st_get x key = x from if_pos hp]; exact hW.mv (fun z hz => by rw [hF37 _ _ (by omega), hF36 _ _ (by omega)])
    refine lv_aload_n hx hb d_MM_get_86 rfl (lv_at hl 1 rfl) ?_
    refine lv_aload_n hx hb d_MM_get_87 rfl (lv_at hl 0 rfl) ?_
    refine mh_get K0 hX ((hF37 56 t (by omega)).trans ((hF36 56 t (by omega)).trans i0)) f_MM_72 rfl d_MM_get_88 ?_
    refine mh_callV (mh_sV (rest := []) (av := [.int (nI (iv_sn x))]) K0 hX hm37 rfl e_MM_upTo l_MM_88 k768 kp17 rfl rfl d_MM_get_91) (c_MM_upTo (log := sg_lg g) hm37 ((hF37 51 0 (by omega)).trans ((hF36 51 0 (by omega)).trans r51)) (n0 := (iv_sn x)) (by omega) (fun i hi => (rl i (by omega)).imp (fun aa h => ⟨h.1, h.2.mv (fun z hz => by rw [hF37 _ _ (by omega), hF36 _ _ (by omega)])⟩)) (fun i hi => glo i (by omega)) ⟨_, ((hF37 54 0 (by omega)).trans ((hF36 54 0 (by omega)).trans r54))⟩ ⟨_, ((hF37 55 0 (by omega)).trans ((hF36 55 0 (by omega)).trans r55))⟩) K0 hOK hml hl.1 e_MM_upTo hX hS d_MM_get_91 (Nat.le_of_ble_eq_true rfl) (Nat.le_of_ble_eq_true rfl) (Nat.le_of_ble_eq_true rfl) (Nat.le_of_ble_eq_true rfl) (Nat.le_of_ble_eq_true rfl) (fun wf38 H locs ⟨hT38, hF38⟩ hX hS => ?_)
    refine W.eq (g2 := F0 m 94 ls []) rfl ?_
    refine lv_aload_n hx hb d_MM_get_94 rfl (lv_at hl 1 rfl) ?_
    refine lv_aload_n hx hb d_MM_get_95 rfl (lv_at hl 0 rfl) ?_
    refine mh_callV (mh_sV (rest := []) (av := [.ref a]) K0 hX ((hF38 50 0 (by omega)).trans hm37) rfl e_MM_apply l_MM_39 k772 kp18 rfl rfl d_MM_get_96) (c_MM_apply ((hF38 50 0 (by omega)).trans hm37) hT38 (hW9.mv (fun z hz => hF38 _ _ (by omega))) (st_get_ok ho) (by omega)) K0 hOK hml hl.1 e_MM_apply hX hS d_MM_get_96 (Nat.le_of_ble_eq_true rfl) (Nat.le_of_ble_eq_true rfl) (Nat.le_of_ble_eq_true rfl) (Nat.le_of_ble_eq_true rfl) (Nat.le_of_ble_eq_true rfl) (fun wf39 H locs ⟨hT39, hF39⟩ hX hS => ?_)
    refine W.eq (g2 := F0 m 99 ls []) rfl ?_
    rw [st_get_aw] at hT39
    obtain ⟨vf39, hf39, t54_39, t55_39, ht39⟩ := hT39
    refine lv_aload_n hx hb d_MM_get_99 rfl (lv_at hl 1 rfl) ?_
    refine lv_aload_n hx hb d_MM_get_100 rfl (lv_at hl 1 rfl) ?_
    refine mh_get K0 hX ((hF39 50 0 (by omega)).trans ((hF38 50 0 (by omega)).trans hm37)) f_MM_26 rfl d_MM_get_101 ?_
    refine lv_iload_n hx hb d_MM_get_104 rfl (lv_at hl 3 rfl) ?_
    refine mh_zaldN K0 hX t55_39 (by omega) (by omega) d_MM_get_105 ?_
    refine mh_ti (y := mh_b ((st_vw (sg_lg g) x key).isSome)) ((ht39 key hk).1) ?_
    refine mh_ifneB (tgt := 113) hx hb d_MM_get_106 (by decide) (fun _ => ?_) (fun z => absurd z (by rw [hv]; simp))
    refine lv_iconst (v := nI 0) hx hb d_MM_get_113 (by decide) ?_
    refine lv_iconst (v := nI 3) hx hb d_MM_get_114 (by decide) ?_
    refine mh_callV (mh_sV (rest := []) (av := [.int (nI 0), .int (nI 3)]) K0 hX ((hF39 50 0 (by omega)).trans ((hF38 50 0 (by omega)).trans hm37)) rfl e_MM_fails l_MM_57 k748 kp15 rfl rfl d_MM_get_115) (c_MM_fails0 ((hF39 50 0 (by omega)).trans ((hF38 50 0 (by omega)).trans hm37))) K0 hOK hml hl.1 e_MM_fails hX hS d_MM_get_115 (Nat.le_of_ble_eq_true rfl) (Nat.le_of_ble_eq_true rfl) (Nat.le_of_ble_eq_true rfl) (Nat.le_of_ble_eq_true rfl) (Nat.le_of_ble_eq_true rfl) (fun wf40 H locs ⟨hm40, hF40⟩ hX hS => ?_)
    refine W.eq (g2 := F0 m 118 ls [.int (nI 0)]) rfl ?_
    refine mh_if_eq (tgt := 125) hx hb (by omega) d_MM_get_118 (by decide) (fun _ => ?_) (fun z => absurd z (by omega))
    refine lv_aload_n hx hb d_MM_get_125 rfl (lv_at hl 1 rfl) ?_
    refine mh_get K0 hX hm40 f_MM_22 rfl d_MM_get_126 ?_
    refine lv_iload_n hx hb d_MM_get_129 rfl (lv_at hl 3 rfl) ?_
    refine mh_laldN K0 hX ((hF40 54 0 (by omega)).trans t54_39) (by omega) (by omega) d_MM_get_130 ?_
    exact mh_lret K0 hr hlocks hX hS (⟨by rw [(ht39 key hk).2 v hv], ⟨aG, aO, aA, aV, aH, lg, op, at_, hQ.tx (x := (st_get x key)) (fun k i h0 h1 h2 h3 h4 => by rw [hF40 _ _ (by omega), hF39 _ _ (by omega), hF38 _ _ (by omega), hF37 _ _ (by omega), hF36 _ _ (by omega)]) hm40 ⟨_, ((hF40 54 0 (by omega)).trans t54_39)⟩ ⟨_, ((hF40 55 0 (by omega)).trans t55_39)⟩ ha (hW9.mv (fun z hz => by rw [hF40 _ _ (by omega), hF39 _ _ (by omega), hF38 _ _ (by omega)])) (st_get_ok ho9) (fun x2 hx2 => by cases hx2; rfl)⟩, fun k i h => by rw [hF40 _ _ (by omega), hF39 _ _ (by omega), hF38 _ _ (by omega), hF37 _ _ (by omega), hF36 _ _ (by omega)]⟩) (Nat.le_of_ble_eq_true rfl) (Nat.le_of_ble_eq_true rfl) d_MM_get_131
  · skip
    refine mh_callR (mh_sV (rest := []) (av := [.int (nI key)]) K0 hX ((hF37 56 t (by omega)).trans ((hF36 56 t (by omega)).trans i0)) rfl e_WK_written l_MM_78 k763 k764 rfl rfl d_MM_get_54) (c_WK_written_n (hW.mv (fun z hz => by rw [hF37 _ _ (by omega), hF36 _ _ (by omega)])) ho hk hp) K0 hOK hml hl.1 e_WK_written hX hS d_MM_get_54 (Nat.le_of_ble_eq_true rfl) (Nat.le_of_ble_eq_true rfl) (Nat.le_of_ble_eq_true rfl) (Nat.le_of_ble_eq_true rfl) (Nat.le_of_ble_eq_true rfl) (fun H locs hX hS => ?_)
    refine W.eq (g2 := F0 m 57 ls [.int (-1)]) rfl ?_
    refine lv_if_ge (tgt := 86) hx hb d_MM_get_57 (by decide) (fun z => absurd z (by decide)) (fun _ => ?_)
    refine lv_aload_n hx hb d_MM_get_60 rfl (lv_at hl 0 rfl) ?_
    refine mh_get K0 hX ((hF37 56 t (by omega)).trans ((hF36 56 t (by omega)).trans i0)) f_MM_82 rfl d_MM_get_61 ?_
    refine lv_iload_n hx hb d_MM_get_64 rfl (lv_at hl 3 rfl) ?_
    refine mh_zaldN K0 hX ((hF37 57 t (by omega)).trans ((hF36 57 t (by omega)).trans i1)) (by omega) (by omega) d_MM_get_65 ?_
    refine mh_ti (y := mh_b (iv_rd x key)) (hrd key hk) ?_
    refine mh_ifneB (tgt := 86) hx hb d_MM_get_66 (by decide) (fun c7 => ?_) (fun c7 => ?_)
    · skip
      have hW9 : rW dA wf37 56 t a (st_get x key) true := by rw [show st_get x key = (x.1, (fun j => decide (j = key) || iv_rd x j), x.2.2) from if_neg hp]; exact ⟨a1, a2, a3, a4, a5, a6, rdf, lo, hi, wk, no, nn, by rw [show pb_cnt (iv_rd (x.1, (fun j => decide (j = key) || iv_rd x j), x.2.2)) 256 = pb_cnt (iv_rd x) 256 from pb_cnt_congr (fun j hj => by show (decide (j = key) || iv_rd x j) = iv_rd x j; by_cases e9 : j = key; (rw [e9, c7]; simp); (simp [e9]))]; exact ((hF37 56 t (by omega)).trans ((hF36 56 t (by omega)).trans i0)), ((hF37 57 t (by omega)).trans ((hF36 57 t (by omega)).trans i1)), ((hF37 58 t (by omega)).trans ((hF36 58 t (by omega)).trans i2)), ((hF37 59 t (by omega)).trans ((hF36 59 t (by omega)).trans i3)), ((hF37 60 t (by omega)).trans ((hF36 60 t (by omega)).trans i4)), ((hF37 61 t (by omega)).trans ((hF36 61 t (by omega)).trans i5)), ((hF37 62 t (by omega)).trans ((hF36 62 t (by omega)).trans i6)), fun j hj => by show rdf j = mh_b (decide (j = key) || iv_rd x j); rw [hrd j hj]; by_cases e9 : j = key; (rw [e9, c7]; simp); (simp [e9]), hlo, hwk⟩
      refine lv_aload_n hx hb d_MM_get_86 rfl (lv_at hl 1 rfl) ?_
      refine lv_aload_n hx hb d_MM_get_87 rfl (lv_at hl 0 rfl) ?_
      refine mh_get K0 hX ((hF37 56 t (by omega)).trans ((hF36 56 t (by omega)).trans i0)) f_MM_72 rfl d_MM_get_88 ?_
      refine mh_callV (mh_sV (rest := []) (av := [.int (nI (iv_sn x))]) K0 hX hm37 rfl e_MM_upTo l_MM_88 k768 kp17 rfl rfl d_MM_get_91) (c_MM_upTo (log := sg_lg g) hm37 ((hF37 51 0 (by omega)).trans ((hF36 51 0 (by omega)).trans r51)) (n0 := (iv_sn x)) (by omega) (fun i hi => (rl i (by omega)).imp (fun aa h => ⟨h.1, h.2.mv (fun z hz => by rw [hF37 _ _ (by omega), hF36 _ _ (by omega)])⟩)) (fun i hi => glo i (by omega)) ⟨_, ((hF37 54 0 (by omega)).trans ((hF36 54 0 (by omega)).trans r54))⟩ ⟨_, ((hF37 55 0 (by omega)).trans ((hF36 55 0 (by omega)).trans r55))⟩) K0 hOK hml hl.1 e_MM_upTo hX hS d_MM_get_91 (Nat.le_of_ble_eq_true rfl) (Nat.le_of_ble_eq_true rfl) (Nat.le_of_ble_eq_true rfl) (Nat.le_of_ble_eq_true rfl) (Nat.le_of_ble_eq_true rfl) (fun wf41 H locs ⟨hT41, hF41⟩ hX hS => ?_)
      refine W.eq (g2 := F0 m 94 ls []) rfl ?_
      refine lv_aload_n hx hb d_MM_get_94 rfl (lv_at hl 1 rfl) ?_
      refine lv_aload_n hx hb d_MM_get_95 rfl (lv_at hl 0 rfl) ?_
      refine mh_callV (mh_sV (rest := []) (av := [.ref a]) K0 hX ((hF41 50 0 (by omega)).trans hm37) rfl e_MM_apply l_MM_39 k772 kp18 rfl rfl d_MM_get_96) (c_MM_apply ((hF41 50 0 (by omega)).trans hm37) hT41 (hW9.mv (fun z hz => hF41 _ _ (by omega))) (st_get_ok ho) (by omega)) K0 hOK hml hl.1 e_MM_apply hX hS d_MM_get_96 (Nat.le_of_ble_eq_true rfl) (Nat.le_of_ble_eq_true rfl) (Nat.le_of_ble_eq_true rfl) (Nat.le_of_ble_eq_true rfl) (Nat.le_of_ble_eq_true rfl) (fun wf42 H locs ⟨hT42, hF42⟩ hX hS => ?_)
      refine W.eq (g2 := F0 m 99 ls []) rfl ?_
      rw [st_get_aw] at hT42
      obtain ⟨vf42, hf42, t54_42, t55_42, ht42⟩ := hT42
      refine lv_aload_n hx hb d_MM_get_99 rfl (lv_at hl 1 rfl) ?_
      refine lv_aload_n hx hb d_MM_get_100 rfl (lv_at hl 1 rfl) ?_
      refine mh_get K0 hX ((hF42 50 0 (by omega)).trans ((hF41 50 0 (by omega)).trans hm37)) f_MM_26 rfl d_MM_get_101 ?_
      refine lv_iload_n hx hb d_MM_get_104 rfl (lv_at hl 3 rfl) ?_
      refine mh_zaldN K0 hX t55_42 (by omega) (by omega) d_MM_get_105 ?_
      refine mh_ti (y := mh_b ((st_vw (sg_lg g) x key).isSome)) ((ht42 key hk).1) ?_
      refine mh_ifneB (tgt := 113) hx hb d_MM_get_106 (by decide) (fun _ => ?_) (fun z => absurd z (by rw [hv]; simp))
      refine lv_iconst (v := nI 0) hx hb d_MM_get_113 (by decide) ?_
      refine lv_iconst (v := nI 3) hx hb d_MM_get_114 (by decide) ?_
      refine mh_callV (mh_sV (rest := []) (av := [.int (nI 0), .int (nI 3)]) K0 hX ((hF42 50 0 (by omega)).trans ((hF41 50 0 (by omega)).trans hm37)) rfl e_MM_fails l_MM_57 k748 kp15 rfl rfl d_MM_get_115) (c_MM_fails0 ((hF42 50 0 (by omega)).trans ((hF41 50 0 (by omega)).trans hm37))) K0 hOK hml hl.1 e_MM_fails hX hS d_MM_get_115 (Nat.le_of_ble_eq_true rfl) (Nat.le_of_ble_eq_true rfl) (Nat.le_of_ble_eq_true rfl) (Nat.le_of_ble_eq_true rfl) (Nat.le_of_ble_eq_true rfl) (fun wf43 H locs ⟨hm43, hF43⟩ hX hS => ?_)
      refine W.eq (g2 := F0 m 118 ls [.int (nI 0)]) rfl ?_
      refine mh_if_eq (tgt := 125) hx hb (by omega) d_MM_get_118 (by decide) (fun _ => ?_) (fun z => absurd z (by omega))
      refine lv_aload_n hx hb d_MM_get_125 rfl (lv_at hl 1 rfl) ?_
      refine mh_get K0 hX hm43 f_MM_22 rfl d_MM_get_126 ?_
      refine lv_iload_n hx hb d_MM_get_129 rfl (lv_at hl 3 rfl) ?_
      refine mh_laldN K0 hX ((hF43 54 0 (by omega)).trans t54_42) (by omega) (by omega) d_MM_get_130 ?_
      exact mh_lret K0 hr hlocks hX hS (⟨by rw [(ht42 key hk).2 v hv], ⟨aG, aO, aA, aV, aH, lg, op, at_, hQ.tx (x := (st_get x key)) (fun k i h0 h1 h2 h3 h4 => by rw [hF43 _ _ (by omega), hF42 _ _ (by omega), hF41 _ _ (by omega), hF37 _ _ (by omega), hF36 _ _ (by omega)]) hm43 ⟨_, ((hF43 54 0 (by omega)).trans t54_42)⟩ ⟨_, ((hF43 55 0 (by omega)).trans t55_42)⟩ ha (hW9.mv (fun z hz => by rw [hF43 _ _ (by omega), hF42 _ _ (by omega), hF41 _ _ (by omega)])) (st_get_ok ho9) (fun x2 hx2 => by cases hx2; rfl)⟩, fun k i h => by rw [hF43 _ _ (by omega), hF42 _ _ (by omega), hF41 _ _ (by omega), hF37 _ _ (by omega), hF36 _ _ (by omega)]⟩) (Nat.le_of_ble_eq_true rfl) (Nat.le_of_ble_eq_true rfl) d_MM_get_131
    · skip
      refine lv_aload_n hx hb d_MM_get_69 rfl (lv_at hl 0 rfl) ?_
      refine mh_get K0 hX ((hF37 56 t (by omega)).trans ((hF36 56 t (by omega)).trans i0)) f_MM_82 rfl d_MM_get_70 ?_
      refine lv_iload_n hx hb d_MM_get_73 rfl (lv_at hl 3 rfl) ?_
      refine lv_iconst (v := nI 1) hx hb d_MM_get_74 (by decide) ?_
      refine mh_zastN K0 hX hS ((hF37 57 t (by omega)).trans ((hF36 57 t (by omega)).trans i1)) (by decide) (by omega) (by omega) d_MM_get_75 (fun H locs hX hS => ?_)
      have fs108 := mh_self hX
      refine lv_aload_n hx hb d_MM_get_76 rfl (lv_at hl 0 rfl) ?_
      refine lv_dup hx hb d_MM_get_77 rfl ?_
      refine mh_get K0 hX (mh_kp ((hF37 56 t (by omega)).trans ((hF36 56 t (by omega)).trans i0)) (by omega)) f_MM_85 rfl d_MM_get_78 ?_
      refine lv_iconst (v := nI 1) hx hb d_MM_get_81 (by decide) ?_
      refine mh_addN hx hb d_MM_get_82 ?_
      refine mh_put K0 hX hS (mh_kp ((hF37 56 t (by omega)).trans ((hF36 56 t (by omega)).trans i0)) (by omega)) f_MM_85 p_6_5 rfl rfl (Nat.le_of_ble_eq_true rfl) d_MM_get_83 (fun H locs hX hS => ?_)
      have hX : mh_P (dC, dI) b (mh_set _ 56 t (some (a, .inr (6, [.int (nI (iv_sn x)), .int (nI (iv_lv x)), .int (nI (iv_sv x)), .int (nI (iv_np x)), .int (nI (iv_nw x)), .int (nI ((pb_cnt (iv_rd x) 256) + 1)), .int (mh_b true), .int (mh_b (iv_gd x)), .ref a1, .ref a2, .ref a3, .ref a4, .ref a5, .ref a6])))) H := hX
      have fs109 := mh_self hX
      refine lv_aload_n hx hb d_MM_get_86 rfl (lv_at hl 1 rfl) ?_
      refine lv_aload_n hx hb d_MM_get_87 rfl (lv_at hl 0 rfl) ?_
      refine mh_get K0 hX fs109 f_MM_72 rfl d_MM_get_88 ?_
      have hW9 : rW dA (mh_set (mh_set wf37 57 t (some (a1, .inl (dA 2, 256, .inl (upd rdf key (nI 1)))))) 56 t (some (a, .inr (6, [.int (nI (iv_sn x)), .int (nI (iv_lv x)), .int (nI (iv_sv x)), .int (nI (iv_np x)), .int (nI (iv_nw x)), .int (nI ((pb_cnt (iv_rd x) 256) + 1)), .int (mh_b true), .int (mh_b (iv_gd x)), .ref a1, .ref a2, .ref a3, .ref a4, .ref a5, .ref a6])))) 56 t a (st_get x key) true := by rw [show st_get x key = (x.1, (fun j => decide (j = key) || iv_rd x j), x.2.2) from if_neg hp]; exact ⟨a1, a2, a3, a4, a5, a6, _, lo, hi, wk, no, nn, by rw [show pb_cnt (iv_rd (x.1, (fun j => decide (j = key) || iv_rd x j), x.2.2)) 256 = pb_cnt (iv_rd x) 256 + 1 from pb_cnt_up hk c7]; exact fs109, (mh_kp fs108 (by omega)), (mh_kp (mh_kp ((hF37 58 t (by omega)).trans ((hF36 58 t (by omega)).trans i2)) (by omega)) (by omega)), (mh_kp (mh_kp ((hF37 59 t (by omega)).trans ((hF36 59 t (by omega)).trans i3)) (by omega)) (by omega)), (mh_kp (mh_kp ((hF37 60 t (by omega)).trans ((hF36 60 t (by omega)).trans i4)) (by omega)) (by omega)), (mh_kp (mh_kp ((hF37 61 t (by omega)).trans ((hF36 61 t (by omega)).trans i5)) (by omega)) (by omega)), (mh_kp (mh_kp ((hF37 62 t (by omega)).trans ((hF36 62 t (by omega)).trans i6)) (by omega)) (by omega)), fun j hj => by show upd rdf key (nI 1) j = mh_b (decide (j = key) || iv_rd x j); by_cases e9 : j = key; (rw [e9, pk_us]; simp; rfl); (rw [pk_un e9, hrd j hj]; simp [e9]), hlo, hwk⟩
      refine mh_callV (mh_sV (rest := []) (av := [.int (nI (iv_sn x))]) K0 hX (mh_kp (mh_kp hm37 (by omega)) (by omega)) rfl e_MM_upTo l_MM_88 k768 kp17 rfl rfl d_MM_get_91) (c_MM_upTo (log := sg_lg g) (mh_kp (mh_kp hm37 (by omega)) (by omega)) (mh_kp (mh_kp ((hF37 51 0 (by omega)).trans ((hF36 51 0 (by omega)).trans r51)) (by omega)) (by omega)) (n0 := (iv_sn x)) (by omega) (fun i hi => (rl i (by omega)).imp (fun aa h => ⟨h.1, h.2.mv (fun z hz => by rw [mh_set_ne _ _ _ _ (by omega), mh_set_ne _ _ _ _ (by omega), hF37 _ _ (by omega), hF36 _ _ (by omega)])⟩)) (fun i hi => glo i (by omega)) ⟨_, (mh_kp (mh_kp ((hF37 54 0 (by omega)).trans ((hF36 54 0 (by omega)).trans r54)) (by omega)) (by omega))⟩ ⟨_, (mh_kp (mh_kp ((hF37 55 0 (by omega)).trans ((hF36 55 0 (by omega)).trans r55)) (by omega)) (by omega))⟩) K0 hOK hml hl.1 e_MM_upTo hX hS d_MM_get_91 (Nat.le_of_ble_eq_true rfl) (Nat.le_of_ble_eq_true rfl) (Nat.le_of_ble_eq_true rfl) (Nat.le_of_ble_eq_true rfl) (Nat.le_of_ble_eq_true rfl) (fun wf44 H locs ⟨hT44, hF44⟩ hX hS => ?_)
      refine W.eq (g2 := F0 m 94 ls []) rfl ?_
      refine lv_aload_n hx hb d_MM_get_94 rfl (lv_at hl 1 rfl) ?_
      refine lv_aload_n hx hb d_MM_get_95 rfl (lv_at hl 0 rfl) ?_
      refine mh_callV (mh_sV (rest := []) (av := [.ref a]) K0 hX ((hF44 50 0 (by omega)).trans (mh_kp (mh_kp hm37 (by omega)) (by omega))) rfl e_MM_apply l_MM_39 k772 kp18 rfl rfl d_MM_get_96) (c_MM_apply ((hF44 50 0 (by omega)).trans (mh_kp (mh_kp hm37 (by omega)) (by omega))) hT44 (hW9.mv (fun z hz => hF44 _ _ (by omega))) (st_get_ok ho) (by omega)) K0 hOK hml hl.1 e_MM_apply hX hS d_MM_get_96 (Nat.le_of_ble_eq_true rfl) (Nat.le_of_ble_eq_true rfl) (Nat.le_of_ble_eq_true rfl) (Nat.le_of_ble_eq_true rfl) (Nat.le_of_ble_eq_true rfl) (fun wf45 H locs ⟨hT45, hF45⟩ hX hS => ?_)
      refine W.eq (g2 := F0 m 99 ls []) rfl ?_
      rw [st_get_aw] at hT45
      obtain ⟨vf45, hf45, t54_45, t55_45, ht45⟩ := hT45
      refine lv_aload_n hx hb d_MM_get_99 rfl (lv_at hl 1 rfl) ?_
      refine lv_aload_n hx hb d_MM_get_100 rfl (lv_at hl 1 rfl) ?_
      refine mh_get K0 hX ((hF45 50 0 (by omega)).trans ((hF44 50 0 (by omega)).trans (mh_kp (mh_kp hm37 (by omega)) (by omega)))) f_MM_26 rfl d_MM_get_101 ?_
      refine lv_iload_n hx hb d_MM_get_104 rfl (lv_at hl 3 rfl) ?_
      refine mh_zaldN K0 hX t55_45 (by omega) (by omega) d_MM_get_105 ?_
      refine mh_ti (y := mh_b ((st_vw (sg_lg g) x key).isSome)) ((ht45 key hk).1) ?_
      refine mh_ifneB (tgt := 113) hx hb d_MM_get_106 (by decide) (fun _ => ?_) (fun z => absurd z (by rw [hv]; simp))
      refine lv_iconst (v := nI 0) hx hb d_MM_get_113 (by decide) ?_
      refine lv_iconst (v := nI 3) hx hb d_MM_get_114 (by decide) ?_
      refine mh_callV (mh_sV (rest := []) (av := [.int (nI 0), .int (nI 3)]) K0 hX ((hF45 50 0 (by omega)).trans ((hF44 50 0 (by omega)).trans (mh_kp (mh_kp hm37 (by omega)) (by omega)))) rfl e_MM_fails l_MM_57 k748 kp15 rfl rfl d_MM_get_115) (c_MM_fails0 ((hF45 50 0 (by omega)).trans ((hF44 50 0 (by omega)).trans (mh_kp (mh_kp hm37 (by omega)) (by omega))))) K0 hOK hml hl.1 e_MM_fails hX hS d_MM_get_115 (Nat.le_of_ble_eq_true rfl) (Nat.le_of_ble_eq_true rfl) (Nat.le_of_ble_eq_true rfl) (Nat.le_of_ble_eq_true rfl) (Nat.le_of_ble_eq_true rfl) (fun wf46 H locs ⟨hm46, hF46⟩ hX hS => ?_)
      refine W.eq (g2 := F0 m 118 ls [.int (nI 0)]) rfl ?_
      refine mh_if_eq (tgt := 125) hx hb (by omega) d_MM_get_118 (by decide) (fun _ => ?_) (fun z => absurd z (by omega))
      refine lv_aload_n hx hb d_MM_get_125 rfl (lv_at hl 1 rfl) ?_
      refine mh_get K0 hX hm46 f_MM_22 rfl d_MM_get_126 ?_
      refine lv_iload_n hx hb d_MM_get_129 rfl (lv_at hl 3 rfl) ?_
      refine mh_laldN K0 hX ((hF46 54 0 (by omega)).trans t54_45) (by omega) (by omega) d_MM_get_130 ?_
      exact mh_lret K0 hr hlocks hX hS (⟨by rw [(ht45 key hk).2 v hv], ⟨aG, aO, aA, aV, aH, lg, op, at_, hQ.tx (x := (st_get x key)) (fun k i h0 h1 h2 h3 h4 => by rw [hF46 _ _ (by omega), hF45 _ _ (by omega), hF44 _ _ (by omega), mh_set_ne _ _ _ _ (by omega), mh_set_ne _ _ _ _ (by omega), hF37 _ _ (by omega), hF36 _ _ (by omega)]) hm46 ⟨_, ((hF46 54 0 (by omega)).trans t54_45)⟩ ⟨_, ((hF46 55 0 (by omega)).trans t55_45)⟩ ha (hW9.mv (fun z hz => by rw [hF46 _ _ (by omega), hF45 _ _ (by omega), hF44 _ _ (by omega)])) (st_get_ok ho9) (fun x2 hx2 => by cases hx2; rfl)⟩, fun k i h => by rw [hF46 _ _ (by omega), hF45 _ _ (by omega), hF44 _ _ (by omega), mh_set_ne _ _ _ _ (by omega), mh_set_ne _ _ _ _ (by omega), hF37 _ _ (by omega), hF36 _ _ (by omega)]⟩) (Nat.le_of_ble_eq_true rfl) (Nat.le_of_ble_eq_true rfl) d_MM_get_131
set_option maxHeartbeats 4000000 in
set_option maxRecDepth 100000 in
theorem c_MM_get_3 {l : Launch} {b : Nat} {dC : Nat → ClassId} {dI : Nat → Nat → Nat} {dA : Nat → ClassId} {zs : Nat → Nat} {w : mh_w} {m0 : Nat} {er : Int32} {g : st_G} (hR : rM dA w m0 er g) (hG : sg_ok g) {t : Nat} (ht : t < 16) {key : Nat} (hk : key < 256) {x : st_I} (hd : sg_dr g t = some x) (hv : st_vw (sg_lg g) x key = none) : mh_Met l b dC dI dA zs y_MM_get (mh_rm 4 10 500) [.ref m0, .int (nI t), .int (nI key)] w (mh_V (some (.long 0)) (fun w' => rM dA w' m0 (nI 3) (g.1, g.2.1, va_up (sg_dr g) t (some (st_get x key)), g.2.2.2) ∧ mh_D w w')) := by
  obtain ⟨aG, aO, aA, aV, aH, lg, op, at_, hQ⟩ := hR
  have hQ2 := hQ
  obtain ⟨r50, r51, r52, r53, ⟨vf, r54⟩, ⟨hf, r55⟩, ra, ro, rl⟩ := hQ2
  have hG2 := hG
  obtain ⟨gn, grs, gat, glo, gdr⟩ := hG2
  refine mh_ofW (cc := b_MM_get) (n := 4) (ret := (some .long)) (hs := []) (by decide) k757 ?_
  intro p e s m below meth c hx hb hr hml hown hts hlocks hnm hT hOK hadm
  have K0 : mh_K0 p s m ([.ref m0, .int (nI t), .int (nI key)]).toArray c "MeldHostModel" b_MM_get dC dI dA := ⟨hx, hb, hown, hts, hOK.1, hOK.2.1⟩
  have hX := hOK.2.2.2.2
  have hb0 := hOK.2.2.2.1
  have hS : va_S (mh_A b) s.heap s.heap [] := va_S.rf
  have hl := lv_entry ([.ref m0, .int (nI t), .int (nI key)]) (n := 4) (Nat.le_of_ble_eq_true rfl)
  rw [lg_entry_eq]
  generalize (lg_sl ([.ref m0, .int (nI t), .int (nI key)]) ++ List.replicate (4 - (lg_sl ([.ref m0, .int (nI t), .int (nI key)])).length) Slot.unset).toArray = ls at hl ⊢
  have hl : lv_has ls 4 [(0, .ref m0), (1, .int (nI t)), (2, .int (nI key))] := hl
  obtain ⟨a, x9, ha, hW0, ho9, hx9⟩ := ro t ht
  have ex := hx9 x hd
  subst ex
  have hW : rW dA w 56 t a x true := by rw [hd] at hW0; exact hW0
  have ho := gdr t x ht hd
  have ho2 := ho
  obtain ⟨o1, o2, o3, o4, o5, o6, o7, o8⟩ := ho2
  have hWc := hW
  obtain ⟨a1, a2, a3, a4, a5, a6, rdf, lo, hi, wk, no, nn, i0, i1, i2, i3, i4, i5, i6, hrd, hlo, hwk⟩ := hWc
  refine lv_aload_n hx hb d_MM_get_0 rfl (lv_at hl 0 rfl) ?_
  refine lv_iload_n hx hb d_MM_get_1 rfl (lv_at hl 1 rfl) ?_
  refine lv_bipush (v := nI 16) hx hb d_MM_get_2 (by decide) ?_
  refine mh_callR (mh_sS (rest := [.ref m0]) (av := [.int (nI t), .int (nI 16)]) K0 e_MM_in l_MM_53 k744 rfl rfl d_MM_get_4) (c_MM_in) K0 hOK hml hl.1 e_MM_in hX hS d_MM_get_4 (Nat.le_of_ble_eq_true rfl) (Nat.le_of_ble_eq_true rfl) (Nat.le_of_ble_eq_true rfl) (Nat.le_of_ble_eq_true rfl) (Nat.le_of_ble_eq_true rfl) (fun H locs hX hS => ?_)
  refine W.eq (g2 := F0 m 7 ls [.int (mh_b (st_in (nI t) 16)), .ref m0]) rfl ?_
  refine mh_ifeqB (tgt := 20) hx hb d_MM_get_7 (by decide) (fun z => absurd z (by rw [st_in_nI ht (by decide)]; decide)) (fun _ => ?_)
  refine lv_iload_n hx hb d_MM_get_10 rfl (lv_at hl 2 rfl) ?_
  refine lv_sipush (v := nI 256) hx hb d_MM_get_11 (by decide) ?_
  refine mh_callR (mh_sS (rest := [.ref m0]) (av := [.int (nI key), .int (nI 256)]) K0 e_MM_in l_MM_53 k744 rfl rfl d_MM_get_14) (c_MM_in) K0 hOK hml hl.1 e_MM_in hX hS d_MM_get_14 (Nat.le_of_ble_eq_true rfl) (Nat.le_of_ble_eq_true rfl) (Nat.le_of_ble_eq_true rfl) (Nat.le_of_ble_eq_true rfl) (Nat.le_of_ble_eq_true rfl) (fun H locs hX hS => ?_)
  refine W.eq (g2 := F0 m 17 ls [.int (mh_b (st_in (nI key) 256)), .ref m0]) rfl ?_
  refine mh_ifneB (tgt := 24) hx hb d_MM_get_17 (by decide) (fun _ => ?_) (fun z => absurd z (by rw [st_in_nI hk (by decide)]; decide))
  refine lv_iconst (v := nI 0) hx hb d_MM_get_24 (by decide) ?_
  refine lv_iconst (v := nI 1) hx hb d_MM_get_25 (by decide) ?_
  refine mh_callV (mh_sV (rest := []) (av := [.int (nI 0), .int (nI 1)]) K0 hX r50 rfl e_MM_fails l_MM_57 k748 kp15 rfl rfl d_MM_get_26) (c_MM_fails0 r50) K0 hOK hml hl.1 e_MM_fails hX hS d_MM_get_26 (Nat.le_of_ble_eq_true rfl) (Nat.le_of_ble_eq_true rfl) (Nat.le_of_ble_eq_true rfl) (Nat.le_of_ble_eq_true rfl) (Nat.le_of_ble_eq_true rfl) (fun wf47 H locs ⟨hm47, hF47⟩ hX hS => ?_)
  refine W.eq (g2 := F0 m 29 ls [.int (nI 0)]) rfl ?_
  refine mh_if_eq (tgt := 34) hx hb (by omega) d_MM_get_29 (by decide) (fun _ => ?_) (fun z => absurd z (by omega))
  refine lv_aload_n hx hb d_MM_get_34 rfl (lv_at hl 0 rfl) ?_
  refine lv_iload_n hx hb d_MM_get_35 rfl (lv_at hl 1 rfl) ?_
  refine lv_iconst (v := nI 2) hx hb d_MM_get_36 (by decide) ?_
  refine mh_callV (mh_sV (rest := []) (av := [.int (nI t), .int (nI 2)]) K0 hX hm47 rfl e_MM_shut l_MM_75 k760 kp16 rfl rfl d_MM_get_37) (c_MM_shut0 (x := x) hm47 ((hF47 52 0 (by omega)).trans r52) ht ha (hW.mv (fun z hz => by rw [hF47 _ _ (by omega)]))) K0 hOK hml hl.1 e_MM_shut hX hS d_MM_get_37 (Nat.le_of_ble_eq_true rfl) (Nat.le_of_ble_eq_true rfl) (Nat.le_of_ble_eq_true rfl) (Nat.le_of_ble_eq_true rfl) (Nat.le_of_ble_eq_true rfl) (fun wf48 H locs ⟨hm48, hF48⟩ hX hS => ?_)
  refine W.eq (g2 := F0 m 40 ls [.int (nI 0)]) rfl ?_
  refine mh_if_eq (tgt := 45) hx hb (by omega) d_MM_get_40 (by decide) (fun _ => ?_) (fun z => absurd z (by omega))
  refine lv_aload_n hx hb d_MM_get_45 rfl (lv_at hl 0 rfl) ?_
  refine mh_get K0 hX hm48 f_MM_15 rfl d_MM_get_46 ?_
  refine lv_iload_n hx hb d_MM_get_49 rfl (lv_at hl 1 rfl) ?_
  refine mh_aaldN 7 rfl K0 hX ((hF48 52 0 (by omega)).trans ((hF47 52 0 (by omega)).trans r52)) (by omega) (by omega) (r := (some a)) (ha) d_MM_get_50 ?_
  refine W.eq (g2 := F0 m 51 ls [.ref a]) rfl ?_
  refine lv_astore_n (lv' := [(3, .ref a), (0, .ref m0), (1, .int (nI t)), (2, .int (nI key))]) hx hb d_MM_get_51 rfl hl (by decide) rfl (fun ls hl => ?_)
  refine lv_aload_n hx hb d_MM_get_52 rfl (lv_at hl 0 rfl) ?_
  refine lv_iload_n hx hb d_MM_get_53 rfl (lv_at hl 3 rfl) ?_
  by_cases hp : st_pl (iv_wk x) key (iv_nw x) < iv_nw x
  · skip
    refine mh_callR (mh_sV (rest := []) (av := [.int (nI key)]) K0 hX ((hF48 56 t (by omega)).trans ((hF47 56 t (by omega)).trans i0)) rfl e_WK_written l_MM_78 k763 k764 rfl rfl d_MM_get_54) (c_WK_written_y (hW.mv (fun z hz => by rw [hF48 _ _ (by omega), hF47 _ _ (by omega)])) ho hk hp) K0 hOK hml hl.1 e_WK_written hX hS d_MM_get_54 (Nat.le_of_ble_eq_true rfl) (Nat.le_of_ble_eq_true rfl) (Nat.le_of_ble_eq_true rfl) (Nat.le_of_ble_eq_true rfl) (Nat.le_of_ble_eq_true rfl) (fun H locs hX hS => ?_)
    refine W.eq (g2 := F0 m 57 ls [.int (nI (st_pl (iv_wk x) key (iv_nw x)))]) rfl ?_
    have hple := st_pl_le (iv_wk x) key (iv_nw x)
    refine mh_if_ge (tgt := 86) hx hb (by omega) d_MM_get_57 (by decide) (fun _ => ?_) (fun z => absurd z (by omega))
    have hW9 : rW dA wf48 56 t a (st_get x key) true := by rw [show st_get x key = x from if_pos hp]; exact hW.mv (fun z hz => by rw [hF48 _ _ (by omega), hF47 _ _ (by omega)])
    refine lv_aload_n hx hb d_MM_get_86 rfl (lv_at hl 1 rfl) ?_
    refine lv_aload_n hx hb d_MM_get_87 rfl (lv_at hl 0 rfl) ?_
    refine mh_get K0 hX ((hF48 56 t (by omega)).trans ((hF47 56 t (by omega)).trans i0)) f_MM_72 rfl d_MM_get_88 ?_
    refine mh_callV (mh_sV (rest := []) (av := [.int (nI (iv_sn x))]) K0 hX hm48 rfl e_MM_upTo l_MM_88 k768 kp17 rfl rfl d_MM_get_91) (c_MM_upTo (log := sg_lg g) hm48 ((hF48 51 0 (by omega)).trans ((hF47 51 0 (by omega)).trans r51)) (n0 := (iv_sn x)) (by omega) (fun i hi => (rl i (by omega)).imp (fun aa h => ⟨h.1, h.2.mv (fun z hz => by rw [hF48 _ _ (by omega), hF47 _ _ (by omega)])⟩)) (fun i hi => glo i (by omega)) ⟨_, ((hF48 54 0 (by omega)).trans ((hF47 54 0 (by omega)).trans r54))⟩ ⟨_, ((hF48 55 0 (by omega)).trans ((hF47 55 0 (by omega)).trans r55))⟩) K0 hOK hml hl.1 e_MM_upTo hX hS d_MM_get_91 (Nat.le_of_ble_eq_true rfl) (Nat.le_of_ble_eq_true rfl) (Nat.le_of_ble_eq_true rfl) (Nat.le_of_ble_eq_true rfl) (Nat.le_of_ble_eq_true rfl) (fun wf49 H locs ⟨hT49, hF49⟩ hX hS => ?_)
    refine W.eq (g2 := F0 m 94 ls []) rfl ?_
    refine lv_aload_n hx hb d_MM_get_94 rfl (lv_at hl 1 rfl) ?_
    refine lv_aload_n hx hb d_MM_get_95 rfl (lv_at hl 0 rfl) ?_
    refine mh_callV (mh_sV (rest := []) (av := [.ref a]) K0 hX ((hF49 50 0 (by omega)).trans hm48) rfl e_MM_apply l_MM_39 k772 kp18 rfl rfl d_MM_get_96) (c_MM_apply ((hF49 50 0 (by omega)).trans hm48) hT49 (hW9.mv (fun z hz => hF49 _ _ (by omega))) (st_get_ok ho) (by omega)) K0 hOK hml hl.1 e_MM_apply hX hS d_MM_get_96 (Nat.le_of_ble_eq_true rfl) (Nat.le_of_ble_eq_true rfl) (Nat.le_of_ble_eq_true rfl) (Nat.le_of_ble_eq_true rfl) (Nat.le_of_ble_eq_true rfl) (fun wf50 H locs ⟨hT50, hF50⟩ hX hS => ?_)
    refine W.eq (g2 := F0 m 99 ls []) rfl ?_
    rw [st_get_aw] at hT50
    obtain ⟨vf50, hf50, t54_50, t55_50, ht50⟩ := hT50
    refine lv_aload_n hx hb d_MM_get_99 rfl (lv_at hl 1 rfl) ?_
    refine lv_aload_n hx hb d_MM_get_100 rfl (lv_at hl 1 rfl) ?_
    refine mh_get K0 hX ((hF50 50 0 (by omega)).trans ((hF49 50 0 (by omega)).trans hm48)) f_MM_26 rfl d_MM_get_101 ?_
    refine lv_iload_n hx hb d_MM_get_104 rfl (lv_at hl 3 rfl) ?_
    refine mh_zaldN K0 hX t55_50 (by omega) (by omega) d_MM_get_105 ?_
    refine mh_ti (y := mh_b ((st_vw (sg_lg g) x key).isSome)) ((ht50 key hk).1) ?_
    refine mh_ifneB (tgt := 113) hx hb d_MM_get_106 (by decide) (fun z => absurd z (by rw [hv]; simp)) (fun _ => ?_)
    refine lv_iconst (v := nI 1) hx hb d_MM_get_109 (by decide) ?_
    refine lv_goto (tgt := 114) hx hb d_MM_get_110 (by decide) ?_
    refine lv_iconst (v := nI 3) hx hb d_MM_get_114 (by decide) ?_
    refine mh_callV (mh_sV (rest := []) (av := [.int (nI 1), .int (nI 3)]) K0 hX ((hF50 50 0 (by omega)).trans ((hF49 50 0 (by omega)).trans hm48)) rfl e_MM_fails l_MM_57 k748 kp15 rfl rfl d_MM_get_115) (c_MM_fails1 ((hF50 50 0 (by omega)).trans ((hF49 50 0 (by omega)).trans hm48))) K0 hOK hml hl.1 e_MM_fails hX hS d_MM_get_115 (Nat.le_of_ble_eq_true rfl) (Nat.le_of_ble_eq_true rfl) (Nat.le_of_ble_eq_true rfl) (Nat.le_of_ble_eq_true rfl) (Nat.le_of_ble_eq_true rfl) (fun wf51 H locs ⟨hm51, hF51⟩ hX hS => ?_)
    refine W.eq (g2 := F0 m 118 ls [.int (nI 1)]) rfl ?_
    refine mh_if_eq (tgt := 125) hx hb (by omega) d_MM_get_118 (by decide) (fun z => absurd z (by omega)) (fun _ => ?_)
    refine lv_lconst (v := 0) hx hb d_MM_get_121 rfl ?_
    refine lv_goto (tgt := 131) hx hb d_MM_get_122 (by decide) ?_
    exact mh_lret K0 hr hlocks hX hS (⟨rfl, ⟨aG, aO, aA, aV, aH, lg, op, at_, hQ.tx (x := (st_get x key)) (fun k i h0 h1 h2 h3 h4 => by rw [hF51 _ _ (by omega), hF50 _ _ (by omega), hF49 _ _ (by omega), hF48 _ _ (by omega), hF47 _ _ (by omega)]) hm51 ⟨_, ((hF51 54 0 (by omega)).trans t54_50)⟩ ⟨_, ((hF51 55 0 (by omega)).trans t55_50)⟩ ha (hW9.mv (fun z hz => by rw [hF51 _ _ (by omega), hF50 _ _ (by omega), hF49 _ _ (by omega)])) (st_get_ok ho9) (fun x2 hx2 => by cases hx2; rfl)⟩, fun k i h => by rw [hF51 _ _ (by omega), hF50 _ _ (by omega), hF49 _ _ (by omega), hF48 _ _ (by omega), hF47 _ _ (by omega)]⟩) (Nat.le_of_ble_eq_true rfl) (Nat.le_of_ble_eq_true rfl) d_MM_get_131
  · skip
    refine mh_callR (mh_sV (rest := []) (av := [.int (nI key)]) K0 hX ((hF48 56 t (by omega)).trans ((hF47 56 t (by omega)).trans i0)) rfl e_WK_written l_MM_78 k763 k764 rfl rfl d_MM_get_54) (c_WK_written_n (hW.mv (fun z hz => by rw [hF48 _ _ (by omega), hF47 _ _ (by omega)])) ho hk hp) K0 hOK hml hl.1 e_WK_written hX hS d_MM_get_54 (Nat.le_of_ble_eq_true rfl) (Nat.le_of_ble_eq_true rfl) (Nat.le_of_ble_eq_true rfl) (Nat.le_of_ble_eq_true rfl) (Nat.le_of_ble_eq_true rfl) (fun H locs hX hS => ?_)
    refine W.eq (g2 := F0 m 57 ls [.int (-1)]) rfl ?_
    refine lv_if_ge (tgt := 86) hx hb d_MM_get_57 (by decide) (fun z => absurd z (by decide)) (fun _ => ?_)
    refine lv_aload_n hx hb d_MM_get_60 rfl (lv_at hl 0 rfl) ?_
    refine mh_get K0 hX ((hF48 56 t (by omega)).trans ((hF47 56 t (by omega)).trans i0)) f_MM_82 rfl d_MM_get_61 ?_
    refine lv_iload_n hx hb d_MM_get_64 rfl (lv_at hl 3 rfl) ?_
    refine mh_zaldN K0 hX ((hF48 57 t (by omega)).trans ((hF47 57 t (by omega)).trans i1)) (by omega) (by omega) d_MM_get_65 ?_
    refine mh_ti (y := mh_b (iv_rd x key)) (hrd key hk) ?_
    refine mh_ifneB (tgt := 86) hx hb d_MM_get_66 (by decide) (fun c7 => ?_) (fun c7 => ?_)
    · skip
      have hW9 : rW dA wf48 56 t a (st_get x key) true := by rw [show st_get x key = (x.1, (fun j => decide (j = key) || iv_rd x j), x.2.2) from if_neg hp]; exact ⟨a1, a2, a3, a4, a5, a6, rdf, lo, hi, wk, no, nn, by rw [show pb_cnt (iv_rd (x.1, (fun j => decide (j = key) || iv_rd x j), x.2.2)) 256 = pb_cnt (iv_rd x) 256 from pb_cnt_congr (fun j hj => by show (decide (j = key) || iv_rd x j) = iv_rd x j; by_cases e9 : j = key; (rw [e9, c7]; simp); (simp [e9]))]; exact ((hF48 56 t (by omega)).trans ((hF47 56 t (by omega)).trans i0)), ((hF48 57 t (by omega)).trans ((hF47 57 t (by omega)).trans i1)), ((hF48 58 t (by omega)).trans ((hF47 58 t (by omega)).trans i2)), ((hF48 59 t (by omega)).trans ((hF47 59 t (by omega)).trans i3)), ((hF48 60 t (by omega)).trans ((hF47 60 t (by omega)).trans i4)), ((hF48 61 t (by omega)).trans ((hF47 61 t (by omega)).trans i5)), ((hF48 62 t (by omega)).trans ((hF47 62 t (by omega)).trans i6)), fun j hj => by show rdf j = mh_b (decide (j = key) || iv_rd x j); rw [hrd j hj]; by_cases e9 : j = key; (rw [e9, c7]; simp); (simp [e9]), hlo, hwk⟩
      refine lv_aload_n hx hb d_MM_get_86 rfl (lv_at hl 1 rfl) ?_
      refine lv_aload_n hx hb d_MM_get_87 rfl (lv_at hl 0 rfl) ?_
      refine mh_get K0 hX ((hF48 56 t (by omega)).trans ((hF47 56 t (by omega)).trans i0)) f_MM_72 rfl d_MM_get_88 ?_
      refine mh_callV (mh_sV (rest := []) (av := [.int (nI (iv_sn x))]) K0 hX hm48 rfl e_MM_upTo l_MM_88 k768 kp17 rfl rfl d_MM_get_91) (c_MM_upTo (log := sg_lg g) hm48 ((hF48 51 0 (by omega)).trans ((hF47 51 0 (by omega)).trans r51)) (n0 := (iv_sn x)) (by omega) (fun i hi => (rl i (by omega)).imp (fun aa h => ⟨h.1, h.2.mv (fun z hz => by rw [hF48 _ _ (by omega), hF47 _ _ (by omega)])⟩)) (fun i hi => glo i (by omega)) ⟨_, ((hF48 54 0 (by omega)).trans ((hF47 54 0 (by omega)).trans r54))⟩ ⟨_, ((hF48 55 0 (by omega)).trans ((hF47 55 0 (by omega)).trans r55))⟩) K0 hOK hml hl.1 e_MM_upTo hX hS d_MM_get_91 (Nat.le_of_ble_eq_true rfl) (Nat.le_of_ble_eq_true rfl) (Nat.le_of_ble_eq_true rfl) (Nat.le_of_ble_eq_true rfl) (Nat.le_of_ble_eq_true rfl) (fun wf52 H locs ⟨hT52, hF52⟩ hX hS => ?_)
      refine W.eq (g2 := F0 m 94 ls []) rfl ?_
      refine lv_aload_n hx hb d_MM_get_94 rfl (lv_at hl 1 rfl) ?_
      refine lv_aload_n hx hb d_MM_get_95 rfl (lv_at hl 0 rfl) ?_
      refine mh_callV (mh_sV (rest := []) (av := [.ref a]) K0 hX ((hF52 50 0 (by omega)).trans hm48) rfl e_MM_apply l_MM_39 k772 kp18 rfl rfl d_MM_get_96) (c_MM_apply ((hF52 50 0 (by omega)).trans hm48) hT52 (hW9.mv (fun z hz => hF52 _ _ (by omega))) (st_get_ok ho) (by omega)) K0 hOK hml hl.1 e_MM_apply hX hS d_MM_get_96 (Nat.le_of_ble_eq_true rfl) (Nat.le_of_ble_eq_true rfl) (Nat.le_of_ble_eq_true rfl) (Nat.le_of_ble_eq_true rfl) (Nat.le_of_ble_eq_true rfl) (fun wf53 H locs ⟨hT53, hF53⟩ hX hS => ?_)
      refine W.eq (g2 := F0 m 99 ls []) rfl ?_
      rw [st_get_aw] at hT53
      obtain ⟨vf53, hf53, t54_53, t55_53, ht53⟩ := hT53
      refine lv_aload_n hx hb d_MM_get_99 rfl (lv_at hl 1 rfl) ?_
      refine lv_aload_n hx hb d_MM_get_100 rfl (lv_at hl 1 rfl) ?_
      refine mh_get K0 hX ((hF53 50 0 (by omega)).trans ((hF52 50 0 (by omega)).trans hm48)) f_MM_26 rfl d_MM_get_101 ?_
      refine lv_iload_n hx hb d_MM_get_104 rfl (lv_at hl 3 rfl) ?_
      refine mh_zaldN K0 hX t55_53 (by omega) (by omega) d_MM_get_105 ?_
      refine mh_ti (y := mh_b ((st_vw (sg_lg g) x key).isSome)) ((ht53 key hk).1) ?_
      refine mh_ifneB (tgt := 113) hx hb d_MM_get_106 (by decide) (fun z => absurd z (by rw [hv]; simp)) (fun _ => ?_)
      refine lv_iconst (v := nI 1) hx hb d_MM_get_109 (by decide) ?_
      refine lv_goto (tgt := 114) hx hb d_MM_get_110 (by decide) ?_
      refine lv_iconst (v := nI 3) hx hb d_MM_get_114 (by decide) ?_
      refine mh_callV (mh_sV (rest := []) (av := [.int (nI 1), .int (nI 3)]) K0 hX ((hF53 50 0 (by omega)).trans ((hF52 50 0 (by omega)).trans hm48)) rfl e_MM_fails l_MM_57 k748 kp15 rfl rfl d_MM_get_115) (c_MM_fails1 ((hF53 50 0 (by omega)).trans ((hF52 50 0 (by omega)).trans hm48))) K0 hOK hml hl.1 e_MM_fails hX hS d_MM_get_115 (Nat.le_of_ble_eq_true rfl) (Nat.le_of_ble_eq_true rfl) (Nat.le_of_ble_eq_true rfl) (Nat.le_of_ble_eq_true rfl) (Nat.le_of_ble_eq_true rfl) (fun wf54 H locs ⟨hm54, hF54⟩ hX hS => ?_)
      refine W.eq (g2 := F0 m 118 ls [.int (nI 1)]) rfl ?_
      refine mh_if_eq (tgt := 125) hx hb (by omega) d_MM_get_118 (by decide) (fun z => absurd z (by omega)) (fun _ => ?_)
      refine lv_lconst (v := 0) hx hb d_MM_get_121 rfl ?_
      refine lv_goto (tgt := 131) hx hb d_MM_get_122 (by decide) ?_
      exact mh_lret K0 hr hlocks hX hS (⟨rfl, ⟨aG, aO, aA, aV, aH, lg, op, at_, hQ.tx (x := (st_get x key)) (fun k i h0 h1 h2 h3 h4 => by rw [hF54 _ _ (by omega), hF53 _ _ (by omega), hF52 _ _ (by omega), hF48 _ _ (by omega), hF47 _ _ (by omega)]) hm54 ⟨_, ((hF54 54 0 (by omega)).trans t54_53)⟩ ⟨_, ((hF54 55 0 (by omega)).trans t55_53)⟩ ha (hW9.mv (fun z hz => by rw [hF54 _ _ (by omega), hF53 _ _ (by omega), hF52 _ _ (by omega)])) (st_get_ok ho9) (fun x2 hx2 => by cases hx2; rfl)⟩, fun k i h => by rw [hF54 _ _ (by omega), hF53 _ _ (by omega), hF52 _ _ (by omega), hF48 _ _ (by omega), hF47 _ _ (by omega)]⟩) (Nat.le_of_ble_eq_true rfl) (Nat.le_of_ble_eq_true rfl) d_MM_get_131
    · skip
      refine lv_aload_n hx hb d_MM_get_69 rfl (lv_at hl 0 rfl) ?_
      refine mh_get K0 hX ((hF48 56 t (by omega)).trans ((hF47 56 t (by omega)).trans i0)) f_MM_82 rfl d_MM_get_70 ?_
      refine lv_iload_n hx hb d_MM_get_73 rfl (lv_at hl 3 rfl) ?_
      refine lv_iconst (v := nI 1) hx hb d_MM_get_74 (by decide) ?_
      refine mh_zastN K0 hX hS ((hF48 57 t (by omega)).trans ((hF47 57 t (by omega)).trans i1)) (by decide) (by omega) (by omega) d_MM_get_75 (fun H locs hX hS => ?_)
      have fs110 := mh_self hX
      refine lv_aload_n hx hb d_MM_get_76 rfl (lv_at hl 0 rfl) ?_
      refine lv_dup hx hb d_MM_get_77 rfl ?_
      refine mh_get K0 hX (mh_kp ((hF48 56 t (by omega)).trans ((hF47 56 t (by omega)).trans i0)) (by omega)) f_MM_85 rfl d_MM_get_78 ?_
      refine lv_iconst (v := nI 1) hx hb d_MM_get_81 (by decide) ?_
      refine mh_addN hx hb d_MM_get_82 ?_
      refine mh_put K0 hX hS (mh_kp ((hF48 56 t (by omega)).trans ((hF47 56 t (by omega)).trans i0)) (by omega)) f_MM_85 p_6_5 rfl rfl (Nat.le_of_ble_eq_true rfl) d_MM_get_83 (fun H locs hX hS => ?_)
      have hX : mh_P (dC, dI) b (mh_set _ 56 t (some (a, .inr (6, [.int (nI (iv_sn x)), .int (nI (iv_lv x)), .int (nI (iv_sv x)), .int (nI (iv_np x)), .int (nI (iv_nw x)), .int (nI ((pb_cnt (iv_rd x) 256) + 1)), .int (mh_b true), .int (mh_b (iv_gd x)), .ref a1, .ref a2, .ref a3, .ref a4, .ref a5, .ref a6])))) H := hX
      have fs111 := mh_self hX
      refine lv_aload_n hx hb d_MM_get_86 rfl (lv_at hl 1 rfl) ?_
      refine lv_aload_n hx hb d_MM_get_87 rfl (lv_at hl 0 rfl) ?_
      refine mh_get K0 hX fs111 f_MM_72 rfl d_MM_get_88 ?_
      have hW9 : rW dA (mh_set (mh_set wf48 57 t (some (a1, .inl (dA 2, 256, .inl (upd rdf key (nI 1)))))) 56 t (some (a, .inr (6, [.int (nI (iv_sn x)), .int (nI (iv_lv x)), .int (nI (iv_sv x)), .int (nI (iv_np x)), .int (nI (iv_nw x)), .int (nI ((pb_cnt (iv_rd x) 256) + 1)), .int (mh_b true), .int (mh_b (iv_gd x)), .ref a1, .ref a2, .ref a3, .ref a4, .ref a5, .ref a6])))) 56 t a (st_get x key) true := by rw [show st_get x key = (x.1, (fun j => decide (j = key) || iv_rd x j), x.2.2) from if_neg hp]; exact ⟨a1, a2, a3, a4, a5, a6, _, lo, hi, wk, no, nn, by rw [show pb_cnt (iv_rd (x.1, (fun j => decide (j = key) || iv_rd x j), x.2.2)) 256 = pb_cnt (iv_rd x) 256 + 1 from pb_cnt_up hk c7]; exact fs111, (mh_kp fs110 (by omega)), (mh_kp (mh_kp ((hF48 58 t (by omega)).trans ((hF47 58 t (by omega)).trans i2)) (by omega)) (by omega)), (mh_kp (mh_kp ((hF48 59 t (by omega)).trans ((hF47 59 t (by omega)).trans i3)) (by omega)) (by omega)), (mh_kp (mh_kp ((hF48 60 t (by omega)).trans ((hF47 60 t (by omega)).trans i4)) (by omega)) (by omega)), (mh_kp (mh_kp ((hF48 61 t (by omega)).trans ((hF47 61 t (by omega)).trans i5)) (by omega)) (by omega)), (mh_kp (mh_kp ((hF48 62 t (by omega)).trans ((hF47 62 t (by omega)).trans i6)) (by omega)) (by omega)), fun j hj => by show upd rdf key (nI 1) j = mh_b (decide (j = key) || iv_rd x j); by_cases e9 : j = key; (rw [e9, pk_us]; simp; rfl); (rw [pk_un e9, hrd j hj]; simp [e9]), hlo, hwk⟩
      refine mh_callV (mh_sV (rest := []) (av := [.int (nI (iv_sn x))]) K0 hX (mh_kp (mh_kp hm48 (by omega)) (by omega)) rfl e_MM_upTo l_MM_88 k768 kp17 rfl rfl d_MM_get_91) (c_MM_upTo (log := sg_lg g) (mh_kp (mh_kp hm48 (by omega)) (by omega)) (mh_kp (mh_kp ((hF48 51 0 (by omega)).trans ((hF47 51 0 (by omega)).trans r51)) (by omega)) (by omega)) (n0 := (iv_sn x)) (by omega) (fun i hi => (rl i (by omega)).imp (fun aa h => ⟨h.1, h.2.mv (fun z hz => by rw [mh_set_ne _ _ _ _ (by omega), mh_set_ne _ _ _ _ (by omega), hF48 _ _ (by omega), hF47 _ _ (by omega)])⟩)) (fun i hi => glo i (by omega)) ⟨_, (mh_kp (mh_kp ((hF48 54 0 (by omega)).trans ((hF47 54 0 (by omega)).trans r54)) (by omega)) (by omega))⟩ ⟨_, (mh_kp (mh_kp ((hF48 55 0 (by omega)).trans ((hF47 55 0 (by omega)).trans r55)) (by omega)) (by omega))⟩) K0 hOK hml hl.1 e_MM_upTo hX hS d_MM_get_91 (Nat.le_of_ble_eq_true rfl) (Nat.le_of_ble_eq_true rfl) (Nat.le_of_ble_eq_true rfl) (Nat.le_of_ble_eq_true rfl) (Nat.le_of_ble_eq_true rfl) (fun wf55 H locs ⟨hT55, hF55⟩ hX hS => ?_)
      refine W.eq (g2 := F0 m 94 ls []) rfl ?_
      refine lv_aload_n hx hb d_MM_get_94 rfl (lv_at hl 1 rfl) ?_
      refine lv_aload_n hx hb d_MM_get_95 rfl (lv_at hl 0 rfl) ?_
      refine mh_callV (mh_sV (rest := []) (av := [.ref a]) K0 hX ((hF55 50 0 (by omega)).trans (mh_kp (mh_kp hm48 (by omega)) (by omega))) rfl e_MM_apply l_MM_39 k772 kp18 rfl rfl d_MM_get_96) (c_MM_apply ((hF55 50 0 (by omega)).trans (mh_kp (mh_kp hm48 (by omega)) (by omega))) hT55 (hW9.mv (fun z hz => hF55 _ _ (by omega))) (st_get_ok ho) (by omega)) K0 hOK hml hl.1 e_MM_apply hX hS d_MM_get_96 (Nat.le_of_ble_eq_true rfl) (Nat.le_of_ble_eq_true rfl) (Nat.le_of_ble_eq_true rfl) (Nat.le_of_ble_eq_true rfl) (Nat.le_of_ble_eq_true rfl) (fun wf56 H locs ⟨hT56, hF56⟩ hX hS => ?_)
      refine W.eq (g2 := F0 m 99 ls []) rfl ?_
      rw [st_get_aw] at hT56
      obtain ⟨vf56, hf56, t54_56, t55_56, ht56⟩ := hT56
      refine lv_aload_n hx hb d_MM_get_99 rfl (lv_at hl 1 rfl) ?_
      refine lv_aload_n hx hb d_MM_get_100 rfl (lv_at hl 1 rfl) ?_
      refine mh_get K0 hX ((hF56 50 0 (by omega)).trans ((hF55 50 0 (by omega)).trans (mh_kp (mh_kp hm48 (by omega)) (by omega)))) f_MM_26 rfl d_MM_get_101 ?_
      refine lv_iload_n hx hb d_MM_get_104 rfl (lv_at hl 3 rfl) ?_
      refine mh_zaldN K0 hX t55_56 (by omega) (by omega) d_MM_get_105 ?_
      refine mh_ti (y := mh_b ((st_vw (sg_lg g) x key).isSome)) ((ht56 key hk).1) ?_
      refine mh_ifneB (tgt := 113) hx hb d_MM_get_106 (by decide) (fun z => absurd z (by rw [hv]; simp)) (fun _ => ?_)
      refine lv_iconst (v := nI 1) hx hb d_MM_get_109 (by decide) ?_
      refine lv_goto (tgt := 114) hx hb d_MM_get_110 (by decide) ?_
      refine lv_iconst (v := nI 3) hx hb d_MM_get_114 (by decide) ?_
      refine mh_callV (mh_sV (rest := []) (av := [.int (nI 1), .int (nI 3)]) K0 hX ((hF56 50 0 (by omega)).trans ((hF55 50 0 (by omega)).trans (mh_kp (mh_kp hm48 (by omega)) (by omega)))) rfl e_MM_fails l_MM_57 k748 kp15 rfl rfl d_MM_get_115) (c_MM_fails1 ((hF56 50 0 (by omega)).trans ((hF55 50 0 (by omega)).trans (mh_kp (mh_kp hm48 (by omega)) (by omega))))) K0 hOK hml hl.1 e_MM_fails hX hS d_MM_get_115 (Nat.le_of_ble_eq_true rfl) (Nat.le_of_ble_eq_true rfl) (Nat.le_of_ble_eq_true rfl) (Nat.le_of_ble_eq_true rfl) (Nat.le_of_ble_eq_true rfl) (fun wf57 H locs ⟨hm57, hF57⟩ hX hS => ?_)
      refine W.eq (g2 := F0 m 118 ls [.int (nI 1)]) rfl ?_
      refine mh_if_eq (tgt := 125) hx hb (by omega) d_MM_get_118 (by decide) (fun z => absurd z (by omega)) (fun _ => ?_)
      refine lv_lconst (v := 0) hx hb d_MM_get_121 rfl ?_
      refine lv_goto (tgt := 131) hx hb d_MM_get_122 (by decide) ?_
      exact mh_lret K0 hr hlocks hX hS (⟨rfl, ⟨aG, aO, aA, aV, aH, lg, op, at_, hQ.tx (x := (st_get x key)) (fun k i h0 h1 h2 h3 h4 => by rw [hF57 _ _ (by omega), hF56 _ _ (by omega), hF55 _ _ (by omega), mh_set_ne _ _ _ _ (by omega), mh_set_ne _ _ _ _ (by omega), hF48 _ _ (by omega), hF47 _ _ (by omega)]) hm57 ⟨_, ((hF57 54 0 (by omega)).trans t54_56)⟩ ⟨_, ((hF57 55 0 (by omega)).trans t55_56)⟩ ha (hW9.mv (fun z hz => by rw [hF57 _ _ (by omega), hF56 _ _ (by omega), hF55 _ _ (by omega)])) (st_get_ok ho9) (fun x2 hx2 => by cases hx2; rfl)⟩, fun k i h => by rw [hF57 _ _ (by omega), hF56 _ _ (by omega), hF55 _ _ (by omega), mh_set_ne _ _ _ _ (by omega), mh_set_ne _ _ _ _ (by omega), hF48 _ _ (by omega), hF47 _ _ (by omega)]⟩) (Nat.le_of_ble_eq_true rfl) (Nat.le_of_ble_eq_true rfl) d_MM_get_131
set_option maxHeartbeats 4000000 in
set_option maxRecDepth 100000 in
theorem c_MM_write_0 {l : Launch} {b : Nat} {dC : Nat → ClassId} {dI : Nat → Nat → Nat} {dA : Nat → ClassId} {zs : Nat → Nat} {w : mh_w} {m0 : Nat} {er : Int32} {g : st_G} (hR : rM dA w m0 er g) (hG : sg_ok g) {t : Nat} (ht : t < 16) {key : Nat} (hk : key < 256) {x : st_I} (hd : sg_dr g t = some x) {v : Option Int64} {z9 : Int64} (hu : ∀ z, v = some z → z9 = z) (h8 : (st_pl (iv_wk x) key (iv_nw x)) < 8) : mh_Met l b dC dI dA zs y_MM_write (mh_rm 4 10 500) [.ref m0, .int (nI t), .int (nI key), .long z9, .int (mh_b (!v.isSome))] w (mh_V (some (.int (nI (iv_nw (st_wr x key v))))) (fun w' => rM dA w' m0 (nI 0) (g.1, g.2.1, va_up (sg_dr g) t (some (st_wr x key v)), g.2.2.2) ∧ mh_D w w')) := by
  obtain ⟨aG, aO, aA, aV, aH, lg, op, at_, hQ⟩ := hR
  have hQ2 := hQ
  obtain ⟨r50, r51, r52, r53, ⟨vf, r54⟩, ⟨hf, r55⟩, ra, ro, rl⟩ := hQ2
  have hG2 := hG
  obtain ⟨gn, grs, gat, glo, gdr⟩ := hG2
  refine mh_ofW (cc := b_MM_write) (n := 8) (ret := (some .int)) (hs := []) (by decide) k781 ?_
  intro p e s m below meth c hx hb hr hml hown hts hlocks hnm hT hOK hadm
  have K0 : mh_K0 p s m ([.ref m0, .int (nI t), .int (nI key), .long z9, .int (mh_b (!v.isSome))]).toArray c "MeldHostModel" b_MM_write dC dI dA := ⟨hx, hb, hown, hts, hOK.1, hOK.2.1⟩
  have hX := hOK.2.2.2.2
  have hb0 := hOK.2.2.2.1
  have hS : va_S (mh_A b) s.heap s.heap [] := va_S.rf
  have hl := lv_entry ([.ref m0, .int (nI t), .int (nI key), .long z9, .int (mh_b (!v.isSome))]) (n := 8) (Nat.le_of_ble_eq_true rfl)
  rw [lg_entry_eq]
  generalize (lg_sl ([.ref m0, .int (nI t), .int (nI key), .long z9, .int (mh_b (!v.isSome))]) ++ List.replicate (8 - (lg_sl ([.ref m0, .int (nI t), .int (nI key), .long z9, .int (mh_b (!v.isSome))])).length) Slot.unset).toArray = ls at hl ⊢
  have hl : lv_has ls 8 [(0, .ref m0), (1, .int (nI t)), (2, .int (nI key)), (3, .long z9), (5, .int (mh_b (!v.isSome)))] := hl
  obtain ⟨a, x9, ha, hW0, ho9, hx9⟩ := ro t ht
  have ex := hx9 x hd
  subst ex
  have hW : rW dA w 56 t a x true := by rw [hd] at hW0; exact hW0
  have ho := gdr t x ht hd
  have ho2 := ho
  obtain ⟨o1, o2, o3, o4, o5, o6, o7, o8⟩ := ho2
  have hWc := hW
  obtain ⟨a1, a2, a3, a4, a5, a6, rdf, lo, hi, wk, no, nn, i0, i1, i2, i3, i4, i5, i6, hrd, hlo, hwk⟩ := hWc
  have hple := st_pl_le (iv_wk x) key (iv_nw x)
  refine lv_aload_n hx hb d_MM_write_0 rfl (lv_at hl 0 rfl) ?_
  refine lv_iload_n hx hb d_MM_write_1 rfl (lv_at hl 1 rfl) ?_
  refine lv_bipush (v := nI 16) hx hb d_MM_write_2 (by decide) ?_
  refine mh_callR (mh_sS (rest := [.ref m0]) (av := [.int (nI t), .int (nI 16)]) K0 e_MM_in l_MM_53 k744 rfl rfl d_MM_write_4) (c_MM_in) K0 hOK hml hl.1 e_MM_in hX hS d_MM_write_4 (Nat.le_of_ble_eq_true rfl) (Nat.le_of_ble_eq_true rfl) (Nat.le_of_ble_eq_true rfl) (Nat.le_of_ble_eq_true rfl) (Nat.le_of_ble_eq_true rfl) (fun H locs hX hS => ?_)
  refine W.eq (g2 := F0 m 7 ls [.int (mh_b (st_in (nI t) 16)), .ref m0]) rfl ?_
  refine mh_ifeqB (tgt := 20) hx hb d_MM_write_7 (by decide) (fun z => absurd z (by rw [st_in_nI ht (by decide)]; decide)) (fun _ => ?_)
  refine lv_iload_n hx hb d_MM_write_10 rfl (lv_at hl 2 rfl) ?_
  refine lv_sipush (v := nI 256) hx hb d_MM_write_11 (by decide) ?_
  refine mh_callR (mh_sS (rest := [.ref m0]) (av := [.int (nI key), .int (nI 256)]) K0 e_MM_in l_MM_53 k744 rfl rfl d_MM_write_14) (c_MM_in) K0 hOK hml hl.1 e_MM_in hX hS d_MM_write_14 (Nat.le_of_ble_eq_true rfl) (Nat.le_of_ble_eq_true rfl) (Nat.le_of_ble_eq_true rfl) (Nat.le_of_ble_eq_true rfl) (Nat.le_of_ble_eq_true rfl) (fun H locs hX hS => ?_)
  refine W.eq (g2 := F0 m 17 ls [.int (mh_b (st_in (nI key) 256)), .ref m0]) rfl ?_
  refine mh_ifneB (tgt := 24) hx hb d_MM_write_17 (by decide) (fun _ => ?_) (fun z => absurd z (by rw [st_in_nI hk (by decide)]; decide))
  refine lv_iconst (v := nI 0) hx hb d_MM_write_24 (by decide) ?_
  refine lv_iconst (v := nI 1) hx hb d_MM_write_25 (by decide) ?_
  refine mh_callV (mh_sV (rest := []) (av := [.int (nI 0), .int (nI 1)]) K0 hX r50 rfl e_MM_fails l_MM_57 k748 kp15 rfl rfl d_MM_write_26) (c_MM_fails0 r50) K0 hOK hml hl.1 e_MM_fails hX hS d_MM_write_26 (Nat.le_of_ble_eq_true rfl) (Nat.le_of_ble_eq_true rfl) (Nat.le_of_ble_eq_true rfl) (Nat.le_of_ble_eq_true rfl) (Nat.le_of_ble_eq_true rfl) (fun wf58 H locs ⟨hm58, hF58⟩ hX hS => ?_)
  refine W.eq (g2 := F0 m 29 ls [.int (nI 0)]) rfl ?_
  refine mh_if_eq (tgt := 34) hx hb (by omega) d_MM_write_29 (by decide) (fun _ => ?_) (fun z => absurd z (by omega))
  refine lv_aload_n hx hb d_MM_write_34 rfl (lv_at hl 0 rfl) ?_
  refine lv_iload_n hx hb d_MM_write_35 rfl (lv_at hl 1 rfl) ?_
  refine lv_iconst (v := nI 2) hx hb d_MM_write_36 (by decide) ?_
  refine mh_callV (mh_sV (rest := []) (av := [.int (nI t), .int (nI 2)]) K0 hX hm58 rfl e_MM_shut l_MM_75 k760 kp16 rfl rfl d_MM_write_37) (c_MM_shut0 (x := x) hm58 ((hF58 52 0 (by omega)).trans r52) ht ha (hW.mv (fun z hz => by rw [hF58 _ _ (by omega)]))) K0 hOK hml hl.1 e_MM_shut hX hS d_MM_write_37 (Nat.le_of_ble_eq_true rfl) (Nat.le_of_ble_eq_true rfl) (Nat.le_of_ble_eq_true rfl) (Nat.le_of_ble_eq_true rfl) (Nat.le_of_ble_eq_true rfl) (fun wf59 H locs ⟨hm59, hF59⟩ hX hS => ?_)
  refine W.eq (g2 := F0 m 40 ls [.int (nI 0)]) rfl ?_
  refine mh_if_eq (tgt := 45) hx hb (by omega) d_MM_write_40 (by decide) (fun _ => ?_) (fun z => absurd z (by omega))
  refine lv_aload_n hx hb d_MM_write_45 rfl (lv_at hl 0 rfl) ?_
  refine mh_get K0 hX hm59 f_MM_15 rfl d_MM_write_46 ?_
  refine lv_iload_n hx hb d_MM_write_49 rfl (lv_at hl 1 rfl) ?_
  refine mh_aaldN 7 rfl K0 hX ((hF59 52 0 (by omega)).trans ((hF58 52 0 (by omega)).trans r52)) (by omega) (by omega) (r := (some a)) (ha) d_MM_write_50 ?_
  refine W.eq (g2 := F0 m 51 ls [.ref a]) rfl ?_
  refine lv_astore (lv' := [(6, .ref a), (0, .ref m0), (1, .int (nI t)), (2, .int (nI key)), (3, .long z9), (5, .int (mh_b (!v.isSome)))]) hx hb d_MM_write_51 hl (by decide) rfl (fun ls hl => ?_)
  refine lv_aload hx hb d_MM_write_53 (lv_at hl 0 rfl) ?_
  refine lv_iload_n hx hb d_MM_write_55 rfl (lv_at hl 3 rfl) ?_
  by_cases hp : (st_pl (iv_wk x) key (iv_nw x)) < iv_nw x
  · skip
    refine mh_callR (mh_sV (rest := []) (av := [.int (nI key)]) K0 hX ((hF59 56 t (by omega)).trans ((hF58 56 t (by omega)).trans i0)) rfl e_WK_written l_MM_78 k763 k764 rfl rfl d_MM_write_56) (c_WK_written_y (hW.mv (fun z hz => by rw [hF59 _ _ (by omega), hF58 _ _ (by omega)])) ho hk hp) K0 hOK hml hl.1 e_WK_written hX hS d_MM_write_56 (Nat.le_of_ble_eq_true rfl) (Nat.le_of_ble_eq_true rfl) (Nat.le_of_ble_eq_true rfl) (Nat.le_of_ble_eq_true rfl) (Nat.le_of_ble_eq_true rfl) (fun H locs hX hS => ?_)
    refine W.eq (g2 := F0 m 59 ls [.int (nI (st_pl (iv_wk x) key (iv_nw x)))]) rfl ?_
    refine lv_istore (lv' := [(7, .int (nI (st_pl (iv_wk x) key (iv_nw x)))), (6, .ref a), (0, .ref m0), (1, .int (nI t)), (2, .int (nI key)), (3, .long z9), (5, .int (mh_b (!v.isSome)))]) hx hb d_MM_write_59 hl (by decide) rfl (fun ls hl => ?_)
    refine lv_aload_n hx hb d_MM_write_61 rfl (lv_at hl 2 rfl) ?_
    refine lv_iload hx hb d_MM_write_62 (lv_at hl 0 rfl) ?_
    refine mh_if_ge (tgt := 81) hx hb (by omega) d_MM_write_64 (by decide) (fun _ => ?_) (fun z => absurd z (by omega))
    refine lv_iconst (v := nI 0) hx hb d_MM_write_81 (by decide) ?_
    refine lv_iconst (v := nI 3) hx hb d_MM_write_82 (by decide) ?_
    refine mh_callV (mh_sV (rest := []) (av := [.int (nI 0), .int (nI 3)]) K0 hX hm59 rfl e_MM_fails l_MM_57 k748 kp15 rfl rfl d_MM_write_83) (c_MM_fails0 hm59) K0 hOK hml hl.1 e_MM_fails hX hS d_MM_write_83 (Nat.le_of_ble_eq_true rfl) (Nat.le_of_ble_eq_true rfl) (Nat.le_of_ble_eq_true rfl) (Nat.le_of_ble_eq_true rfl) (Nat.le_of_ble_eq_true rfl) (fun wf60 H locs ⟨hm60, hF60⟩ hX hS => ?_)
    refine W.eq (g2 := F0 m 86 ls [.int (nI 0)]) rfl ?_
    refine mh_if_eq (tgt := 91) hx hb (by omega) d_MM_write_86 (by decide) (fun _ => ?_) (fun z => absurd z (by omega))
    refine lv_iload hx hb d_MM_write_91 (lv_at hl 0 rfl) ?_
    refine mh_if_ge (tgt := 110) hx hb (by omega) d_MM_write_93 (by decide) (fun _ => ?_) (fun z => absurd z (by omega))
    have hnw : iv_nw (st_wr x key v) = iv_nw x := st_wr_nw1 hp
    refine lv_aload hx hb d_MM_write_110 (lv_at hl 1 rfl) ?_
    refine mh_get K0 hX ((hF60 56 t (by omega)).trans ((hF59 56 t (by omega)).trans ((hF58 56 t (by omega)).trans i0))) f_MM_46 rfl d_MM_write_112 ?_
    refine lv_iload hx hb d_MM_write_115 (lv_at hl 0 rfl) ?_
    refine lv_iload_n hx hb d_MM_write_117 rfl (lv_at hl 4 rfl) ?_
    refine mh_iastN K0 hX hS ((hF60 60 t (by omega)).trans ((hF59 60 t (by omega)).trans ((hF58 60 t (by omega)).trans i4))) (by omega) (by omega) d_MM_write_118 (fun H locs hX hS => ?_)
    have fs112 := mh_self hX
    refine lv_aload hx hb d_MM_write_119 (lv_at hl 1 rfl) ?_
    refine mh_get K0 hX (mh_kp ((hF60 56 t (by omega)).trans ((hF59 56 t (by omega)).trans ((hF58 56 t (by omega)).trans i0))) (by omega)) f_MM_49 rfl d_MM_write_121 ?_
    refine lv_iload hx hb d_MM_write_124 (lv_at hl 0 rfl) ?_
    refine lv_lload_n hx hb d_MM_write_126 rfl (lv_at hl 5 rfl) ?_
    refine mh_lastN K0 hX hS (mh_kp ((hF60 61 t (by omega)).trans ((hF59 61 t (by omega)).trans ((hF58 61 t (by omega)).trans i5))) (by omega)) (by omega) (by omega) d_MM_write_127 (fun H locs hX hS => ?_)
    have fs113 := mh_self hX
    refine lv_aload hx hb d_MM_write_128 (lv_at hl 1 rfl) ?_
    refine mh_get K0 hX (mh_kp (mh_kp ((hF60 56 t (by omega)).trans ((hF59 56 t (by omega)).trans ((hF58 56 t (by omega)).trans i0))) (by omega)) (by omega)) f_MM_50 rfl d_MM_write_130 ?_
    refine lv_iload hx hb d_MM_write_133 (lv_at hl 0 rfl) ?_
    refine lv_iload hx hb d_MM_write_135 (lv_at hl 6 rfl) ?_
    refine mh_zastN K0 hX hS (mh_kp (mh_kp ((hF60 62 t (by omega)).trans ((hF59 62 t (by omega)).trans ((hF58 62 t (by omega)).trans i6))) (by omega)) (by omega)) (mh_b_vn _) (by omega) (by omega) d_MM_write_137 (fun H locs hX hS => ?_)
    have fs114 := mh_self hX
    refine lv_aload hx hb d_MM_write_138 (lv_at hl 1 rfl) ?_
    refine mh_get K0 hX (mh_kp (mh_kp (mh_kp ((hF60 56 t (by omega)).trans ((hF59 56 t (by omega)).trans ((hF58 56 t (by omega)).trans i0))) (by omega)) (by omega)) (by omega)) f_MM_43 rfl d_MM_write_140 ?_
    refine mh_iret K0 hr rfl hlocks hX hS (⟨by rw [hnw], ⟨aG, aO, aA, aV, aH, lg, op, at_, hQ.tx (x := (st_wr x key v)) (fun k i h0 h1 h2 h3 h4 => by rw [mh_set_ne _ _ _ _ (by omega), mh_set_ne _ _ _ _ (by omega), mh_set_ne _ _ _ _ (by omega), hF60 _ _ (by omega), hF59 _ _ (by omega), hF58 _ _ (by omega)]) (mh_kp (mh_kp (mh_kp hm60 (by omega)) (by omega)) (by omega)) ⟨_, (mh_kp (mh_kp (mh_kp ((hF60 54 0 (by omega)).trans ((hF59 54 0 (by omega)).trans ((hF58 54 0 (by omega)).trans r54))) (by omega)) (by omega)) (by omega))⟩ ⟨_, (mh_kp (mh_kp (mh_kp ((hF60 55 0 (by omega)).trans ((hF59 55 0 (by omega)).trans ((hF58 55 0 (by omega)).trans r55))) (by omega)) (by omega)) (by omega))⟩ ha (⟨a1, a2, a3, a4, a5, a6, rdf, lo, hi, _, _, _, by rw [hnw]; exact (mh_kp (mh_kp (mh_kp ((hF60 56 t (by omega)).trans ((hF59 56 t (by omega)).trans ((hF58 56 t (by omega)).trans i0))) (by omega)) (by omega)) (by omega)), (mh_kp (mh_kp (mh_kp ((hF60 57 t (by omega)).trans ((hF59 57 t (by omega)).trans ((hF58 57 t (by omega)).trans i1))) (by omega)) (by omega)) (by omega)), (mh_kp (mh_kp (mh_kp ((hF60 58 t (by omega)).trans ((hF59 58 t (by omega)).trans ((hF58 58 t (by omega)).trans i2))) (by omega)) (by omega)) (by omega)), (mh_kp (mh_kp (mh_kp ((hF60 59 t (by omega)).trans ((hF59 59 t (by omega)).trans ((hF58 59 t (by omega)).trans i3))) (by omega)) (by omega)) (by omega)), (mh_kp (mh_kp fs112 (by omega)) (by omega)), (mh_kp fs113 (by omega)), fs114, hrd, hlo, fun j hj => ?_⟩) (st_wr_ok ho9 hk h8) (fun x2 hx2 => by cases hx2; rfl)⟩, fun k i h => by rw [mh_set_ne _ _ _ _ (by omega), mh_set_ne _ _ _ _ (by omega), mh_set_ne _ _ _ _ (by omega), hF60 _ _ (by omega), hF59 _ _ (by omega), hF58 _ _ (by omega)]⟩) (Nat.le_of_ble_eq_true rfl) (Nat.le_of_ble_eq_true rfl) d_MM_write_143
    rw [hnw] at hj
    show upd wk (st_pl (iv_wk x) key (iv_nw x)) (nI key) j = nI (va_up (iv_wk x) (st_pl (iv_wk x) key (iv_nw x)) key j) ∧ upd no (st_pl (iv_wk x) key (iv_nw x)) (mh_b (!v.isSome)) j = mh_b (!(va_up (iv_wv x) (st_pl (iv_wk x) key (iv_nw x)) v j).isSome) ∧ ∀ z, va_up (iv_wv x) (st_pl (iv_wk x) key (iv_nw x)) v j = some z → vp_updL nn (st_pl (iv_wk x) key (iv_nw x)) z9 j = z
    by_cases e9 : j = (st_pl (iv_wk x) key (iv_nw x))
    · rw [e9, pk_us, pk_us, pk_uLs, va_up_self, va_up_self]; exact ⟨rfl, rfl, hu⟩
    · rw [pk_un e9, pk_un e9, pk_uLn e9, va_up_ne _ _ e9, va_up_ne _ _ e9]; exact hwk j (by omega)
  · skip
    refine mh_callR (mh_sV (rest := []) (av := [.int (nI key)]) K0 hX ((hF59 56 t (by omega)).trans ((hF58 56 t (by omega)).trans i0)) rfl e_WK_written l_MM_78 k763 k764 rfl rfl d_MM_write_56) (c_WK_written_n (hW.mv (fun z hz => by rw [hF59 _ _ (by omega), hF58 _ _ (by omega)])) ho hk hp) K0 hOK hml hl.1 e_WK_written hX hS d_MM_write_56 (Nat.le_of_ble_eq_true rfl) (Nat.le_of_ble_eq_true rfl) (Nat.le_of_ble_eq_true rfl) (Nat.le_of_ble_eq_true rfl) (Nat.le_of_ble_eq_true rfl) (fun H locs hX hS => ?_)
    refine W.eq (g2 := F0 m 59 ls [.int (-1)]) rfl ?_
    refine lv_istore (lv' := [(7, .int (-1)), (6, .ref a), (0, .ref m0), (1, .int (nI t)), (2, .int (nI key)), (3, .long z9), (5, .int (mh_b (!v.isSome)))]) hx hb d_MM_write_59 hl (by decide) rfl (fun ls hl => ?_)
    refine lv_aload_n hx hb d_MM_write_61 rfl (lv_at hl 2 rfl) ?_
    refine lv_iload hx hb d_MM_write_62 (lv_at hl 0 rfl) ?_
    refine lv_if_ge (tgt := 81) hx hb d_MM_write_64 (by decide) (fun z => absurd z (by decide)) (fun _ => ?_)
    refine lv_aload hx hb d_MM_write_67 (lv_at hl 1 rfl) ?_
    refine mh_get K0 hX ((hF59 56 t (by omega)).trans ((hF58 56 t (by omega)).trans i0)) f_MM_43 rfl d_MM_write_69 ?_
    refine lv_bipush (v := nI 8) hx hb d_MM_write_72 (by decide) ?_
    refine mh_icmp_ne (tgt := 81) hx hb (by omega) (by omega) d_MM_write_74 (by decide) (fun _ => ?_) (fun z => absurd z (by omega))
    refine lv_iconst (v := nI 0) hx hb d_MM_write_81 (by decide) ?_
    refine lv_iconst (v := nI 3) hx hb d_MM_write_82 (by decide) ?_
    refine mh_callV (mh_sV (rest := []) (av := [.int (nI 0), .int (nI 3)]) K0 hX hm59 rfl e_MM_fails l_MM_57 k748 kp15 rfl rfl d_MM_write_83) (c_MM_fails0 hm59) K0 hOK hml hl.1 e_MM_fails hX hS d_MM_write_83 (Nat.le_of_ble_eq_true rfl) (Nat.le_of_ble_eq_true rfl) (Nat.le_of_ble_eq_true rfl) (Nat.le_of_ble_eq_true rfl) (Nat.le_of_ble_eq_true rfl) (fun wf61 H locs ⟨hm61, hF61⟩ hX hS => ?_)
    refine W.eq (g2 := F0 m 86 ls [.int (nI 0)]) rfl ?_
    refine mh_if_eq (tgt := 91) hx hb (by omega) d_MM_write_86 (by decide) (fun _ => ?_) (fun z => absurd z (by omega))
    refine lv_iload hx hb d_MM_write_91 (lv_at hl 0 rfl) ?_
    refine lv_if_ge (tgt := 110) hx hb d_MM_write_93 (by decide) (fun z => absurd z (by decide)) (fun _ => ?_)
    refine lv_aload hx hb d_MM_write_96 (lv_at hl 1 rfl) ?_
    refine lv_dup hx hb d_MM_write_98 rfl ?_
    refine mh_get K0 hX ((hF61 56 t (by omega)).trans ((hF59 56 t (by omega)).trans ((hF58 56 t (by omega)).trans i0))) f_MM_43 rfl d_MM_write_99 ?_
    refine lv_dup_x1 hx hb d_MM_write_102 rfl rfl ?_
    refine lv_iconst (v := nI 1) hx hb d_MM_write_103 (by decide) ?_
    refine mh_addN hx hb d_MM_write_104 ?_
    refine mh_put K0 hX hS ((hF61 56 t (by omega)).trans ((hF59 56 t (by omega)).trans ((hF58 56 t (by omega)).trans i0))) f_MM_43 p_6_4 rfl rfl (Nat.le_of_ble_eq_true rfl) d_MM_write_105 (fun H locs hX hS => ?_)
    have hX : mh_P (dC, dI) b (mh_set _ 56 t (some (a, .inr (6, [.int (nI (iv_sn x)), .int (nI (iv_lv x)), .int (nI (iv_sv x)), .int (nI (iv_np x)), .int (nI ((iv_nw x) + 1)), .int (nI (pb_cnt (iv_rd x) 256)), .int (mh_b true), .int (mh_b (iv_gd x)), .ref a1, .ref a2, .ref a3, .ref a4, .ref a5, .ref a6])))) H := hX
    have fs115 := mh_self hX
    have epl : iv_nw x = (st_pl (iv_wk x) key (iv_nw x)) := by omega
    refine mh_ti (y := nI (st_pl (iv_wk x) key (iv_nw x))) (by rw [← epl]) ?_
    have hnw : iv_nw (st_wr x key v) = iv_nw x + 1 := st_wr_nw2 hp
    refine lv_istore (lv' := [(7, .int (nI (st_pl (iv_wk x) key (iv_nw x)))), (6, .ref a), (0, .ref m0), (1, .int (nI t)), (2, .int (nI key)), (3, .long z9), (5, .int (mh_b (!v.isSome)))]) hx hb d_MM_write_108 hl (by decide) rfl (fun ls hl => ?_)
    refine lv_aload hx hb d_MM_write_110 (lv_at hl 1 rfl) ?_
    refine mh_get K0 hX fs115 f_MM_46 rfl d_MM_write_112 ?_
    refine lv_iload hx hb d_MM_write_115 (lv_at hl 0 rfl) ?_
    refine lv_iload_n hx hb d_MM_write_117 rfl (lv_at hl 4 rfl) ?_
    refine mh_iastN K0 hX hS (mh_kp ((hF61 60 t (by omega)).trans ((hF59 60 t (by omega)).trans ((hF58 60 t (by omega)).trans i4))) (by omega)) (by omega) (by omega) d_MM_write_118 (fun H locs hX hS => ?_)
    have fs116 := mh_self hX
    refine lv_aload hx hb d_MM_write_119 (lv_at hl 1 rfl) ?_
    refine mh_get K0 hX (mh_kp fs115 (by omega)) f_MM_49 rfl d_MM_write_121 ?_
    refine lv_iload hx hb d_MM_write_124 (lv_at hl 0 rfl) ?_
    refine lv_lload_n hx hb d_MM_write_126 rfl (lv_at hl 5 rfl) ?_
    refine mh_lastN K0 hX hS (mh_kp (mh_kp ((hF61 61 t (by omega)).trans ((hF59 61 t (by omega)).trans ((hF58 61 t (by omega)).trans i5))) (by omega)) (by omega)) (by omega) (by omega) d_MM_write_127 (fun H locs hX hS => ?_)
    have fs117 := mh_self hX
    refine lv_aload hx hb d_MM_write_128 (lv_at hl 1 rfl) ?_
    refine mh_get K0 hX (mh_kp (mh_kp fs115 (by omega)) (by omega)) f_MM_50 rfl d_MM_write_130 ?_
    refine lv_iload hx hb d_MM_write_133 (lv_at hl 0 rfl) ?_
    refine lv_iload hx hb d_MM_write_135 (lv_at hl 6 rfl) ?_
    refine mh_zastN K0 hX hS (mh_kp (mh_kp (mh_kp ((hF61 62 t (by omega)).trans ((hF59 62 t (by omega)).trans ((hF58 62 t (by omega)).trans i6))) (by omega)) (by omega)) (by omega)) (mh_b_vn _) (by omega) (by omega) d_MM_write_137 (fun H locs hX hS => ?_)
    have fs118 := mh_self hX
    refine lv_aload hx hb d_MM_write_138 (lv_at hl 1 rfl) ?_
    refine mh_get K0 hX (mh_kp (mh_kp (mh_kp fs115 (by omega)) (by omega)) (by omega)) f_MM_43 rfl d_MM_write_140 ?_
    refine mh_iret K0 hr rfl hlocks hX hS (⟨by rw [hnw], ⟨aG, aO, aA, aV, aH, lg, op, at_, hQ.tx (x := (st_wr x key v)) (fun k i h0 h1 h2 h3 h4 => by rw [mh_set_ne _ _ _ _ (by omega), mh_set_ne _ _ _ _ (by omega), mh_set_ne _ _ _ _ (by omega), mh_set_ne _ _ _ _ (by omega), hF61 _ _ (by omega), hF59 _ _ (by omega), hF58 _ _ (by omega)]) (mh_kp (mh_kp (mh_kp (mh_kp hm61 (by omega)) (by omega)) (by omega)) (by omega)) ⟨_, (mh_kp (mh_kp (mh_kp (mh_kp ((hF61 54 0 (by omega)).trans ((hF59 54 0 (by omega)).trans ((hF58 54 0 (by omega)).trans r54))) (by omega)) (by omega)) (by omega)) (by omega))⟩ ⟨_, (mh_kp (mh_kp (mh_kp (mh_kp ((hF61 55 0 (by omega)).trans ((hF59 55 0 (by omega)).trans ((hF58 55 0 (by omega)).trans r55))) (by omega)) (by omega)) (by omega)) (by omega))⟩ ha (⟨a1, a2, a3, a4, a5, a6, rdf, lo, hi, _, _, _, by rw [hnw]; exact (mh_kp (mh_kp (mh_kp fs115 (by omega)) (by omega)) (by omega)), (mh_kp (mh_kp (mh_kp (mh_kp ((hF61 57 t (by omega)).trans ((hF59 57 t (by omega)).trans ((hF58 57 t (by omega)).trans i1))) (by omega)) (by omega)) (by omega)) (by omega)), (mh_kp (mh_kp (mh_kp (mh_kp ((hF61 58 t (by omega)).trans ((hF59 58 t (by omega)).trans ((hF58 58 t (by omega)).trans i2))) (by omega)) (by omega)) (by omega)) (by omega)), (mh_kp (mh_kp (mh_kp (mh_kp ((hF61 59 t (by omega)).trans ((hF59 59 t (by omega)).trans ((hF58 59 t (by omega)).trans i3))) (by omega)) (by omega)) (by omega)) (by omega)), (mh_kp (mh_kp fs116 (by omega)) (by omega)), (mh_kp fs117 (by omega)), fs118, hrd, hlo, fun j hj => ?_⟩) (st_wr_ok ho9 hk h8) (fun x2 hx2 => by cases hx2; rfl)⟩, fun k i h => by rw [mh_set_ne _ _ _ _ (by omega), mh_set_ne _ _ _ _ (by omega), mh_set_ne _ _ _ _ (by omega), mh_set_ne _ _ _ _ (by omega), hF61 _ _ (by omega), hF59 _ _ (by omega), hF58 _ _ (by omega)]⟩) (Nat.le_of_ble_eq_true rfl) (Nat.le_of_ble_eq_true rfl) d_MM_write_143
    rw [hnw] at hj
    show upd wk (st_pl (iv_wk x) key (iv_nw x)) (nI key) j = nI (va_up (iv_wk x) (st_pl (iv_wk x) key (iv_nw x)) key j) ∧ upd no (st_pl (iv_wk x) key (iv_nw x)) (mh_b (!v.isSome)) j = mh_b (!(va_up (iv_wv x) (st_pl (iv_wk x) key (iv_nw x)) v j).isSome) ∧ ∀ z, va_up (iv_wv x) (st_pl (iv_wk x) key (iv_nw x)) v j = some z → vp_updL nn (st_pl (iv_wk x) key (iv_nw x)) z9 j = z
    by_cases e9 : j = (st_pl (iv_wk x) key (iv_nw x))
    · rw [e9, pk_us, pk_us, pk_uLs, va_up_self, va_up_self]; exact ⟨rfl, rfl, hu⟩
    · rw [pk_un e9, pk_un e9, pk_uLn e9, va_up_ne _ _ e9, va_up_ne _ _ e9]; exact hwk j (by omega)
set_option maxHeartbeats 4000000 in
set_option maxRecDepth 100000 in
theorem c_MM_write_3 {l : Launch} {b : Nat} {dC : Nat → ClassId} {dI : Nat → Nat → Nat} {dA : Nat → ClassId} {zs : Nat → Nat} {w : mh_w} {m0 : Nat} {er : Int32} {g : st_G} (hR : rM dA w m0 er g) (hG : sg_ok g) {t : Nat} (ht : t < 16) {key : Nat} (hk : key < 256) {x : st_I} (hd : sg_dr g t = some x) {v : Option Int64} {z9 : Int64} (hu : ∀ z, v = some z → z9 = z) (h8 : ¬ (st_pl (iv_wk x) key (iv_nw x)) < 8) : mh_Met l b dC dI dA zs y_MM_write (mh_rm 4 10 500) [.ref m0, .int (nI t), .int (nI key), .long z9, .int (mh_b (!v.isSome))] w (mh_V (some (.int (nI 0))) (fun w' => rM dA w' m0 (nI 3) g ∧ mh_D w w')) := by
  obtain ⟨aG, aO, aA, aV, aH, lg, op, at_, hQ⟩ := hR
  have hQ2 := hQ
  obtain ⟨r50, r51, r52, r53, ⟨vf, r54⟩, ⟨hf, r55⟩, ra, ro, rl⟩ := hQ2
  have hG2 := hG
  obtain ⟨gn, grs, gat, glo, gdr⟩ := hG2
  refine mh_ofW (cc := b_MM_write) (n := 8) (ret := (some .int)) (hs := []) (by decide) k781 ?_
  intro p e s m below meth c hx hb hr hml hown hts hlocks hnm hT hOK hadm
  have K0 : mh_K0 p s m ([.ref m0, .int (nI t), .int (nI key), .long z9, .int (mh_b (!v.isSome))]).toArray c "MeldHostModel" b_MM_write dC dI dA := ⟨hx, hb, hown, hts, hOK.1, hOK.2.1⟩
  have hX := hOK.2.2.2.2
  have hb0 := hOK.2.2.2.1
  have hS : va_S (mh_A b) s.heap s.heap [] := va_S.rf
  have hl := lv_entry ([.ref m0, .int (nI t), .int (nI key), .long z9, .int (mh_b (!v.isSome))]) (n := 8) (Nat.le_of_ble_eq_true rfl)
  rw [lg_entry_eq]
  generalize (lg_sl ([.ref m0, .int (nI t), .int (nI key), .long z9, .int (mh_b (!v.isSome))]) ++ List.replicate (8 - (lg_sl ([.ref m0, .int (nI t), .int (nI key), .long z9, .int (mh_b (!v.isSome))])).length) Slot.unset).toArray = ls at hl ⊢
  have hl : lv_has ls 8 [(0, .ref m0), (1, .int (nI t)), (2, .int (nI key)), (3, .long z9), (5, .int (mh_b (!v.isSome)))] := hl
  obtain ⟨a, x9, ha, hW0, ho9, hx9⟩ := ro t ht
  have ex := hx9 x hd
  subst ex
  have hW : rW dA w 56 t a x true := by rw [hd] at hW0; exact hW0
  have ho := gdr t x ht hd
  have ho2 := ho
  obtain ⟨o1, o2, o3, o4, o5, o6, o7, o8⟩ := ho2
  have hWc := hW
  obtain ⟨a1, a2, a3, a4, a5, a6, rdf, lo, hi, wk, no, nn, i0, i1, i2, i3, i4, i5, i6, hrd, hlo, hwk⟩ := hWc
  have hple := st_pl_le (iv_wk x) key (iv_nw x)
  refine lv_aload_n hx hb d_MM_write_0 rfl (lv_at hl 0 rfl) ?_
  refine lv_iload_n hx hb d_MM_write_1 rfl (lv_at hl 1 rfl) ?_
  refine lv_bipush (v := nI 16) hx hb d_MM_write_2 (by decide) ?_
  refine mh_callR (mh_sS (rest := [.ref m0]) (av := [.int (nI t), .int (nI 16)]) K0 e_MM_in l_MM_53 k744 rfl rfl d_MM_write_4) (c_MM_in) K0 hOK hml hl.1 e_MM_in hX hS d_MM_write_4 (Nat.le_of_ble_eq_true rfl) (Nat.le_of_ble_eq_true rfl) (Nat.le_of_ble_eq_true rfl) (Nat.le_of_ble_eq_true rfl) (Nat.le_of_ble_eq_true rfl) (fun H locs hX hS => ?_)
  refine W.eq (g2 := F0 m 7 ls [.int (mh_b (st_in (nI t) 16)), .ref m0]) rfl ?_
  refine mh_ifeqB (tgt := 20) hx hb d_MM_write_7 (by decide) (fun z => absurd z (by rw [st_in_nI ht (by decide)]; decide)) (fun _ => ?_)
  refine lv_iload_n hx hb d_MM_write_10 rfl (lv_at hl 2 rfl) ?_
  refine lv_sipush (v := nI 256) hx hb d_MM_write_11 (by decide) ?_
  refine mh_callR (mh_sS (rest := [.ref m0]) (av := [.int (nI key), .int (nI 256)]) K0 e_MM_in l_MM_53 k744 rfl rfl d_MM_write_14) (c_MM_in) K0 hOK hml hl.1 e_MM_in hX hS d_MM_write_14 (Nat.le_of_ble_eq_true rfl) (Nat.le_of_ble_eq_true rfl) (Nat.le_of_ble_eq_true rfl) (Nat.le_of_ble_eq_true rfl) (Nat.le_of_ble_eq_true rfl) (fun H locs hX hS => ?_)
  refine W.eq (g2 := F0 m 17 ls [.int (mh_b (st_in (nI key) 256)), .ref m0]) rfl ?_
  refine mh_ifneB (tgt := 24) hx hb d_MM_write_17 (by decide) (fun _ => ?_) (fun z => absurd z (by rw [st_in_nI hk (by decide)]; decide))
  refine lv_iconst (v := nI 0) hx hb d_MM_write_24 (by decide) ?_
  refine lv_iconst (v := nI 1) hx hb d_MM_write_25 (by decide) ?_
  refine mh_callV (mh_sV (rest := []) (av := [.int (nI 0), .int (nI 1)]) K0 hX r50 rfl e_MM_fails l_MM_57 k748 kp15 rfl rfl d_MM_write_26) (c_MM_fails0 r50) K0 hOK hml hl.1 e_MM_fails hX hS d_MM_write_26 (Nat.le_of_ble_eq_true rfl) (Nat.le_of_ble_eq_true rfl) (Nat.le_of_ble_eq_true rfl) (Nat.le_of_ble_eq_true rfl) (Nat.le_of_ble_eq_true rfl) (fun wf62 H locs ⟨hm62, hF62⟩ hX hS => ?_)
  refine W.eq (g2 := F0 m 29 ls [.int (nI 0)]) rfl ?_
  refine mh_if_eq (tgt := 34) hx hb (by omega) d_MM_write_29 (by decide) (fun _ => ?_) (fun z => absurd z (by omega))
  refine lv_aload_n hx hb d_MM_write_34 rfl (lv_at hl 0 rfl) ?_
  refine lv_iload_n hx hb d_MM_write_35 rfl (lv_at hl 1 rfl) ?_
  refine lv_iconst (v := nI 2) hx hb d_MM_write_36 (by decide) ?_
  refine mh_callV (mh_sV (rest := []) (av := [.int (nI t), .int (nI 2)]) K0 hX hm62 rfl e_MM_shut l_MM_75 k760 kp16 rfl rfl d_MM_write_37) (c_MM_shut0 (x := x) hm62 ((hF62 52 0 (by omega)).trans r52) ht ha (hW.mv (fun z hz => by rw [hF62 _ _ (by omega)]))) K0 hOK hml hl.1 e_MM_shut hX hS d_MM_write_37 (Nat.le_of_ble_eq_true rfl) (Nat.le_of_ble_eq_true rfl) (Nat.le_of_ble_eq_true rfl) (Nat.le_of_ble_eq_true rfl) (Nat.le_of_ble_eq_true rfl) (fun wf63 H locs ⟨hm63, hF63⟩ hX hS => ?_)
  refine W.eq (g2 := F0 m 40 ls [.int (nI 0)]) rfl ?_
  refine mh_if_eq (tgt := 45) hx hb (by omega) d_MM_write_40 (by decide) (fun _ => ?_) (fun z => absurd z (by omega))
  refine lv_aload_n hx hb d_MM_write_45 rfl (lv_at hl 0 rfl) ?_
  refine mh_get K0 hX hm63 f_MM_15 rfl d_MM_write_46 ?_
  refine lv_iload_n hx hb d_MM_write_49 rfl (lv_at hl 1 rfl) ?_
  refine mh_aaldN 7 rfl K0 hX ((hF63 52 0 (by omega)).trans ((hF62 52 0 (by omega)).trans r52)) (by omega) (by omega) (r := (some a)) (ha) d_MM_write_50 ?_
  refine W.eq (g2 := F0 m 51 ls [.ref a]) rfl ?_
  refine lv_astore (lv' := [(6, .ref a), (0, .ref m0), (1, .int (nI t)), (2, .int (nI key)), (3, .long z9), (5, .int (mh_b (!v.isSome)))]) hx hb d_MM_write_51 hl (by decide) rfl (fun ls hl => ?_)
  refine lv_aload hx hb d_MM_write_53 (lv_at hl 0 rfl) ?_
  refine lv_iload_n hx hb d_MM_write_55 rfl (lv_at hl 3 rfl) ?_
  have hp : ¬ (st_pl (iv_wk x) key (iv_nw x)) < iv_nw x := by omega
  refine mh_callR (mh_sV (rest := []) (av := [.int (nI key)]) K0 hX ((hF63 56 t (by omega)).trans ((hF62 56 t (by omega)).trans i0)) rfl e_WK_written l_MM_78 k763 k764 rfl rfl d_MM_write_56) (c_WK_written_n (hW.mv (fun z hz => by rw [hF63 _ _ (by omega), hF62 _ _ (by omega)])) ho hk hp) K0 hOK hml hl.1 e_WK_written hX hS d_MM_write_56 (Nat.le_of_ble_eq_true rfl) (Nat.le_of_ble_eq_true rfl) (Nat.le_of_ble_eq_true rfl) (Nat.le_of_ble_eq_true rfl) (Nat.le_of_ble_eq_true rfl) (fun H locs hX hS => ?_)
  refine W.eq (g2 := F0 m 59 ls [.int (-1)]) rfl ?_
  refine lv_istore (lv' := [(7, .int (-1)), (6, .ref a), (0, .ref m0), (1, .int (nI t)), (2, .int (nI key)), (3, .long z9), (5, .int (mh_b (!v.isSome)))]) hx hb d_MM_write_59 hl (by decide) rfl (fun ls hl => ?_)
  refine lv_aload_n hx hb d_MM_write_61 rfl (lv_at hl 2 rfl) ?_
  refine lv_iload hx hb d_MM_write_62 (lv_at hl 0 rfl) ?_
  refine lv_if_ge (tgt := 81) hx hb d_MM_write_64 (by decide) (fun z => absurd z (by decide)) (fun _ => ?_)
  refine lv_aload hx hb d_MM_write_67 (lv_at hl 1 rfl) ?_
  refine mh_get K0 hX ((hF63 56 t (by omega)).trans ((hF62 56 t (by omega)).trans i0)) f_MM_43 rfl d_MM_write_69 ?_
  refine lv_bipush (v := nI 8) hx hb d_MM_write_72 (by decide) ?_
  refine mh_icmp_ne (tgt := 81) hx hb (by omega) (by omega) d_MM_write_74 (by decide) (fun z => absurd z (by omega)) (fun _ => ?_)
  refine lv_iconst (v := nI 1) hx hb d_MM_write_77 (by decide) ?_
  refine lv_goto (tgt := 82) hx hb d_MM_write_78 (by decide) ?_
  refine lv_iconst (v := nI 3) hx hb d_MM_write_82 (by decide) ?_
  refine mh_callV (mh_sV (rest := []) (av := [.int (nI 1), .int (nI 3)]) K0 hX hm63 rfl e_MM_fails l_MM_57 k748 kp15 rfl rfl d_MM_write_83) (c_MM_fails1 hm63) K0 hOK hml hl.1 e_MM_fails hX hS d_MM_write_83 (Nat.le_of_ble_eq_true rfl) (Nat.le_of_ble_eq_true rfl) (Nat.le_of_ble_eq_true rfl) (Nat.le_of_ble_eq_true rfl) (Nat.le_of_ble_eq_true rfl) (fun wf64 H locs ⟨hm64, hF64⟩ hX hS => ?_)
  refine W.eq (g2 := F0 m 86 ls [.int (nI 1)]) rfl ?_
  refine mh_if_eq (tgt := 91) hx hb (by omega) d_MM_write_86 (by decide) (fun z => absurd z (by omega)) (fun _ => ?_)
  refine lv_iconst (v := nI 0) hx hb d_MM_write_89 (by decide) ?_
  exact mh_iret K0 hr rfl hlocks hX hS (⟨rfl, ⟨aG, aO, aA, aV, aH, lg, op, at_, hQ.sc (fun k i h1 h2 h3 h4 => by rw [hF64 _ _ (by omega), hF63 _ _ (by omega), hF62 _ _ (by omega)]) hm64 ⟨_, ((hF64 54 0 (by omega)).trans ((hF63 54 0 (by omega)).trans ((hF62 54 0 (by omega)).trans r54)))⟩ ⟨_, ((hF64 55 0 (by omega)).trans ((hF63 55 0 (by omega)).trans ((hF62 55 0 (by omega)).trans r55)))⟩⟩, fun k i h => by rw [hF64 _ _ (by omega), hF63 _ _ (by omega), hF62 _ _ (by omega)]⟩) (Nat.le_of_ble_eq_true rfl) (Nat.le_of_ble_eq_true rfl) d_MM_write_90
set_option maxHeartbeats 4000000 in
set_option maxRecDepth 100000 in
theorem c_MM_put_1 {l : Launch} {b : Nat} {dC : Nat → ClassId} {dI : Nat → Nat → Nat} {dA : Nat → ClassId} {zs : Nat → Nat} {w : mh_w} {m0 : Nat} {er : Int32} {g : st_G} (hR : rM dA w m0 er g) (hG : sg_ok g) {t key : Int32} (h : (st_in t 16 && st_in key 256) = false) {v : Int64} : mh_Met l b dC dI dA zs y_MM_put (mh_rm 5 10 500) [.ref m0, .int t, .int key, .long v] w (mh_V (some (.int (nI 0))) (fun w' => rM dA w' m0 (nI 1) g ∧ mh_D w w')) := by
  have hR2 := hR
  obtain ⟨aG, aO, aA, aV, aH, lg, op, at_, hQ⟩ := hR
  have hQ2 := hQ
  obtain ⟨r50, r51, r52, r53, ⟨vf, r54⟩, ⟨hf, r55⟩, ra, ro, rl⟩ := hQ2
  have hG2 := hG
  obtain ⟨gn, grs, gat, glo, gdr⟩ := hG2
  refine mh_ofW (cc := b_MM_put) (n := 5) (ret := (some .int)) (hs := []) (by decide) k777 ?_
  intro p e s m below meth c hx hb hr hml hown hts hlocks hnm hT hOK hadm
  have K0 : mh_K0 p s m ([.ref m0, .int t, .int key, .long v]).toArray c "MeldHostModel" b_MM_put dC dI dA := ⟨hx, hb, hown, hts, hOK.1, hOK.2.1⟩
  have hX := hOK.2.2.2.2
  have hb0 := hOK.2.2.2.1
  have hS : va_S (mh_A b) s.heap s.heap [] := va_S.rf
  have hl := lv_entry ([.ref m0, .int t, .int key, .long v]) (n := 5) (Nat.le_of_ble_eq_true rfl)
  rw [lg_entry_eq]
  generalize (lg_sl ([.ref m0, .int t, .int key, .long v]) ++ List.replicate (5 - (lg_sl ([.ref m0, .int t, .int key, .long v])).length) Slot.unset).toArray = ls at hl ⊢
  have hl : lv_has ls 5 [(0, .ref m0), (1, .int t), (2, .int key), (3, .long v)] := hl
  refine lv_aload_n hx hb d_MM_put_0 rfl (lv_at hl 0 rfl) ?_
  refine lv_iload_n hx hb d_MM_put_1 rfl (lv_at hl 1 rfl) ?_
  refine lv_iload_n hx hb d_MM_put_2 rfl (lv_at hl 2 rfl) ?_
  refine lv_lload_n hx hb d_MM_put_3 rfl (lv_at hl 3 rfl) ?_
  refine lv_iconst (v := nI 0) hx hb d_MM_put_4 (by decide) ?_
  refine mh_ti (y := mh_b (!(some v).isSome)) (rfl) ?_
  refine mh_callV (mh_sV (rest := []) (av := [.int t, .int key, .long v, .int (mh_b (!(some v).isSome))]) K0 hX r50 rfl e_MM_write l_MM_92 k780 kp19 rfl rfl d_MM_put_5) (c_MM_write_1 hR2 hG h) K0 hOK hml hl.1 e_MM_write hX hS d_MM_put_5 (Nat.le_of_ble_eq_true rfl) (Nat.le_of_ble_eq_true rfl) (Nat.le_of_ble_eq_true rfl) (Nat.le_of_ble_eq_true rfl) (Nat.le_of_ble_eq_true rfl) (fun w1 H locs hw hX hS => ?_)
  refine W.eq (g2 := F0 m 8 ls [.int (nI 0)]) rfl ?_
  exact mh_iret K0 hr rfl hlocks hX hS (⟨rfl, hw⟩) (Nat.le_of_ble_eq_true rfl) (Nat.le_of_ble_eq_true rfl) d_MM_put_8
set_option maxHeartbeats 4000000 in
set_option maxRecDepth 100000 in
theorem c_MM_put_2 {l : Launch} {b : Nat} {dC : Nat → ClassId} {dI : Nat → Nat → Nat} {dA : Nat → ClassId} {zs : Nat → Nat} {w : mh_w} {m0 : Nat} {er : Int32} {g : st_G} (hR : rM dA w m0 er g) (hG : sg_ok g) {t : Nat} (ht : t < 16) {key : Nat} (hk : key < 256) (hd : sg_dr g t = none) {v : Int64} : mh_Met l b dC dI dA zs y_MM_put (mh_rm 5 10 500) [.ref m0, .int (nI t), .int (nI key), .long v] w (mh_V (some (.int (nI 0))) (fun w' => rM dA w' m0 (nI 2) g ∧ mh_D w w')) := by
  have hR2 := hR
  obtain ⟨aG, aO, aA, aV, aH, lg, op, at_, hQ⟩ := hR
  have hQ2 := hQ
  obtain ⟨r50, r51, r52, r53, ⟨vf, r54⟩, ⟨hf, r55⟩, ra, ro, rl⟩ := hQ2
  have hG2 := hG
  obtain ⟨gn, grs, gat, glo, gdr⟩ := hG2
  refine mh_ofW (cc := b_MM_put) (n := 5) (ret := (some .int)) (hs := []) (by decide) k777 ?_
  intro p e s m below meth c hx hb hr hml hown hts hlocks hnm hT hOK hadm
  have K0 : mh_K0 p s m ([.ref m0, .int (nI t), .int (nI key), .long v]).toArray c "MeldHostModel" b_MM_put dC dI dA := ⟨hx, hb, hown, hts, hOK.1, hOK.2.1⟩
  have hX := hOK.2.2.2.2
  have hb0 := hOK.2.2.2.1
  have hS : va_S (mh_A b) s.heap s.heap [] := va_S.rf
  have hl := lv_entry ([.ref m0, .int (nI t), .int (nI key), .long v]) (n := 5) (Nat.le_of_ble_eq_true rfl)
  rw [lg_entry_eq]
  generalize (lg_sl ([.ref m0, .int (nI t), .int (nI key), .long v]) ++ List.replicate (5 - (lg_sl ([.ref m0, .int (nI t), .int (nI key), .long v])).length) Slot.unset).toArray = ls at hl ⊢
  have hl : lv_has ls 5 [(0, .ref m0), (1, .int (nI t)), (2, .int (nI key)), (3, .long v)] := hl
  refine lv_aload_n hx hb d_MM_put_0 rfl (lv_at hl 0 rfl) ?_
  refine lv_iload_n hx hb d_MM_put_1 rfl (lv_at hl 1 rfl) ?_
  refine lv_iload_n hx hb d_MM_put_2 rfl (lv_at hl 2 rfl) ?_
  refine lv_lload_n hx hb d_MM_put_3 rfl (lv_at hl 3 rfl) ?_
  refine lv_iconst (v := nI 0) hx hb d_MM_put_4 (by decide) ?_
  refine mh_ti (y := mh_b (!(some v).isSome)) (rfl) ?_
  refine mh_callV (mh_sV (rest := []) (av := [.int (nI t), .int (nI key), .long v, .int (mh_b (!(some v).isSome))]) K0 hX r50 rfl e_MM_write l_MM_92 k780 kp19 rfl rfl d_MM_put_5) (c_MM_write_2 hR2 hG ht hk hd) K0 hOK hml hl.1 e_MM_write hX hS d_MM_put_5 (Nat.le_of_ble_eq_true rfl) (Nat.le_of_ble_eq_true rfl) (Nat.le_of_ble_eq_true rfl) (Nat.le_of_ble_eq_true rfl) (Nat.le_of_ble_eq_true rfl) (fun w1 H locs hw hX hS => ?_)
  refine W.eq (g2 := F0 m 8 ls [.int (nI 0)]) rfl ?_
  exact mh_iret K0 hr rfl hlocks hX hS (⟨rfl, hw⟩) (Nat.le_of_ble_eq_true rfl) (Nat.le_of_ble_eq_true rfl) d_MM_put_8
set_option maxHeartbeats 4000000 in
set_option maxRecDepth 100000 in
theorem c_MM_put_0 {l : Launch} {b : Nat} {dC : Nat → ClassId} {dI : Nat → Nat → Nat} {dA : Nat → ClassId} {zs : Nat → Nat} {w : mh_w} {m0 : Nat} {er : Int32} {g : st_G} (hR : rM dA w m0 er g) (hG : sg_ok g) {t : Nat} (ht : t < 16) {key : Nat} (hk : key < 256) {x : st_I} (hd : sg_dr g t = some x) (h8 : (st_pl (iv_wk x) key (iv_nw x)) < 8) {v : Int64} : mh_Met l b dC dI dA zs y_MM_put (mh_rm 5 10 500) [.ref m0, .int (nI t), .int (nI key), .long v] w (mh_V (some (.int (nI (iv_nw (st_wr x key (some v)))))) (fun w' => rM dA w' m0 (nI 0) (g.1, g.2.1, va_up (sg_dr g) t (some (st_wr x key (some v))), g.2.2.2) ∧ mh_D w w')) := by
  have hR2 := hR
  obtain ⟨aG, aO, aA, aV, aH, lg, op, at_, hQ⟩ := hR
  have hQ2 := hQ
  obtain ⟨r50, r51, r52, r53, ⟨vf, r54⟩, ⟨hf, r55⟩, ra, ro, rl⟩ := hQ2
  have hG2 := hG
  obtain ⟨gn, grs, gat, glo, gdr⟩ := hG2
  refine mh_ofW (cc := b_MM_put) (n := 5) (ret := (some .int)) (hs := []) (by decide) k777 ?_
  intro p e s m below meth c hx hb hr hml hown hts hlocks hnm hT hOK hadm
  have K0 : mh_K0 p s m ([.ref m0, .int (nI t), .int (nI key), .long v]).toArray c "MeldHostModel" b_MM_put dC dI dA := ⟨hx, hb, hown, hts, hOK.1, hOK.2.1⟩
  have hX := hOK.2.2.2.2
  have hb0 := hOK.2.2.2.1
  have hS : va_S (mh_A b) s.heap s.heap [] := va_S.rf
  have hl := lv_entry ([.ref m0, .int (nI t), .int (nI key), .long v]) (n := 5) (Nat.le_of_ble_eq_true rfl)
  rw [lg_entry_eq]
  generalize (lg_sl ([.ref m0, .int (nI t), .int (nI key), .long v]) ++ List.replicate (5 - (lg_sl ([.ref m0, .int (nI t), .int (nI key), .long v])).length) Slot.unset).toArray = ls at hl ⊢
  have hl : lv_has ls 5 [(0, .ref m0), (1, .int (nI t)), (2, .int (nI key)), (3, .long v)] := hl
  refine lv_aload_n hx hb d_MM_put_0 rfl (lv_at hl 0 rfl) ?_
  refine lv_iload_n hx hb d_MM_put_1 rfl (lv_at hl 1 rfl) ?_
  refine lv_iload_n hx hb d_MM_put_2 rfl (lv_at hl 2 rfl) ?_
  refine lv_lload_n hx hb d_MM_put_3 rfl (lv_at hl 3 rfl) ?_
  refine lv_iconst (v := nI 0) hx hb d_MM_put_4 (by decide) ?_
  refine mh_ti (y := mh_b (!(some v).isSome)) (rfl) ?_
  refine mh_callV (mh_sV (rest := []) (av := [.int (nI t), .int (nI key), .long v, .int (mh_b (!(some v).isSome))]) K0 hX r50 rfl e_MM_write l_MM_92 k780 kp19 rfl rfl d_MM_put_5) (c_MM_write_0 hR2 hG ht hk hd (v := (some v)) (z9 := v) (fun z hz => by cases hz; rfl) h8) K0 hOK hml hl.1 e_MM_write hX hS d_MM_put_5 (Nat.le_of_ble_eq_true rfl) (Nat.le_of_ble_eq_true rfl) (Nat.le_of_ble_eq_true rfl) (Nat.le_of_ble_eq_true rfl) (Nat.le_of_ble_eq_true rfl) (fun w1 H locs hw hX hS => ?_)
  refine W.eq (g2 := F0 m 8 ls [.int (nI (iv_nw (st_wr x key (some v))))]) rfl ?_
  exact mh_iret K0 hr rfl hlocks hX hS (⟨rfl, hw⟩) (Nat.le_of_ble_eq_true rfl) (Nat.le_of_ble_eq_true rfl) d_MM_put_8
set_option maxHeartbeats 4000000 in
set_option maxRecDepth 100000 in
theorem c_MM_put_3 {l : Launch} {b : Nat} {dC : Nat → ClassId} {dI : Nat → Nat → Nat} {dA : Nat → ClassId} {zs : Nat → Nat} {w : mh_w} {m0 : Nat} {er : Int32} {g : st_G} (hR : rM dA w m0 er g) (hG : sg_ok g) {t : Nat} (ht : t < 16) {key : Nat} (hk : key < 256) {x : st_I} (hd : sg_dr g t = some x) (h8 : ¬ (st_pl (iv_wk x) key (iv_nw x)) < 8) {v : Int64} : mh_Met l b dC dI dA zs y_MM_put (mh_rm 5 10 500) [.ref m0, .int (nI t), .int (nI key), .long v] w (mh_V (some (.int (nI 0))) (fun w' => rM dA w' m0 (nI 3) g ∧ mh_D w w')) := by
  have hR2 := hR
  obtain ⟨aG, aO, aA, aV, aH, lg, op, at_, hQ⟩ := hR
  have hQ2 := hQ
  obtain ⟨r50, r51, r52, r53, ⟨vf, r54⟩, ⟨hf, r55⟩, ra, ro, rl⟩ := hQ2
  have hG2 := hG
  obtain ⟨gn, grs, gat, glo, gdr⟩ := hG2
  refine mh_ofW (cc := b_MM_put) (n := 5) (ret := (some .int)) (hs := []) (by decide) k777 ?_
  intro p e s m below meth c hx hb hr hml hown hts hlocks hnm hT hOK hadm
  have K0 : mh_K0 p s m ([.ref m0, .int (nI t), .int (nI key), .long v]).toArray c "MeldHostModel" b_MM_put dC dI dA := ⟨hx, hb, hown, hts, hOK.1, hOK.2.1⟩
  have hX := hOK.2.2.2.2
  have hb0 := hOK.2.2.2.1
  have hS : va_S (mh_A b) s.heap s.heap [] := va_S.rf
  have hl := lv_entry ([.ref m0, .int (nI t), .int (nI key), .long v]) (n := 5) (Nat.le_of_ble_eq_true rfl)
  rw [lg_entry_eq]
  generalize (lg_sl ([.ref m0, .int (nI t), .int (nI key), .long v]) ++ List.replicate (5 - (lg_sl ([.ref m0, .int (nI t), .int (nI key), .long v])).length) Slot.unset).toArray = ls at hl ⊢
  have hl : lv_has ls 5 [(0, .ref m0), (1, .int (nI t)), (2, .int (nI key)), (3, .long v)] := hl
  refine lv_aload_n hx hb d_MM_put_0 rfl (lv_at hl 0 rfl) ?_
  refine lv_iload_n hx hb d_MM_put_1 rfl (lv_at hl 1 rfl) ?_
  refine lv_iload_n hx hb d_MM_put_2 rfl (lv_at hl 2 rfl) ?_
  refine lv_lload_n hx hb d_MM_put_3 rfl (lv_at hl 3 rfl) ?_
  refine lv_iconst (v := nI 0) hx hb d_MM_put_4 (by decide) ?_
  refine mh_ti (y := mh_b (!(some v).isSome)) (rfl) ?_
  refine mh_callV (mh_sV (rest := []) (av := [.int (nI t), .int (nI key), .long v, .int (mh_b (!(some v).isSome))]) K0 hX r50 rfl e_MM_write l_MM_92 k780 kp19 rfl rfl d_MM_put_5) (c_MM_write_3 hR2 hG ht hk hd (v := (some v)) (z9 := v) (fun z hz => by cases hz; rfl) h8) K0 hOK hml hl.1 e_MM_write hX hS d_MM_put_5 (Nat.le_of_ble_eq_true rfl) (Nat.le_of_ble_eq_true rfl) (Nat.le_of_ble_eq_true rfl) (Nat.le_of_ble_eq_true rfl) (Nat.le_of_ble_eq_true rfl) (fun w1 H locs hw hX hS => ?_)
  refine W.eq (g2 := F0 m 8 ls [.int (nI 0)]) rfl ?_
  exact mh_iret K0 hr rfl hlocks hX hS (⟨rfl, hw⟩) (Nat.le_of_ble_eq_true rfl) (Nat.le_of_ble_eq_true rfl) d_MM_put_8
set_option maxHeartbeats 4000000 in
set_option maxRecDepth 100000 in
theorem c_MM_delete_1 {l : Launch} {b : Nat} {dC : Nat → ClassId} {dI : Nat → Nat → Nat} {dA : Nat → ClassId} {zs : Nat → Nat} {w : mh_w} {m0 : Nat} {er : Int32} {g : st_G} (hR : rM dA w m0 er g) (hG : sg_ok g) {t key : Int32} (h : (st_in t 16 && st_in key 256) = false) : mh_Met l b dC dI dA zs y_MM_delete (mh_rm 5 10 500) [.ref m0, .int t, .int key] w (mh_V (some (.int (nI 0))) (fun w' => rM dA w' m0 (nI 1) g ∧ mh_D w w')) := by
  have hR2 := hR
  obtain ⟨aG, aO, aA, aV, aH, lg, op, at_, hQ⟩ := hR
  have hQ2 := hQ
  obtain ⟨r50, r51, r52, r53, ⟨vf, r54⟩, ⟨hf, r55⟩, ra, ro, rl⟩ := hQ2
  have hG2 := hG
  obtain ⟨gn, grs, gat, glo, gdr⟩ := hG2
  refine mh_ofW (cc := b_MM_delete) (n := 3) (ret := (some .int)) (hs := []) (by decide) k785 ?_
  intro p e s m below meth c hx hb hr hml hown hts hlocks hnm hT hOK hadm
  have K0 : mh_K0 p s m ([.ref m0, .int t, .int key]).toArray c "MeldHostModel" b_MM_delete dC dI dA := ⟨hx, hb, hown, hts, hOK.1, hOK.2.1⟩
  have hX := hOK.2.2.2.2
  have hb0 := hOK.2.2.2.1
  have hS : va_S (mh_A b) s.heap s.heap [] := va_S.rf
  have hl := lv_entry ([.ref m0, .int t, .int key]) (n := 3) (Nat.le_of_ble_eq_true rfl)
  rw [lg_entry_eq]
  generalize (lg_sl ([.ref m0, .int t, .int key]) ++ List.replicate (3 - (lg_sl ([.ref m0, .int t, .int key])).length) Slot.unset).toArray = ls at hl ⊢
  have hl : lv_has ls 3 [(0, .ref m0), (1, .int t), (2, .int key)] := hl
  refine lv_aload_n hx hb d_MM_delete_0 rfl (lv_at hl 0 rfl) ?_
  refine lv_iload_n hx hb d_MM_delete_1 rfl (lv_at hl 1 rfl) ?_
  refine lv_iload_n hx hb d_MM_delete_2 rfl (lv_at hl 2 rfl) ?_
  refine lv_lconst (v := 0) hx hb d_MM_delete_3 rfl ?_
  refine lv_iconst (v := nI 1) hx hb d_MM_delete_4 (by decide) ?_
  refine mh_ti (y := mh_b (!(none : Option Int64).isSome)) (rfl) ?_
  refine mh_callV (mh_sV (rest := []) (av := [.int t, .int key, .long 0, .int (mh_b (!(none : Option Int64).isSome))]) K0 hX r50 rfl e_MM_write l_MM_92 k780 kp19 rfl rfl d_MM_delete_5) (c_MM_write_1 hR2 hG h) K0 hOK hml hl.1 e_MM_write hX hS d_MM_delete_5 (Nat.le_of_ble_eq_true rfl) (Nat.le_of_ble_eq_true rfl) (Nat.le_of_ble_eq_true rfl) (Nat.le_of_ble_eq_true rfl) (Nat.le_of_ble_eq_true rfl) (fun w1 H locs hw hX hS => ?_)
  refine W.eq (g2 := F0 m 8 ls [.int (nI 0)]) rfl ?_
  exact mh_iret K0 hr rfl hlocks hX hS (⟨rfl, hw⟩) (Nat.le_of_ble_eq_true rfl) (Nat.le_of_ble_eq_true rfl) d_MM_delete_8
set_option maxHeartbeats 4000000 in
set_option maxRecDepth 100000 in
theorem c_MM_delete_2 {l : Launch} {b : Nat} {dC : Nat → ClassId} {dI : Nat → Nat → Nat} {dA : Nat → ClassId} {zs : Nat → Nat} {w : mh_w} {m0 : Nat} {er : Int32} {g : st_G} (hR : rM dA w m0 er g) (hG : sg_ok g) {t : Nat} (ht : t < 16) {key : Nat} (hk : key < 256) (hd : sg_dr g t = none) : mh_Met l b dC dI dA zs y_MM_delete (mh_rm 5 10 500) [.ref m0, .int (nI t), .int (nI key)] w (mh_V (some (.int (nI 0))) (fun w' => rM dA w' m0 (nI 2) g ∧ mh_D w w')) := by
  have hR2 := hR
  obtain ⟨aG, aO, aA, aV, aH, lg, op, at_, hQ⟩ := hR
  have hQ2 := hQ
  obtain ⟨r50, r51, r52, r53, ⟨vf, r54⟩, ⟨hf, r55⟩, ra, ro, rl⟩ := hQ2
  have hG2 := hG
  obtain ⟨gn, grs, gat, glo, gdr⟩ := hG2
  refine mh_ofW (cc := b_MM_delete) (n := 3) (ret := (some .int)) (hs := []) (by decide) k785 ?_
  intro p e s m below meth c hx hb hr hml hown hts hlocks hnm hT hOK hadm
  have K0 : mh_K0 p s m ([.ref m0, .int (nI t), .int (nI key)]).toArray c "MeldHostModel" b_MM_delete dC dI dA := ⟨hx, hb, hown, hts, hOK.1, hOK.2.1⟩
  have hX := hOK.2.2.2.2
  have hb0 := hOK.2.2.2.1
  have hS : va_S (mh_A b) s.heap s.heap [] := va_S.rf
  have hl := lv_entry ([.ref m0, .int (nI t), .int (nI key)]) (n := 3) (Nat.le_of_ble_eq_true rfl)
  rw [lg_entry_eq]
  generalize (lg_sl ([.ref m0, .int (nI t), .int (nI key)]) ++ List.replicate (3 - (lg_sl ([.ref m0, .int (nI t), .int (nI key)])).length) Slot.unset).toArray = ls at hl ⊢
  have hl : lv_has ls 3 [(0, .ref m0), (1, .int (nI t)), (2, .int (nI key))] := hl
  refine lv_aload_n hx hb d_MM_delete_0 rfl (lv_at hl 0 rfl) ?_
  refine lv_iload_n hx hb d_MM_delete_1 rfl (lv_at hl 1 rfl) ?_
  refine lv_iload_n hx hb d_MM_delete_2 rfl (lv_at hl 2 rfl) ?_
  refine lv_lconst (v := 0) hx hb d_MM_delete_3 rfl ?_
  refine lv_iconst (v := nI 1) hx hb d_MM_delete_4 (by decide) ?_
  refine mh_ti (y := mh_b (!(none : Option Int64).isSome)) (rfl) ?_
  refine mh_callV (mh_sV (rest := []) (av := [.int (nI t), .int (nI key), .long 0, .int (mh_b (!(none : Option Int64).isSome))]) K0 hX r50 rfl e_MM_write l_MM_92 k780 kp19 rfl rfl d_MM_delete_5) (c_MM_write_2 hR2 hG ht hk hd) K0 hOK hml hl.1 e_MM_write hX hS d_MM_delete_5 (Nat.le_of_ble_eq_true rfl) (Nat.le_of_ble_eq_true rfl) (Nat.le_of_ble_eq_true rfl) (Nat.le_of_ble_eq_true rfl) (Nat.le_of_ble_eq_true rfl) (fun w1 H locs hw hX hS => ?_)
  refine W.eq (g2 := F0 m 8 ls [.int (nI 0)]) rfl ?_
  exact mh_iret K0 hr rfl hlocks hX hS (⟨rfl, hw⟩) (Nat.le_of_ble_eq_true rfl) (Nat.le_of_ble_eq_true rfl) d_MM_delete_8
set_option maxHeartbeats 4000000 in
set_option maxRecDepth 100000 in
theorem c_MM_delete_0 {l : Launch} {b : Nat} {dC : Nat → ClassId} {dI : Nat → Nat → Nat} {dA : Nat → ClassId} {zs : Nat → Nat} {w : mh_w} {m0 : Nat} {er : Int32} {g : st_G} (hR : rM dA w m0 er g) (hG : sg_ok g) {t : Nat} (ht : t < 16) {key : Nat} (hk : key < 256) {x : st_I} (hd : sg_dr g t = some x) (h8 : (st_pl (iv_wk x) key (iv_nw x)) < 8) : mh_Met l b dC dI dA zs y_MM_delete (mh_rm 5 10 500) [.ref m0, .int (nI t), .int (nI key)] w (mh_V (some (.int (nI (iv_nw (st_wr x key (none : Option Int64)))))) (fun w' => rM dA w' m0 (nI 0) (g.1, g.2.1, va_up (sg_dr g) t (some (st_wr x key (none : Option Int64))), g.2.2.2) ∧ mh_D w w')) := by
  have hR2 := hR
  obtain ⟨aG, aO, aA, aV, aH, lg, op, at_, hQ⟩ := hR
  have hQ2 := hQ
  obtain ⟨r50, r51, r52, r53, ⟨vf, r54⟩, ⟨hf, r55⟩, ra, ro, rl⟩ := hQ2
  have hG2 := hG
  obtain ⟨gn, grs, gat, glo, gdr⟩ := hG2
  refine mh_ofW (cc := b_MM_delete) (n := 3) (ret := (some .int)) (hs := []) (by decide) k785 ?_
  intro p e s m below meth c hx hb hr hml hown hts hlocks hnm hT hOK hadm
  have K0 : mh_K0 p s m ([.ref m0, .int (nI t), .int (nI key)]).toArray c "MeldHostModel" b_MM_delete dC dI dA := ⟨hx, hb, hown, hts, hOK.1, hOK.2.1⟩
  have hX := hOK.2.2.2.2
  have hb0 := hOK.2.2.2.1
  have hS : va_S (mh_A b) s.heap s.heap [] := va_S.rf
  have hl := lv_entry ([.ref m0, .int (nI t), .int (nI key)]) (n := 3) (Nat.le_of_ble_eq_true rfl)
  rw [lg_entry_eq]
  generalize (lg_sl ([.ref m0, .int (nI t), .int (nI key)]) ++ List.replicate (3 - (lg_sl ([.ref m0, .int (nI t), .int (nI key)])).length) Slot.unset).toArray = ls at hl ⊢
  have hl : lv_has ls 3 [(0, .ref m0), (1, .int (nI t)), (2, .int (nI key))] := hl
  refine lv_aload_n hx hb d_MM_delete_0 rfl (lv_at hl 0 rfl) ?_
  refine lv_iload_n hx hb d_MM_delete_1 rfl (lv_at hl 1 rfl) ?_
  refine lv_iload_n hx hb d_MM_delete_2 rfl (lv_at hl 2 rfl) ?_
  refine lv_lconst (v := 0) hx hb d_MM_delete_3 rfl ?_
  refine lv_iconst (v := nI 1) hx hb d_MM_delete_4 (by decide) ?_
  refine mh_ti (y := mh_b (!(none : Option Int64).isSome)) (rfl) ?_
  refine mh_callV (mh_sV (rest := []) (av := [.int (nI t), .int (nI key), .long 0, .int (mh_b (!(none : Option Int64).isSome))]) K0 hX r50 rfl e_MM_write l_MM_92 k780 kp19 rfl rfl d_MM_delete_5) (c_MM_write_0 hR2 hG ht hk hd (v := (none : Option Int64)) (z9 := 0) (fun z hz => by cases hz) h8) K0 hOK hml hl.1 e_MM_write hX hS d_MM_delete_5 (Nat.le_of_ble_eq_true rfl) (Nat.le_of_ble_eq_true rfl) (Nat.le_of_ble_eq_true rfl) (Nat.le_of_ble_eq_true rfl) (Nat.le_of_ble_eq_true rfl) (fun w1 H locs hw hX hS => ?_)
  refine W.eq (g2 := F0 m 8 ls [.int (nI (iv_nw (st_wr x key (none : Option Int64))))]) rfl ?_
  exact mh_iret K0 hr rfl hlocks hX hS (⟨rfl, hw⟩) (Nat.le_of_ble_eq_true rfl) (Nat.le_of_ble_eq_true rfl) d_MM_delete_8
set_option maxHeartbeats 4000000 in
set_option maxRecDepth 100000 in
theorem c_MM_delete_3 {l : Launch} {b : Nat} {dC : Nat → ClassId} {dI : Nat → Nat → Nat} {dA : Nat → ClassId} {zs : Nat → Nat} {w : mh_w} {m0 : Nat} {er : Int32} {g : st_G} (hR : rM dA w m0 er g) (hG : sg_ok g) {t : Nat} (ht : t < 16) {key : Nat} (hk : key < 256) {x : st_I} (hd : sg_dr g t = some x) (h8 : ¬ (st_pl (iv_wk x) key (iv_nw x)) < 8) : mh_Met l b dC dI dA zs y_MM_delete (mh_rm 5 10 500) [.ref m0, .int (nI t), .int (nI key)] w (mh_V (some (.int (nI 0))) (fun w' => rM dA w' m0 (nI 3) g ∧ mh_D w w')) := by
  have hR2 := hR
  obtain ⟨aG, aO, aA, aV, aH, lg, op, at_, hQ⟩ := hR
  have hQ2 := hQ
  obtain ⟨r50, r51, r52, r53, ⟨vf, r54⟩, ⟨hf, r55⟩, ra, ro, rl⟩ := hQ2
  have hG2 := hG
  obtain ⟨gn, grs, gat, glo, gdr⟩ := hG2
  refine mh_ofW (cc := b_MM_delete) (n := 3) (ret := (some .int)) (hs := []) (by decide) k785 ?_
  intro p e s m below meth c hx hb hr hml hown hts hlocks hnm hT hOK hadm
  have K0 : mh_K0 p s m ([.ref m0, .int (nI t), .int (nI key)]).toArray c "MeldHostModel" b_MM_delete dC dI dA := ⟨hx, hb, hown, hts, hOK.1, hOK.2.1⟩
  have hX := hOK.2.2.2.2
  have hb0 := hOK.2.2.2.1
  have hS : va_S (mh_A b) s.heap s.heap [] := va_S.rf
  have hl := lv_entry ([.ref m0, .int (nI t), .int (nI key)]) (n := 3) (Nat.le_of_ble_eq_true rfl)
  rw [lg_entry_eq]
  generalize (lg_sl ([.ref m0, .int (nI t), .int (nI key)]) ++ List.replicate (3 - (lg_sl ([.ref m0, .int (nI t), .int (nI key)])).length) Slot.unset).toArray = ls at hl ⊢
  have hl : lv_has ls 3 [(0, .ref m0), (1, .int (nI t)), (2, .int (nI key))] := hl
  refine lv_aload_n hx hb d_MM_delete_0 rfl (lv_at hl 0 rfl) ?_
  refine lv_iload_n hx hb d_MM_delete_1 rfl (lv_at hl 1 rfl) ?_
  refine lv_iload_n hx hb d_MM_delete_2 rfl (lv_at hl 2 rfl) ?_
  refine lv_lconst (v := 0) hx hb d_MM_delete_3 rfl ?_
  refine lv_iconst (v := nI 1) hx hb d_MM_delete_4 (by decide) ?_
  refine mh_ti (y := mh_b (!(none : Option Int64).isSome)) (rfl) ?_
  refine mh_callV (mh_sV (rest := []) (av := [.int (nI t), .int (nI key), .long 0, .int (mh_b (!(none : Option Int64).isSome))]) K0 hX r50 rfl e_MM_write l_MM_92 k780 kp19 rfl rfl d_MM_delete_5) (c_MM_write_3 hR2 hG ht hk hd (v := (none : Option Int64)) (z9 := 0) (fun z hz => by cases hz) h8) K0 hOK hml hl.1 e_MM_write hX hS d_MM_delete_5 (Nat.le_of_ble_eq_true rfl) (Nat.le_of_ble_eq_true rfl) (Nat.le_of_ble_eq_true rfl) (Nat.le_of_ble_eq_true rfl) (Nat.le_of_ble_eq_true rfl) (fun w1 H locs hw hX hS => ?_)
  refine W.eq (g2 := F0 m 8 ls [.int (nI 0)]) rfl ?_
  exact mh_iret K0 hr rfl hlocks hX hS (⟨rfl, hw⟩) (Nat.le_of_ble_eq_true rfl) (Nat.le_of_ble_eq_true rfl) d_MM_delete_8
set_option maxHeartbeats 4000000 in
set_option maxRecDepth 100000 in
theorem c_MM_part_3 {l : Launch} {b : Nat} {dC : Nat → ClassId} {dI : Nat → Nat → Nat} {dA : Nat → ClassId} {zs : Nat → Nat} {w : mh_w} {m0 : Nat} {er : Int32} {g : st_G} (hR : rM dA w m0 er g) (hG : sg_ok g) {t : Nat} (ht : t < 16) {low high q9 : Nat} (h1 : low ≤ high) (h2 : high < 256) (h3 : q9 < 4) {x : st_I} (hd : sg_dr g t = some x) (h8 : ¬ iv_np x < 8) : mh_Met l b dC dI dA zs y_MM_part (mh_rm 4 10 500) [.ref m0, .int (nI t), .int (nI low), .int (nI high), .int (nI q9)] w (mh_V (some (.long 0)) (fun w' => rM dA w' m0 (nI 3) g ∧ mh_D w w')) := by
  obtain ⟨aG, aO, aA, aV, aH, lg, op, at_, hQ⟩ := hR
  have hQ2 := hQ
  obtain ⟨r50, r51, r52, r53, ⟨vf, r54⟩, ⟨hf, r55⟩, ra, ro, rl⟩ := hQ2
  have hG2 := hG
  obtain ⟨gn, grs, gat, glo, gdr⟩ := hG2
  refine mh_ofW (cc := b_MM_part) (n := 6) (ret := (some .long)) (hs := []) (by decide) k789 ?_
  intro p e s m below meth c hx hb hr hml hown hts hlocks hnm hT hOK hadm
  have K0 : mh_K0 p s m ([.ref m0, .int (nI t), .int (nI low), .int (nI high), .int (nI q9)]).toArray c "MeldHostModel" b_MM_part dC dI dA := ⟨hx, hb, hown, hts, hOK.1, hOK.2.1⟩
  have hX := hOK.2.2.2.2
  have hb0 := hOK.2.2.2.1
  have hS : va_S (mh_A b) s.heap s.heap [] := va_S.rf
  have hl := lv_entry ([.ref m0, .int (nI t), .int (nI low), .int (nI high), .int (nI q9)]) (n := 6) (Nat.le_of_ble_eq_true rfl)
  rw [lg_entry_eq]
  generalize (lg_sl ([.ref m0, .int (nI t), .int (nI low), .int (nI high), .int (nI q9)]) ++ List.replicate (6 - (lg_sl ([.ref m0, .int (nI t), .int (nI low), .int (nI high), .int (nI q9)])).length) Slot.unset).toArray = ls at hl ⊢
  have hl : lv_has ls 6 [(0, .ref m0), (1, .int (nI t)), (2, .int (nI low)), (3, .int (nI high)), (4, .int (nI q9))] := hl
  obtain ⟨a, x9, ha, hW0, ho9, hx9⟩ := ro t ht
  have ex := hx9 x hd
  subst ex
  have hW : rW dA w 56 t a x true := by rw [hd] at hW0; exact hW0
  have ho := gdr t x ht hd
  have ho2 := ho
  obtain ⟨o1, o2, o3, o4, o5, o6, o7, o8⟩ := ho2
  have hWc := hW
  obtain ⟨a1, a2, a3, a4, a5, a6, rdf, lo, hi, wk, no, nn, i0, i1, i2, i3, i4, i5, i6, hrd, hlo, hwk⟩ := hWc
  refine lv_aload_n hx hb d_MM_part_0 rfl (lv_at hl 0 rfl) ?_
  refine lv_iload_n hx hb d_MM_part_1 rfl (lv_at hl 1 rfl) ?_
  refine lv_bipush (v := nI 16) hx hb d_MM_part_2 (by decide) ?_
  refine mh_callR (mh_sS (rest := [.ref m0]) (av := [.int (nI t), .int (nI 16)]) K0 e_MM_in l_MM_53 k744 rfl rfl d_MM_part_4) (c_MM_in) K0 hOK hml hl.1 e_MM_in hX hS d_MM_part_4 (Nat.le_of_ble_eq_true rfl) (Nat.le_of_ble_eq_true rfl) (Nat.le_of_ble_eq_true rfl) (Nat.le_of_ble_eq_true rfl) (Nat.le_of_ble_eq_true rfl) (fun H locs hX hS => ?_)
  refine W.eq (g2 := F0 m 7 ls [.int (mh_b (st_in (nI t) 16)), .ref m0]) rfl ?_
  refine mh_ifeqB (tgt := 20) hx hb d_MM_part_7 (by decide) (fun z => absurd z (by rw [st_in_nI ht (by decide)]; decide)) (fun _ => ?_)
  refine lv_iload_n hx hb d_MM_part_10 rfl (lv_at hl 2 rfl) ?_
  refine lv_iload_n hx hb d_MM_part_11 rfl (lv_at hl 3 rfl) ?_
  refine lv_iload hx hb d_MM_part_12 (lv_at hl 4 rfl) ?_
  refine mh_callR (mh_sS (rest := [.ref m0]) (av := [.int (nI low), .int (nI high), .int (nI q9)]) K0 e_MM_bad l_MM_96 k791 rfl rfl d_MM_part_14) (c_MM_bad) K0 hOK hml hl.1 e_MM_bad hX hS d_MM_part_14 (Nat.le_of_ble_eq_true rfl) (Nat.le_of_ble_eq_true rfl) (Nat.le_of_ble_eq_true rfl) (Nat.le_of_ble_eq_true rfl) (Nat.le_of_ble_eq_true rfl) (fun H locs hX hS => ?_)
  refine W.eq (g2 := F0 m 17 ls [.int (mh_b (!sp_pt (nI low) (nI high) (nI q9))), .ref m0]) rfl ?_
  refine mh_ifeqB (tgt := 24) hx hb d_MM_part_17 (by decide) (fun _ => ?_) (fun z => absurd z (by rw [sp_pt_ok h1 h2 h3]; decide))
  refine lv_iconst (v := nI 0) hx hb d_MM_part_24 (by decide) ?_
  refine lv_iconst (v := nI 1) hx hb d_MM_part_25 (by decide) ?_
  refine mh_callV (mh_sV (rest := []) (av := [.int (nI 0), .int (nI 1)]) K0 hX r50 rfl e_MM_fails l_MM_57 k748 kp15 rfl rfl d_MM_part_26) (c_MM_fails0 r50) K0 hOK hml hl.1 e_MM_fails hX hS d_MM_part_26 (Nat.le_of_ble_eq_true rfl) (Nat.le_of_ble_eq_true rfl) (Nat.le_of_ble_eq_true rfl) (Nat.le_of_ble_eq_true rfl) (Nat.le_of_ble_eq_true rfl) (fun wf65 H locs ⟨hm65, hF65⟩ hX hS => ?_)
  refine W.eq (g2 := F0 m 29 ls [.int (nI 0)]) rfl ?_
  refine mh_if_eq (tgt := 34) hx hb (by omega) d_MM_part_29 (by decide) (fun _ => ?_) (fun z => absurd z (by omega))
  refine lv_aload_n hx hb d_MM_part_34 rfl (lv_at hl 0 rfl) ?_
  refine lv_iload_n hx hb d_MM_part_35 rfl (lv_at hl 1 rfl) ?_
  refine lv_iconst (v := nI 2) hx hb d_MM_part_36 (by decide) ?_
  refine mh_callV (mh_sV (rest := []) (av := [.int (nI t), .int (nI 2)]) K0 hX hm65 rfl e_MM_shut l_MM_75 k760 kp16 rfl rfl d_MM_part_37) (c_MM_shut0 (x := x) hm65 ((hF65 52 0 (by omega)).trans r52) ht ha (hW.mv (fun z hz => by rw [hF65 _ _ (by omega)]))) K0 hOK hml hl.1 e_MM_shut hX hS d_MM_part_37 (Nat.le_of_ble_eq_true rfl) (Nat.le_of_ble_eq_true rfl) (Nat.le_of_ble_eq_true rfl) (Nat.le_of_ble_eq_true rfl) (Nat.le_of_ble_eq_true rfl) (fun wf66 H locs ⟨hm66, hF66⟩ hX hS => ?_)
  refine W.eq (g2 := F0 m 40 ls [.int (nI 0)]) rfl ?_
  refine mh_if_eq (tgt := 45) hx hb (by omega) d_MM_part_40 (by decide) (fun _ => ?_) (fun z => absurd z (by omega))
  refine lv_aload_n hx hb d_MM_part_45 rfl (lv_at hl 0 rfl) ?_
  refine mh_get K0 hX hm66 f_MM_15 rfl d_MM_part_46 ?_
  refine lv_iload_n hx hb d_MM_part_49 rfl (lv_at hl 1 rfl) ?_
  refine mh_aaldN 7 rfl K0 hX ((hF66 52 0 (by omega)).trans ((hF65 52 0 (by omega)).trans r52)) (by omega) (by omega) (r := (some a)) (ha) d_MM_part_50 ?_
  refine W.eq (g2 := F0 m 51 ls [.ref a]) rfl ?_
  refine lv_astore (lv' := [(5, .ref a), (0, .ref m0), (1, .int (nI t)), (2, .int (nI low)), (3, .int (nI high)), (4, .int (nI q9))]) hx hb d_MM_part_51 hl (by decide) rfl (fun ls hl => ?_)
  refine lv_aload_n hx hb d_MM_part_53 rfl (lv_at hl 1 rfl) ?_
  refine lv_aload hx hb d_MM_part_54 (lv_at hl 0 rfl) ?_
  refine mh_get K0 hX ((hF66 56 t (by omega)).trans ((hF65 56 t (by omega)).trans i0)) f_MM_100 rfl d_MM_part_56 ?_
  refine lv_bipush (v := nI 8) hx hb d_MM_part_59 (by decide) ?_
  refine mh_icmp_ne (tgt := 68) hx hb (by omega) (by omega) d_MM_part_61 (by decide) (fun z => absurd z (by omega)) (fun _ => ?_)
  refine lv_iconst (v := nI 1) hx hb d_MM_part_64 (by decide) ?_
  refine lv_goto (tgt := 69) hx hb d_MM_part_65 (by decide) ?_
  refine lv_iconst (v := nI 3) hx hb d_MM_part_69 (by decide) ?_
  refine mh_callV (mh_sV (rest := []) (av := [.int (nI 1), .int (nI 3)]) K0 hX hm66 rfl e_MM_fails l_MM_57 k748 kp15 rfl rfl d_MM_part_70) (c_MM_fails1 hm66) K0 hOK hml hl.1 e_MM_fails hX hS d_MM_part_70 (Nat.le_of_ble_eq_true rfl) (Nat.le_of_ble_eq_true rfl) (Nat.le_of_ble_eq_true rfl) (Nat.le_of_ble_eq_true rfl) (Nat.le_of_ble_eq_true rfl) (fun wf67 H locs ⟨hm67, hF67⟩ hX hS => ?_)
  refine W.eq (g2 := F0 m 73 ls [.int (nI 1)]) rfl ?_
  refine mh_if_eq (tgt := 78) hx hb (by omega) d_MM_part_73 (by decide) (fun z => absurd z (by omega)) (fun _ => ?_)
  refine lv_lconst (v := 0) hx hb d_MM_part_76 rfl ?_
  exact mh_lret K0 hr hlocks hX hS (⟨rfl, ⟨aG, aO, aA, aV, aH, lg, op, at_, hQ.sc (fun k i h1 h2 h3 h4 => by rw [hF67 _ _ (by omega), hF66 _ _ (by omega), hF65 _ _ (by omega)]) hm67 ⟨_, ((hF67 54 0 (by omega)).trans ((hF66 54 0 (by omega)).trans ((hF65 54 0 (by omega)).trans r54)))⟩ ⟨_, ((hF67 55 0 (by omega)).trans ((hF66 55 0 (by omega)).trans ((hF65 55 0 (by omega)).trans r55)))⟩⟩, fun k i h => by rw [hF67 _ _ (by omega), hF66 _ _ (by omega), hF65 _ _ (by omega)]⟩) (Nat.le_of_ble_eq_true rfl) (Nat.le_of_ble_eq_true rfl) d_MM_part_77
set_option maxHeartbeats 4000000 in
set_option maxRecDepth 100000 in
theorem c_MM_part_0 {l : Launch} {b : Nat} {dC : Nat → ClassId} {dI : Nat → Nat → Nat} {dA : Nat → ClassId} {zs : Nat → Nat} {w : mh_w} {m0 : Nat} {er : Int32} {g : st_G} (hR : rM dA w m0 er g) (hG : sg_ok g) {t : Nat} (ht : t < 16) {low high q9 : Nat} (h1 : low ≤ high) (h2 : high < 256) (h3 : q9 < 4) {x : st_I} (hd : sg_dr g t = some x) (h8 : iv_np x < 8) : mh_Met l b dC dI dA zs y_MM_part (mh_rm 4 10 500) [.ref m0, .int (nI t), .int (nI low), .int (nI high), .int (nI q9)] w (mh_V (some (.long (tl_a (st_vw (sg_lg g) x) low (high + 1 - low) (nI q9)))) (fun w' => rM dA w' m0 (nI 0) (g.1, g.2.1, va_up (sg_dr g) t (some (st_prt x low high)), g.2.2.2) ∧ mh_D w w')) := by
  obtain ⟨aG, aO, aA, aV, aH, lg, op, at_, hQ⟩ := hR
  have hQ2 := hQ
  obtain ⟨r50, r51, r52, r53, ⟨vf, r54⟩, ⟨hf, r55⟩, ra, ro, rl⟩ := hQ2
  have hG2 := hG
  obtain ⟨gn, grs, gat, glo, gdr⟩ := hG2
  refine mh_ofW (cc := b_MM_part) (n := 6) (ret := (some .long)) (hs := []) (by decide) k789 ?_
  intro p e s m below meth c hx hb hr hml hown hts hlocks hnm hT hOK hadm
  have K0 : mh_K0 p s m ([.ref m0, .int (nI t), .int (nI low), .int (nI high), .int (nI q9)]).toArray c "MeldHostModel" b_MM_part dC dI dA := ⟨hx, hb, hown, hts, hOK.1, hOK.2.1⟩
  have hX := hOK.2.2.2.2
  have hb0 := hOK.2.2.2.1
  have hS : va_S (mh_A b) s.heap s.heap [] := va_S.rf
  have hl := lv_entry ([.ref m0, .int (nI t), .int (nI low), .int (nI high), .int (nI q9)]) (n := 6) (Nat.le_of_ble_eq_true rfl)
  rw [lg_entry_eq]
  generalize (lg_sl ([.ref m0, .int (nI t), .int (nI low), .int (nI high), .int (nI q9)]) ++ List.replicate (6 - (lg_sl ([.ref m0, .int (nI t), .int (nI low), .int (nI high), .int (nI q9)])).length) Slot.unset).toArray = ls at hl ⊢
  have hl : lv_has ls 6 [(0, .ref m0), (1, .int (nI t)), (2, .int (nI low)), (3, .int (nI high)), (4, .int (nI q9))] := hl
  obtain ⟨a, x9, ha, hW0, ho9, hx9⟩ := ro t ht
  have ex := hx9 x hd
  subst ex
  have hW : rW dA w 56 t a x true := by rw [hd] at hW0; exact hW0
  have ho := gdr t x ht hd
  have ho2 := ho
  obtain ⟨o1, o2, o3, o4, o5, o6, o7, o8⟩ := ho2
  have hWc := hW
  obtain ⟨a1, a2, a3, a4, a5, a6, rdf, lo, hi, wk, no, nn, i0, i1, i2, i3, i4, i5, i6, hrd, hlo, hwk⟩ := hWc
  refine lv_aload_n hx hb d_MM_part_0 rfl (lv_at hl 0 rfl) ?_
  refine lv_iload_n hx hb d_MM_part_1 rfl (lv_at hl 1 rfl) ?_
  refine lv_bipush (v := nI 16) hx hb d_MM_part_2 (by decide) ?_
  refine mh_callR (mh_sS (rest := [.ref m0]) (av := [.int (nI t), .int (nI 16)]) K0 e_MM_in l_MM_53 k744 rfl rfl d_MM_part_4) (c_MM_in) K0 hOK hml hl.1 e_MM_in hX hS d_MM_part_4 (Nat.le_of_ble_eq_true rfl) (Nat.le_of_ble_eq_true rfl) (Nat.le_of_ble_eq_true rfl) (Nat.le_of_ble_eq_true rfl) (Nat.le_of_ble_eq_true rfl) (fun H locs hX hS => ?_)
  refine W.eq (g2 := F0 m 7 ls [.int (mh_b (st_in (nI t) 16)), .ref m0]) rfl ?_
  refine mh_ifeqB (tgt := 20) hx hb d_MM_part_7 (by decide) (fun z => absurd z (by rw [st_in_nI ht (by decide)]; decide)) (fun _ => ?_)
  refine lv_iload_n hx hb d_MM_part_10 rfl (lv_at hl 2 rfl) ?_
  refine lv_iload_n hx hb d_MM_part_11 rfl (lv_at hl 3 rfl) ?_
  refine lv_iload hx hb d_MM_part_12 (lv_at hl 4 rfl) ?_
  refine mh_callR (mh_sS (rest := [.ref m0]) (av := [.int (nI low), .int (nI high), .int (nI q9)]) K0 e_MM_bad l_MM_96 k791 rfl rfl d_MM_part_14) (c_MM_bad) K0 hOK hml hl.1 e_MM_bad hX hS d_MM_part_14 (Nat.le_of_ble_eq_true rfl) (Nat.le_of_ble_eq_true rfl) (Nat.le_of_ble_eq_true rfl) (Nat.le_of_ble_eq_true rfl) (Nat.le_of_ble_eq_true rfl) (fun H locs hX hS => ?_)
  refine W.eq (g2 := F0 m 17 ls [.int (mh_b (!sp_pt (nI low) (nI high) (nI q9))), .ref m0]) rfl ?_
  refine mh_ifeqB (tgt := 24) hx hb d_MM_part_17 (by decide) (fun _ => ?_) (fun z => absurd z (by rw [sp_pt_ok h1 h2 h3]; decide))
  refine lv_iconst (v := nI 0) hx hb d_MM_part_24 (by decide) ?_
  refine lv_iconst (v := nI 1) hx hb d_MM_part_25 (by decide) ?_
  refine mh_callV (mh_sV (rest := []) (av := [.int (nI 0), .int (nI 1)]) K0 hX r50 rfl e_MM_fails l_MM_57 k748 kp15 rfl rfl d_MM_part_26) (c_MM_fails0 r50) K0 hOK hml hl.1 e_MM_fails hX hS d_MM_part_26 (Nat.le_of_ble_eq_true rfl) (Nat.le_of_ble_eq_true rfl) (Nat.le_of_ble_eq_true rfl) (Nat.le_of_ble_eq_true rfl) (Nat.le_of_ble_eq_true rfl) (fun wf68 H locs ⟨hm68, hF68⟩ hX hS => ?_)
  refine W.eq (g2 := F0 m 29 ls [.int (nI 0)]) rfl ?_
  refine mh_if_eq (tgt := 34) hx hb (by omega) d_MM_part_29 (by decide) (fun _ => ?_) (fun z => absurd z (by omega))
  refine lv_aload_n hx hb d_MM_part_34 rfl (lv_at hl 0 rfl) ?_
  refine lv_iload_n hx hb d_MM_part_35 rfl (lv_at hl 1 rfl) ?_
  refine lv_iconst (v := nI 2) hx hb d_MM_part_36 (by decide) ?_
  refine mh_callV (mh_sV (rest := []) (av := [.int (nI t), .int (nI 2)]) K0 hX hm68 rfl e_MM_shut l_MM_75 k760 kp16 rfl rfl d_MM_part_37) (c_MM_shut0 (x := x) hm68 ((hF68 52 0 (by omega)).trans r52) ht ha (hW.mv (fun z hz => by rw [hF68 _ _ (by omega)]))) K0 hOK hml hl.1 e_MM_shut hX hS d_MM_part_37 (Nat.le_of_ble_eq_true rfl) (Nat.le_of_ble_eq_true rfl) (Nat.le_of_ble_eq_true rfl) (Nat.le_of_ble_eq_true rfl) (Nat.le_of_ble_eq_true rfl) (fun wf69 H locs ⟨hm69, hF69⟩ hX hS => ?_)
  refine W.eq (g2 := F0 m 40 ls [.int (nI 0)]) rfl ?_
  refine mh_if_eq (tgt := 45) hx hb (by omega) d_MM_part_40 (by decide) (fun _ => ?_) (fun z => absurd z (by omega))
  refine lv_aload_n hx hb d_MM_part_45 rfl (lv_at hl 0 rfl) ?_
  refine mh_get K0 hX hm69 f_MM_15 rfl d_MM_part_46 ?_
  refine lv_iload_n hx hb d_MM_part_49 rfl (lv_at hl 1 rfl) ?_
  refine mh_aaldN 7 rfl K0 hX ((hF69 52 0 (by omega)).trans ((hF68 52 0 (by omega)).trans r52)) (by omega) (by omega) (r := (some a)) (ha) d_MM_part_50 ?_
  refine W.eq (g2 := F0 m 51 ls [.ref a]) rfl ?_
  refine lv_astore (lv' := [(5, .ref a), (0, .ref m0), (1, .int (nI t)), (2, .int (nI low)), (3, .int (nI high)), (4, .int (nI q9))]) hx hb d_MM_part_51 hl (by decide) rfl (fun ls hl => ?_)
  refine lv_aload_n hx hb d_MM_part_53 rfl (lv_at hl 1 rfl) ?_
  refine lv_aload hx hb d_MM_part_54 (lv_at hl 0 rfl) ?_
  refine mh_get K0 hX ((hF69 56 t (by omega)).trans ((hF68 56 t (by omega)).trans i0)) f_MM_100 rfl d_MM_part_56 ?_
  refine lv_bipush (v := nI 8) hx hb d_MM_part_59 (by decide) ?_
  refine mh_icmp_ne (tgt := 68) hx hb (by omega) (by omega) d_MM_part_61 (by decide) (fun _ => ?_) (fun z => absurd z (by omega))
  refine lv_iconst (v := nI 0) hx hb d_MM_part_68 (by decide) ?_
  refine lv_iconst (v := nI 3) hx hb d_MM_part_69 (by decide) ?_
  refine mh_callV (mh_sV (rest := []) (av := [.int (nI 0), .int (nI 3)]) K0 hX hm69 rfl e_MM_fails l_MM_57 k748 kp15 rfl rfl d_MM_part_70) (c_MM_fails0 hm69) K0 hOK hml hl.1 e_MM_fails hX hS d_MM_part_70 (Nat.le_of_ble_eq_true rfl) (Nat.le_of_ble_eq_true rfl) (Nat.le_of_ble_eq_true rfl) (Nat.le_of_ble_eq_true rfl) (Nat.le_of_ble_eq_true rfl) (fun wf70 H locs ⟨hm70, hF70⟩ hX hS => ?_)
  refine W.eq (g2 := F0 m 73 ls [.int (nI 0)]) rfl ?_
  refine mh_if_eq (tgt := 78) hx hb (by omega) d_MM_part_73 (by decide) (fun _ => ?_) (fun z => absurd z (by omega))
  refine lv_aload hx hb d_MM_part_78 (lv_at hl 0 rfl) ?_
  refine mh_get K0 hX ((hF70 56 t (by omega)).trans ((hF69 56 t (by omega)).trans ((hF68 56 t (by omega)).trans i0))) f_MM_103 rfl d_MM_part_80 ?_
  refine lv_aload hx hb d_MM_part_83 (lv_at hl 0 rfl) ?_
  refine mh_get K0 hX ((hF70 56 t (by omega)).trans ((hF69 56 t (by omega)).trans ((hF68 56 t (by omega)).trans i0))) f_MM_100 rfl d_MM_part_85 ?_
  refine lv_iload_n hx hb d_MM_part_88 rfl (lv_at hl 3 rfl) ?_
  refine mh_iastN K0 hX hS ((hF70 58 t (by omega)).trans ((hF69 58 t (by omega)).trans ((hF68 58 t (by omega)).trans i2))) (by omega) (by omega) d_MM_part_89 (fun H locs hX hS => ?_)
  have fs119 := mh_self hX
  refine lv_aload hx hb d_MM_part_90 (lv_at hl 0 rfl) ?_
  refine mh_get K0 hX (mh_kp ((hF70 56 t (by omega)).trans ((hF69 56 t (by omega)).trans ((hF68 56 t (by omega)).trans i0))) (by omega)) f_MM_106 rfl d_MM_part_92 ?_
  refine lv_aload hx hb d_MM_part_95 (lv_at hl 0 rfl) ?_
  refine lv_dup hx hb d_MM_part_97 rfl ?_
  refine mh_get K0 hX (mh_kp ((hF70 56 t (by omega)).trans ((hF69 56 t (by omega)).trans ((hF68 56 t (by omega)).trans i0))) (by omega)) f_MM_100 rfl d_MM_part_98 ?_
  refine lv_dup_x1 hx hb d_MM_part_101 rfl rfl ?_
  refine lv_iconst (v := nI 1) hx hb d_MM_part_102 (by decide) ?_
  refine mh_addN hx hb d_MM_part_103 ?_
  refine mh_put K0 hX hS (mh_kp ((hF70 56 t (by omega)).trans ((hF69 56 t (by omega)).trans ((hF68 56 t (by omega)).trans i0))) (by omega)) f_MM_100 p_6_3 rfl rfl (Nat.le_of_ble_eq_true rfl) d_MM_part_104 (fun H locs hX hS => ?_)
  have hX : mh_P (dC, dI) b (mh_set _ 56 t (some (a, .inr (6, [.int (nI (iv_sn x)), .int (nI (iv_lv x)), .int (nI (iv_sv x)), .int (nI ((iv_np x) + 1)), .int (nI (iv_nw x)), .int (nI (pb_cnt (iv_rd x) 256)), .int (mh_b true), .int (mh_b (iv_gd x)), .ref a1, .ref a2, .ref a3, .ref a4, .ref a5, .ref a6])))) H := hX
  have fs120 := mh_self hX
  refine lv_iload_n hx hb d_MM_part_107 rfl (lv_at hl 4 rfl) ?_
  refine mh_iastN K0 hX hS (mh_kp (mh_kp ((hF70 59 t (by omega)).trans ((hF69 59 t (by omega)).trans ((hF68 59 t (by omega)).trans i3))) (by omega)) (by omega)) (by omega) (by omega) d_MM_part_108 (fun H locs hX hS => ?_)
  have fs121 := mh_self hX
  refine lv_aload_n hx hb d_MM_part_109 rfl (lv_at hl 1 rfl) ?_
  refine lv_aload hx hb d_MM_part_110 (lv_at hl 0 rfl) ?_
  refine mh_get K0 hX (mh_kp fs120 (by omega)) f_MM_72 rfl d_MM_part_112 ?_
  have hW9 : rW dA (mh_set (mh_set (mh_set wf70 58 t (some (a2, .inl (dA 0, 8, .inl (upd lo (iv_np x) (nI low)))))) 56 t (some (a, .inr (6, [.int (nI (iv_sn x)), .int (nI (iv_lv x)), .int (nI (iv_sv x)), .int (nI ((iv_np x) + 1)), .int (nI (iv_nw x)), .int (nI (pb_cnt (iv_rd x) 256)), .int (mh_b true), .int (mh_b (iv_gd x)), .ref a1, .ref a2, .ref a3, .ref a4, .ref a5, .ref a6])))) 59 t (some (a3, .inl (dA 0, 8, .inl (upd hi (iv_np x) (nI high)))))) 56 t a (st_prt x low high) true := ⟨a1, a2, a3, a4, a5, a6, rdf, _, _, wk, no, nn, (mh_kp fs120 (by omega)), (mh_kp (mh_kp (mh_kp ((hF70 57 t (by omega)).trans ((hF69 57 t (by omega)).trans ((hF68 57 t (by omega)).trans i1))) (by omega)) (by omega)) (by omega)), (mh_kp (mh_kp fs119 (by omega)) (by omega)), fs121, (mh_kp (mh_kp (mh_kp ((hF70 60 t (by omega)).trans ((hF69 60 t (by omega)).trans ((hF68 60 t (by omega)).trans i4))) (by omega)) (by omega)) (by omega)), (mh_kp (mh_kp (mh_kp ((hF70 61 t (by omega)).trans ((hF69 61 t (by omega)).trans ((hF68 61 t (by omega)).trans i5))) (by omega)) (by omega)) (by omega)), (mh_kp (mh_kp (mh_kp ((hF70 62 t (by omega)).trans ((hF69 62 t (by omega)).trans ((hF68 62 t (by omega)).trans i6))) (by omega)) (by omega)) (by omega)), hrd, fun j hj => (by
    have hj : j < iv_np x + 1 := hj
    show upd lo (iv_np x) (nI low) j = nI (va_up (iv_lo x) (iv_np x) low j) ∧ upd hi (iv_np x) (nI high) j = nI (va_up (iv_hi x) (iv_np x) high j)
    by_cases e9 : j = iv_np x
    · rw [e9, pk_us, pk_us, va_up_self, va_up_self]; exact ⟨rfl, rfl⟩
    · rw [pk_un e9, pk_un e9, va_up_ne _ _ e9, va_up_ne _ _ e9]; exact hlo j (by omega)), hwk⟩
  refine mh_callV (mh_sV (rest := []) (av := [.int (nI (iv_sn x))]) K0 hX (mh_kp (mh_kp (mh_kp hm70 (by omega)) (by omega)) (by omega)) rfl e_MM_upTo l_MM_88 k768 kp17 rfl rfl d_MM_part_115) (c_MM_upTo (log := sg_lg g) (mh_kp (mh_kp (mh_kp hm70 (by omega)) (by omega)) (by omega)) (mh_kp (mh_kp (mh_kp ((hF70 51 0 (by omega)).trans ((hF69 51 0 (by omega)).trans ((hF68 51 0 (by omega)).trans r51))) (by omega)) (by omega)) (by omega)) (n0 := (iv_sn x)) (by omega) (fun i hi => (rl i (by omega)).imp (fun aa h => ⟨h.1, h.2.mv (fun z hz => by rw [mh_set_ne _ _ _ _ (by omega), mh_set_ne _ _ _ _ (by omega), mh_set_ne _ _ _ _ (by omega), hF70 _ _ (by omega), hF69 _ _ (by omega), hF68 _ _ (by omega)])⟩)) (fun i hi => glo i (by omega)) ⟨_, (mh_kp (mh_kp (mh_kp ((hF70 54 0 (by omega)).trans ((hF69 54 0 (by omega)).trans ((hF68 54 0 (by omega)).trans r54))) (by omega)) (by omega)) (by omega))⟩ ⟨_, (mh_kp (mh_kp (mh_kp ((hF70 55 0 (by omega)).trans ((hF69 55 0 (by omega)).trans ((hF68 55 0 (by omega)).trans r55))) (by omega)) (by omega)) (by omega))⟩) K0 hOK hml hl.1 e_MM_upTo hX hS d_MM_part_115 (Nat.le_of_ble_eq_true rfl) (Nat.le_of_ble_eq_true rfl) (Nat.le_of_ble_eq_true rfl) (Nat.le_of_ble_eq_true rfl) (Nat.le_of_ble_eq_true rfl) (fun wf71 H locs ⟨hT71, hF71⟩ hX hS => ?_)
  refine W.eq (g2 := F0 m 118 ls []) rfl ?_
  refine lv_aload_n hx hb d_MM_part_118 rfl (lv_at hl 1 rfl) ?_
  refine lv_aload hx hb d_MM_part_119 (lv_at hl 0 rfl) ?_
  refine mh_callV (mh_sV (rest := []) (av := [.ref a]) K0 hX ((hF71 50 0 (by omega)).trans (mh_kp (mh_kp (mh_kp hm70 (by omega)) (by omega)) (by omega))) rfl e_MM_apply l_MM_39 k772 kp18 rfl rfl d_MM_part_121) (c_MM_apply ((hF71 50 0 (by omega)).trans (mh_kp (mh_kp (mh_kp hm70 (by omega)) (by omega)) (by omega))) hT71 (hW9.mv (fun z hz => hF71 _ _ (by omega))) (st_prt_ok ho h1 h2 h8) (by omega)) K0 hOK hml hl.1 e_MM_apply hX hS d_MM_part_121 (Nat.le_of_ble_eq_true rfl) (Nat.le_of_ble_eq_true rfl) (Nat.le_of_ble_eq_true rfl) (Nat.le_of_ble_eq_true rfl) (Nat.le_of_ble_eq_true rfl) (fun wf72 H locs ⟨hT72, hF72⟩ hX hS => ?_)
  refine W.eq (g2 := F0 m 124 ls []) rfl ?_
  refine lv_aload_n hx hb d_MM_part_124 rfl (lv_at hl 1 rfl) ?_
  refine lv_iload_n hx hb d_MM_part_125 rfl (lv_at hl 3 rfl) ?_
  refine lv_iload_n hx hb d_MM_part_126 rfl (lv_at hl 4 rfl) ?_
  refine lv_iload hx hb d_MM_part_127 (lv_at hl 5 rfl) ?_
  refine mh_callR (mh_sV (rest := []) (av := [.int (nI low), .int (nI high), .int (nI q9)]) K0 hX ((hF72 50 0 (by omega)).trans ((hF71 50 0 (by omega)).trans (mh_kp (mh_kp (mh_kp hm70 (by omega)) (by omega)) (by omega)))) rfl e_MM_told l_MM_109 k795 kp20 rfl rfl d_MM_part_129) (c_MM_told (st := st_vw (sg_lg g) x) ((hF72 50 0 (by omega)).trans ((hF71 50 0 (by omega)).trans (mh_kp (mh_kp (mh_kp hm70 (by omega)) (by omega)) (by omega)))) hT72 h1 h2 h3) K0 hOK hml hl.1 e_MM_told hX hS d_MM_part_129 (Nat.le_of_ble_eq_true rfl) (Nat.le_of_ble_eq_true rfl) (Nat.le_of_ble_eq_true rfl) (Nat.le_of_ble_eq_true rfl) (Nat.le_of_ble_eq_true rfl) (fun H locs hX hS => ?_)
  refine W.eq (g2 := F0 m 132 ls [.long (tl_a (st_vw (sg_lg g) x) low (high + 1 - low) (nI q9))]) rfl ?_
  obtain ⟨vf72, hf72, t54_72, t55_72, ht72⟩ := hT72
  exact mh_lret K0 hr hlocks hX hS (⟨rfl, ⟨aG, aO, aA, aV, aH, lg, op, at_, hQ.tx (x := (st_prt x low high)) (fun k i h0 h1 h2 h3 h4 => by rw [hF72 _ _ (by omega), hF71 _ _ (by omega), mh_set_ne _ _ _ _ (by omega), mh_set_ne _ _ _ _ (by omega), mh_set_ne _ _ _ _ (by omega), hF70 _ _ (by omega), hF69 _ _ (by omega), hF68 _ _ (by omega)]) ((hF72 50 0 (by omega)).trans ((hF71 50 0 (by omega)).trans (mh_kp (mh_kp (mh_kp hm70 (by omega)) (by omega)) (by omega)))) ⟨_, t54_72⟩ ⟨_, t55_72⟩ ha (hW9.mv (fun z hz => by rw [hF72 _ _ (by omega), hF71 _ _ (by omega)])) (st_prt_ok ho9 h1 h2 h8) (fun x2 hx2 => by cases hx2; rfl)⟩, fun k i h => by rw [hF72 _ _ (by omega), hF71 _ _ (by omega), mh_set_ne _ _ _ _ (by omega), mh_set_ne _ _ _ _ (by omega), mh_set_ne _ _ _ _ (by omega), hF70 _ _ (by omega), hF69 _ _ (by omega), hF68 _ _ (by omega)]⟩) (Nat.le_of_ble_eq_true rfl) (Nat.le_of_ble_eq_true rfl) d_MM_part_132
set_option maxHeartbeats 4000000 in
set_option maxRecDepth 100000 in
theorem c_MM_abort_0 {l : Launch} {b : Nat} {dC : Nat → ClassId} {dI : Nat → Nat → Nat} {dA : Nat → ClassId} {zs : Nat → Nat} {w : mh_w} {m0 : Nat} {er : Int32} {g : st_G} (hR : rM dA w m0 er g) (hG : sg_ok g) {t : Nat} (ht : t < 16) {x : st_I} (hd : sg_dr g t = some x) : mh_Met l b dC dI dA zs y_MM_abort (mh_rm 4 10 500) [.ref m0, .int (nI t)] w (mh_V none (fun w' => rM dA w' m0 (nI 0) (g.1, g.2.1, va_up (sg_dr g) t none, g.2.2.2) ∧ mh_D w w')) := by
  obtain ⟨aG, aO, aA, aV, aH, lg, op, at_, hQ⟩ := hR
  have hQ2 := hQ
  obtain ⟨r50, r51, r52, r53, ⟨vf, r54⟩, ⟨hf, r55⟩, ra, ro, rl⟩ := hQ2
  have hG2 := hG
  obtain ⟨gn, grs, gat, glo, gdr⟩ := hG2
  refine mh_ofW (cc := b_MM_abort) (n := 2) (ret := none) (hs := []) (by decide) k808 ?_
  intro p e s m below meth c hx hb hr hml hown hts hlocks hnm hT hOK hadm
  have K0 : mh_K0 p s m ([.ref m0, .int (nI t)]).toArray c "MeldHostModel" b_MM_abort dC dI dA := ⟨hx, hb, hown, hts, hOK.1, hOK.2.1⟩
  have hX := hOK.2.2.2.2
  have hb0 := hOK.2.2.2.1
  have hS : va_S (mh_A b) s.heap s.heap [] := va_S.rf
  have hl := lv_entry ([.ref m0, .int (nI t)]) (n := 2) (Nat.le_of_ble_eq_true rfl)
  rw [lg_entry_eq]
  generalize (lg_sl ([.ref m0, .int (nI t)]) ++ List.replicate (2 - (lg_sl ([.ref m0, .int (nI t)])).length) Slot.unset).toArray = ls at hl ⊢
  have hl : lv_has ls 2 [(0, .ref m0), (1, .int (nI t))] := hl
  obtain ⟨a, x9, ha, hW0, ho9, hx9⟩ := ro t ht
  have ex := hx9 x hd
  subst ex
  have hW : rW dA w 56 t a x true := by rw [hd] at hW0; exact hW0
  have ho := gdr t x ht hd
  have ho2 := ho
  obtain ⟨o1, o2, o3, o4, o5, o6, o7, o8⟩ := ho2
  have hWc := hW
  obtain ⟨a1, a2, a3, a4, a5, a6, rdf, lo, hi, wk, no, nn, i0, i1, i2, i3, i4, i5, i6, hrd, hlo, hwk⟩ := hWc
  refine lv_aload_n hx hb d_MM_abort_0 rfl (lv_at hl 0 rfl) ?_
  refine lv_iload_n hx hb d_MM_abort_1 rfl (lv_at hl 1 rfl) ?_
  refine lv_bipush (v := nI 16) hx hb d_MM_abort_2 (by decide) ?_
  refine mh_callR (mh_sS (rest := [.ref m0]) (av := [.int (nI t), .int (nI 16)]) K0 e_MM_in l_MM_53 k744 rfl rfl d_MM_abort_4) (c_MM_in) K0 hOK hml hl.1 e_MM_in hX hS d_MM_abort_4 (Nat.le_of_ble_eq_true rfl) (Nat.le_of_ble_eq_true rfl) (Nat.le_of_ble_eq_true rfl) (Nat.le_of_ble_eq_true rfl) (Nat.le_of_ble_eq_true rfl) (fun H locs hX hS => ?_)
  refine W.eq (g2 := F0 m 7 ls [.int (mh_b (st_in (nI t) 16)), .ref m0]) rfl ?_
  refine mh_ifneB (tgt := 14) hx hb d_MM_abort_7 (by decide) (fun _ => ?_) (fun z => absurd z (by rw [st_in_nI ht (by decide)]; decide))
  refine lv_iconst (v := nI 0) hx hb d_MM_abort_14 (by decide) ?_
  refine lv_iconst (v := nI 1) hx hb d_MM_abort_15 (by decide) ?_
  refine mh_callV (mh_sV (rest := []) (av := [.int (nI 0), .int (nI 1)]) K0 hX r50 rfl e_MM_fails l_MM_57 k748 kp15 rfl rfl d_MM_abort_16) (c_MM_fails0 r50) K0 hOK hml hl.1 e_MM_fails hX hS d_MM_abort_16 (Nat.le_of_ble_eq_true rfl) (Nat.le_of_ble_eq_true rfl) (Nat.le_of_ble_eq_true rfl) (Nat.le_of_ble_eq_true rfl) (Nat.le_of_ble_eq_true rfl) (fun wf73 H locs ⟨hm73, hF73⟩ hX hS => ?_)
  refine W.eq (g2 := F0 m 19 ls [.int (nI 0)]) rfl ?_
  refine mh_if_eq (tgt := 23) hx hb (by omega) d_MM_abort_19 (by decide) (fun _ => ?_) (fun z => absurd z (by omega))
  refine lv_aload_n hx hb d_MM_abort_23 rfl (lv_at hl 0 rfl) ?_
  refine lv_iload_n hx hb d_MM_abort_24 rfl (lv_at hl 1 rfl) ?_
  refine lv_iconst (v := nI 2) hx hb d_MM_abort_25 (by decide) ?_
  refine mh_callV (mh_sV (rest := []) (av := [.int (nI t), .int (nI 2)]) K0 hX hm73 rfl e_MM_shut l_MM_75 k760 kp16 rfl rfl d_MM_abort_26) (c_MM_shut0 (x := x) hm73 ((hF73 52 0 (by omega)).trans r52) ht ha (hW.mv (fun z hz => by rw [hF73 _ _ (by omega)]))) K0 hOK hml hl.1 e_MM_shut hX hS d_MM_abort_26 (Nat.le_of_ble_eq_true rfl) (Nat.le_of_ble_eq_true rfl) (Nat.le_of_ble_eq_true rfl) (Nat.le_of_ble_eq_true rfl) (Nat.le_of_ble_eq_true rfl) (fun wf74 H locs ⟨hm74, hF74⟩ hX hS => ?_)
  refine W.eq (g2 := F0 m 29 ls [.int (nI 0)]) rfl ?_
  refine mh_if_eq (tgt := 33) hx hb (by omega) d_MM_abort_29 (by decide) (fun _ => ?_) (fun z => absurd z (by omega))
  refine lv_aload_n hx hb d_MM_abort_33 rfl (lv_at hl 0 rfl) ?_
  refine mh_get K0 hX hm74 f_MM_15 rfl d_MM_abort_34 ?_
  refine lv_iload_n hx hb d_MM_abort_37 rfl (lv_at hl 1 rfl) ?_
  refine mh_aaldN 7 rfl K0 hX ((hF74 52 0 (by omega)).trans ((hF73 52 0 (by omega)).trans r52)) (by omega) (by omega) (r := (some a)) (ha) d_MM_abort_38 ?_
  refine W.eq (g2 := F0 m 39 ls [.ref a]) rfl ?_
  refine lv_iconst (v := nI 0) hx hb d_MM_abort_39 (by decide) ?_
  refine mh_put K0 hX hS ((hF74 56 t (by omega)).trans ((hF73 56 t (by omega)).trans i0)) f_MM_61 p_6_6 (by decide) (by decide) (Nat.le_of_ble_eq_true rfl) d_MM_abort_40 (fun H locs hX hS => ?_)
  have hX : mh_P (dC, dI) b (mh_set _ 56 t (some (a, .inr (6, [.int (nI (iv_sn x)), .int (nI (iv_lv x)), .int (nI (iv_sv x)), .int (nI (iv_np x)), .int (nI (iv_nw x)), .int (nI (pb_cnt (iv_rd x) 256)), .int (nI 0), .int (mh_b (iv_gd x)), .ref a1, .ref a2, .ref a3, .ref a4, .ref a5, .ref a6])))) H := hX
  have fs122 := mh_self hX
  exact mh_vret K0 hr hlocks hX hS (⟨rfl, ⟨aG, aO, aA, aV, aH, lg, op, at_, hQ.tx (x := x) (fun k i h0 h1 h2 h3 h4 => by rw [mh_set_ne _ _ _ _ (by omega), hF74 _ _ (by omega), hF73 _ _ (by omega)]) (mh_kp hm74 (by omega)) ⟨_, (mh_kp ((hF74 54 0 (by omega)).trans ((hF73 54 0 (by omega)).trans r54)) (by omega))⟩ ⟨_, (mh_kp ((hF74 55 0 (by omega)).trans ((hF73 55 0 (by omega)).trans r55)) (by omega))⟩ ha (⟨a1, a2, a3, a4, a5, a6, rdf, lo, hi, wk, no, nn, fs122, (mh_kp ((hF74 57 t (by omega)).trans ((hF73 57 t (by omega)).trans i1)) (by omega)), (mh_kp ((hF74 58 t (by omega)).trans ((hF73 58 t (by omega)).trans i2)) (by omega)), (mh_kp ((hF74 59 t (by omega)).trans ((hF73 59 t (by omega)).trans i3)) (by omega)), (mh_kp ((hF74 60 t (by omega)).trans ((hF73 60 t (by omega)).trans i4)) (by omega)), (mh_kp ((hF74 61 t (by omega)).trans ((hF73 61 t (by omega)).trans i5)) (by omega)), (mh_kp ((hF74 62 t (by omega)).trans ((hF73 62 t (by omega)).trans i6)) (by omega)), hrd, hlo, hwk⟩) (ho9) (fun x2 hx2 => by cases hx2)⟩, fun k i h => by rw [mh_set_ne _ _ _ _ (by omega), hF74 _ _ (by omega), hF73 _ _ (by omega)]⟩) (Nat.le_of_ble_eq_true rfl) (Nat.le_of_ble_eq_true rfl) d_MM_abort_43
set_option maxHeartbeats 4000000 in
set_option maxRecDepth 100000 in
theorem c_MM_commit_00 {l : Launch} {b : Nat} {dC : Nat → ClassId} {dI : Nat → Nat → Nat} {dA : Nat → ClassId} {zs : Nat → Nat} {w : mh_w} {m0 : Nat} {er : Int32} {g : st_G} (hR : rM dA w m0 er g) (hG : sg_ok g) {t : Nat} (ht : t < 16) {x : st_I} (hd : sg_dr g t = some x) (h0 : iv_nw x = 0) : mh_Met l b dC dI dA zs y_MM_commit (mh_rm 4 10 500) [.ref m0, .int (nI t)] w (mh_V (some (.int (-1))) (fun w' => rM dA w' m0 (nI 0) (g.1, g.2.1, va_up (sg_dr g) t none, g.2.2.2) ∧ mh_D w w')) := by
  obtain ⟨aG, aO, aA, aV, aH, lg, op, at_, hQ⟩ := hR
  have hQ2 := hQ
  obtain ⟨r50, r51, r52, r53, ⟨vf, r54⟩, ⟨hf, r55⟩, ra, ro, rl⟩ := hQ2
  have hG2 := hG
  obtain ⟨gn, grs, gat, glo, gdr⟩ := hG2
  refine mh_ofW (cc := b_MM_commit) (n := 3) (ret := (some .int)) (hs := []) (by decide) k800 ?_
  intro p e s m below meth c hx hb hr hml hown hts hlocks hnm hT hOK hadm
  have K0 : mh_K0 p s m ([.ref m0, .int (nI t)]).toArray c "MeldHostModel" b_MM_commit dC dI dA := ⟨hx, hb, hown, hts, hOK.1, hOK.2.1⟩
  have hX := hOK.2.2.2.2
  have hb0 := hOK.2.2.2.1
  have hS : va_S (mh_A b) s.heap s.heap [] := va_S.rf
  have hl := lv_entry ([.ref m0, .int (nI t)]) (n := 3) (Nat.le_of_ble_eq_true rfl)
  rw [lg_entry_eq]
  generalize (lg_sl ([.ref m0, .int (nI t)]) ++ List.replicate (3 - (lg_sl ([.ref m0, .int (nI t)])).length) Slot.unset).toArray = ls at hl ⊢
  have hl : lv_has ls 3 [(0, .ref m0), (1, .int (nI t))] := hl
  obtain ⟨a, x9, ha, hW0, ho9, hx9⟩ := ro t ht
  have ex := hx9 x hd
  subst ex
  have hW : rW dA w 56 t a x true := by rw [hd] at hW0; exact hW0
  have ho := gdr t x ht hd
  have ho2 := ho
  obtain ⟨o1, o2, o3, o4, o5, o6, o7, o8⟩ := ho2
  have hWc := hW
  obtain ⟨a1, a2, a3, a4, a5, a6, rdf, lo, hi, wk, no, nn, i0, i1, i2, i3, i4, i5, i6, hrd, hlo, hwk⟩ := hWc
  refine lv_aload_n hx hb d_MM_commit_0 rfl (lv_at hl 0 rfl) ?_
  refine lv_iload_n hx hb d_MM_commit_1 rfl (lv_at hl 1 rfl) ?_
  refine lv_bipush (v := nI 16) hx hb d_MM_commit_2 (by decide) ?_
  refine mh_callR (mh_sS (rest := [.ref m0]) (av := [.int (nI t), .int (nI 16)]) K0 e_MM_in l_MM_53 k744 rfl rfl d_MM_commit_4) (c_MM_in) K0 hOK hml hl.1 e_MM_in hX hS d_MM_commit_4 (Nat.le_of_ble_eq_true rfl) (Nat.le_of_ble_eq_true rfl) (Nat.le_of_ble_eq_true rfl) (Nat.le_of_ble_eq_true rfl) (Nat.le_of_ble_eq_true rfl) (fun H locs hX hS => ?_)
  refine W.eq (g2 := F0 m 7 ls [.int (mh_b (st_in (nI t) 16)), .ref m0]) rfl ?_
  refine mh_ifneB (tgt := 14) hx hb d_MM_commit_7 (by decide) (fun _ => ?_) (fun z => absurd z (by rw [st_in_nI ht (by decide)]; decide))
  refine lv_iconst (v := nI 0) hx hb d_MM_commit_14 (by decide) ?_
  refine lv_iconst (v := nI 1) hx hb d_MM_commit_15 (by decide) ?_
  refine mh_callV (mh_sV (rest := []) (av := [.int (nI 0), .int (nI 1)]) K0 hX r50 rfl e_MM_fails l_MM_57 k748 kp15 rfl rfl d_MM_commit_16) (c_MM_fails0 r50) K0 hOK hml hl.1 e_MM_fails hX hS d_MM_commit_16 (Nat.le_of_ble_eq_true rfl) (Nat.le_of_ble_eq_true rfl) (Nat.le_of_ble_eq_true rfl) (Nat.le_of_ble_eq_true rfl) (Nat.le_of_ble_eq_true rfl) (fun wf75 H locs ⟨hm75, hF75⟩ hX hS => ?_)
  refine W.eq (g2 := F0 m 19 ls [.int (nI 0)]) rfl ?_
  refine mh_if_eq (tgt := 24) hx hb (by omega) d_MM_commit_19 (by decide) (fun _ => ?_) (fun z => absurd z (by omega))
  refine lv_aload_n hx hb d_MM_commit_24 rfl (lv_at hl 0 rfl) ?_
  refine lv_iload_n hx hb d_MM_commit_25 rfl (lv_at hl 1 rfl) ?_
  refine lv_iconst (v := nI 2) hx hb d_MM_commit_26 (by decide) ?_
  refine mh_callV (mh_sV (rest := []) (av := [.int (nI t), .int (nI 2)]) K0 hX hm75 rfl e_MM_shut l_MM_75 k760 kp16 rfl rfl d_MM_commit_27) (c_MM_shut0 (x := x) hm75 ((hF75 52 0 (by omega)).trans r52) ht ha (hW.mv (fun z hz => by rw [hF75 _ _ (by omega)]))) K0 hOK hml hl.1 e_MM_shut hX hS d_MM_commit_27 (Nat.le_of_ble_eq_true rfl) (Nat.le_of_ble_eq_true rfl) (Nat.le_of_ble_eq_true rfl) (Nat.le_of_ble_eq_true rfl) (Nat.le_of_ble_eq_true rfl) (fun wf76 H locs ⟨hm76, hF76⟩ hX hS => ?_)
  refine W.eq (g2 := F0 m 30 ls [.int (nI 0)]) rfl ?_
  refine mh_if_eq (tgt := 35) hx hb (by omega) d_MM_commit_30 (by decide) (fun _ => ?_) (fun z => absurd z (by omega))
  refine lv_aload_n hx hb d_MM_commit_35 rfl (lv_at hl 0 rfl) ?_
  refine mh_get K0 hX hm76 f_MM_15 rfl d_MM_commit_36 ?_
  refine lv_iload_n hx hb d_MM_commit_39 rfl (lv_at hl 1 rfl) ?_
  refine mh_aaldN 7 rfl K0 hX ((hF76 52 0 (by omega)).trans ((hF75 52 0 (by omega)).trans r52)) (by omega) (by omega) (r := (some a)) (ha) d_MM_commit_40 ?_
  refine W.eq (g2 := F0 m 41 ls [.ref a]) rfl ?_
  refine lv_astore_n (lv' := [(2, .ref a), (0, .ref m0), (1, .int (nI t))]) hx hb d_MM_commit_41 rfl hl (by decide) rfl (fun ls hl => ?_)
  refine lv_aload_n hx hb d_MM_commit_42 rfl (lv_at hl 0 rfl) ?_
  refine mh_get K0 hX ((hF76 56 t (by omega)).trans ((hF75 56 t (by omega)).trans i0)) f_MM_43 rfl d_MM_commit_43 ?_
  refine mh_if_le (tgt := 125) hx hb (by omega) d_MM_commit_46 (by decide) (fun _ => ?_) (fun z => absurd z (by omega))
  refine lv_aload_n hx hb d_MM_commit_125 rfl (lv_at hl 0 rfl) ?_
  refine lv_iconst (v := nI 0) hx hb d_MM_commit_126 (by decide) ?_
  refine mh_put K0 hX hS ((hF76 56 t (by omega)).trans ((hF75 56 t (by omega)).trans i0)) f_MM_61 p_6_6 (by decide) (by decide) (Nat.le_of_ble_eq_true rfl) d_MM_commit_127 (fun H locs hX hS => ?_)
  have hX : mh_P (dC, dI) b (mh_set _ 56 t (some (a, .inr (6, [.int (nI (iv_sn x)), .int (nI (iv_lv x)), .int (nI (iv_sv x)), .int (nI (iv_np x)), .int (nI (iv_nw x)), .int (nI (pb_cnt (iv_rd x) 256)), .int (nI 0), .int (mh_b (iv_gd x)), .ref a1, .ref a2, .ref a3, .ref a4, .ref a5, .ref a6])))) H := hX
  have fs123 := mh_self hX
  refine lv_aload_n hx hb d_MM_commit_130 rfl (lv_at hl 0 rfl) ?_
  refine mh_get K0 hX fs123 f_MM_43 rfl d_MM_commit_131 ?_
  refine mh_if_le (tgt := 146) hx hb (by omega) d_MM_commit_134 (by decide) (fun _ => ?_) (fun z => absurd z (by omega))
  refine lv_iconst (v := (-1)) hx hb d_MM_commit_146 (by decide) ?_
  exact mh_iret K0 hr rfl hlocks hX hS (⟨rfl, ⟨aG, aO, aA, aV, aH, lg, op, at_, hQ.tx (x := x) (fun k i h0 h1 h2 h3 h4 => by rw [mh_set_ne _ _ _ _ (by omega), hF76 _ _ (by omega), hF75 _ _ (by omega)]) (mh_kp hm76 (by omega)) ⟨_, (mh_kp ((hF76 54 0 (by omega)).trans ((hF75 54 0 (by omega)).trans r54)) (by omega))⟩ ⟨_, (mh_kp ((hF76 55 0 (by omega)).trans ((hF75 55 0 (by omega)).trans r55)) (by omega))⟩ ha (⟨a1, a2, a3, a4, a5, a6, rdf, lo, hi, wk, no, nn, fs123, (mh_kp ((hF76 57 t (by omega)).trans ((hF75 57 t (by omega)).trans i1)) (by omega)), (mh_kp ((hF76 58 t (by omega)).trans ((hF75 58 t (by omega)).trans i2)) (by omega)), (mh_kp ((hF76 59 t (by omega)).trans ((hF75 59 t (by omega)).trans i3)) (by omega)), (mh_kp ((hF76 60 t (by omega)).trans ((hF75 60 t (by omega)).trans i4)) (by omega)), (mh_kp ((hF76 61 t (by omega)).trans ((hF75 61 t (by omega)).trans i5)) (by omega)), (mh_kp ((hF76 62 t (by omega)).trans ((hF75 62 t (by omega)).trans i6)) (by omega)), hrd, hlo, hwk⟩) (ho9) (fun x2 hx2 => by cases hx2)⟩, fun k i h => by rw [mh_set_ne _ _ _ _ (by omega), hF76 _ _ (by omega), hF75 _ _ (by omega)]⟩) (Nat.le_of_ble_eq_true rfl) (Nat.le_of_ble_eq_true rfl) d_MM_commit_147
set_option maxHeartbeats 4000000 in
set_option maxRecDepth 100000 in
theorem c_MM_commit_3 {l : Launch} {b : Nat} {dC : Nat → ClassId} {dI : Nat → Nat → Nat} {dA : Nat → ClassId} {zs : Nat → Nat} {w : mh_w} {m0 : Nat} {er : Int32} {g : st_G} (hR : rM dA w m0 er g) (hG : sg_ok g) {t : Nat} (ht : t < 16) {x : st_I} (hd : sg_dr g t = some x) (h0 : ¬ iv_nw x = 0) (hn : ¬ sg_n g < 400) : mh_Met l b dC dI dA zs y_MM_commit (mh_rm 4 10 500) [.ref m0, .int (nI t)] w (mh_V (some (.int (nI 0))) (fun w' => rM dA w' m0 (nI 3) g ∧ mh_D w w')) := by
  obtain ⟨aG, aO, aA, aV, aH, lg, op, at_, hQ⟩ := hR
  have hQ2 := hQ
  obtain ⟨r50, r51, r52, r53, ⟨vf, r54⟩, ⟨hf, r55⟩, ra, ro, rl⟩ := hQ2
  have hG2 := hG
  obtain ⟨gn, grs, gat, glo, gdr⟩ := hG2
  refine mh_ofW (cc := b_MM_commit) (n := 3) (ret := (some .int)) (hs := []) (by decide) k800 ?_
  intro p e s m below meth c hx hb hr hml hown hts hlocks hnm hT hOK hadm
  have K0 : mh_K0 p s m ([.ref m0, .int (nI t)]).toArray c "MeldHostModel" b_MM_commit dC dI dA := ⟨hx, hb, hown, hts, hOK.1, hOK.2.1⟩
  have hX := hOK.2.2.2.2
  have hb0 := hOK.2.2.2.1
  have hS : va_S (mh_A b) s.heap s.heap [] := va_S.rf
  have hl := lv_entry ([.ref m0, .int (nI t)]) (n := 3) (Nat.le_of_ble_eq_true rfl)
  rw [lg_entry_eq]
  generalize (lg_sl ([.ref m0, .int (nI t)]) ++ List.replicate (3 - (lg_sl ([.ref m0, .int (nI t)])).length) Slot.unset).toArray = ls at hl ⊢
  have hl : lv_has ls 3 [(0, .ref m0), (1, .int (nI t))] := hl
  obtain ⟨a, x9, ha, hW0, ho9, hx9⟩ := ro t ht
  have ex := hx9 x hd
  subst ex
  have hW : rW dA w 56 t a x true := by rw [hd] at hW0; exact hW0
  have ho := gdr t x ht hd
  have ho2 := ho
  obtain ⟨o1, o2, o3, o4, o5, o6, o7, o8⟩ := ho2
  have hWc := hW
  obtain ⟨a1, a2, a3, a4, a5, a6, rdf, lo, hi, wk, no, nn, i0, i1, i2, i3, i4, i5, i6, hrd, hlo, hwk⟩ := hWc
  refine lv_aload_n hx hb d_MM_commit_0 rfl (lv_at hl 0 rfl) ?_
  refine lv_iload_n hx hb d_MM_commit_1 rfl (lv_at hl 1 rfl) ?_
  refine lv_bipush (v := nI 16) hx hb d_MM_commit_2 (by decide) ?_
  refine mh_callR (mh_sS (rest := [.ref m0]) (av := [.int (nI t), .int (nI 16)]) K0 e_MM_in l_MM_53 k744 rfl rfl d_MM_commit_4) (c_MM_in) K0 hOK hml hl.1 e_MM_in hX hS d_MM_commit_4 (Nat.le_of_ble_eq_true rfl) (Nat.le_of_ble_eq_true rfl) (Nat.le_of_ble_eq_true rfl) (Nat.le_of_ble_eq_true rfl) (Nat.le_of_ble_eq_true rfl) (fun H locs hX hS => ?_)
  refine W.eq (g2 := F0 m 7 ls [.int (mh_b (st_in (nI t) 16)), .ref m0]) rfl ?_
  refine mh_ifneB (tgt := 14) hx hb d_MM_commit_7 (by decide) (fun _ => ?_) (fun z => absurd z (by rw [st_in_nI ht (by decide)]; decide))
  refine lv_iconst (v := nI 0) hx hb d_MM_commit_14 (by decide) ?_
  refine lv_iconst (v := nI 1) hx hb d_MM_commit_15 (by decide) ?_
  refine mh_callV (mh_sV (rest := []) (av := [.int (nI 0), .int (nI 1)]) K0 hX r50 rfl e_MM_fails l_MM_57 k748 kp15 rfl rfl d_MM_commit_16) (c_MM_fails0 r50) K0 hOK hml hl.1 e_MM_fails hX hS d_MM_commit_16 (Nat.le_of_ble_eq_true rfl) (Nat.le_of_ble_eq_true rfl) (Nat.le_of_ble_eq_true rfl) (Nat.le_of_ble_eq_true rfl) (Nat.le_of_ble_eq_true rfl) (fun wf77 H locs ⟨hm77, hF77⟩ hX hS => ?_)
  refine W.eq (g2 := F0 m 19 ls [.int (nI 0)]) rfl ?_
  refine mh_if_eq (tgt := 24) hx hb (by omega) d_MM_commit_19 (by decide) (fun _ => ?_) (fun z => absurd z (by omega))
  refine lv_aload_n hx hb d_MM_commit_24 rfl (lv_at hl 0 rfl) ?_
  refine lv_iload_n hx hb d_MM_commit_25 rfl (lv_at hl 1 rfl) ?_
  refine lv_iconst (v := nI 2) hx hb d_MM_commit_26 (by decide) ?_
  refine mh_callV (mh_sV (rest := []) (av := [.int (nI t), .int (nI 2)]) K0 hX hm77 rfl e_MM_shut l_MM_75 k760 kp16 rfl rfl d_MM_commit_27) (c_MM_shut0 (x := x) hm77 ((hF77 52 0 (by omega)).trans r52) ht ha (hW.mv (fun z hz => by rw [hF77 _ _ (by omega)]))) K0 hOK hml hl.1 e_MM_shut hX hS d_MM_commit_27 (Nat.le_of_ble_eq_true rfl) (Nat.le_of_ble_eq_true rfl) (Nat.le_of_ble_eq_true rfl) (Nat.le_of_ble_eq_true rfl) (Nat.le_of_ble_eq_true rfl) (fun wf78 H locs ⟨hm78, hF78⟩ hX hS => ?_)
  refine W.eq (g2 := F0 m 30 ls [.int (nI 0)]) rfl ?_
  refine mh_if_eq (tgt := 35) hx hb (by omega) d_MM_commit_30 (by decide) (fun _ => ?_) (fun z => absurd z (by omega))
  refine lv_aload_n hx hb d_MM_commit_35 rfl (lv_at hl 0 rfl) ?_
  refine mh_get K0 hX hm78 f_MM_15 rfl d_MM_commit_36 ?_
  refine lv_iload_n hx hb d_MM_commit_39 rfl (lv_at hl 1 rfl) ?_
  refine mh_aaldN 7 rfl K0 hX ((hF78 52 0 (by omega)).trans ((hF77 52 0 (by omega)).trans r52)) (by omega) (by omega) (r := (some a)) (ha) d_MM_commit_40 ?_
  refine W.eq (g2 := F0 m 41 ls [.ref a]) rfl ?_
  refine lv_astore_n (lv' := [(2, .ref a), (0, .ref m0), (1, .int (nI t))]) hx hb d_MM_commit_41 rfl hl (by decide) rfl (fun ls hl => ?_)
  refine lv_aload_n hx hb d_MM_commit_42 rfl (lv_at hl 0 rfl) ?_
  refine mh_get K0 hX ((hF78 56 t (by omega)).trans ((hF77 56 t (by omega)).trans i0)) f_MM_43 rfl d_MM_commit_43 ?_
  refine mh_if_le (tgt := 125) hx hb (by omega) d_MM_commit_46 (by decide) (fun z => absurd z (by omega)) (fun _ => ?_)
  refine lv_aload_n hx hb d_MM_commit_49 rfl (lv_at hl 1 rfl) ?_
  refine lv_aload_n hx hb d_MM_commit_50 rfl (lv_at hl 1 rfl) ?_
  refine mh_get K0 hX hm78 f_MM_113 rfl d_MM_commit_51 ?_
  refine lv_sipush (v := nI 400) hx hb d_MM_commit_54 (by decide) ?_
  refine mh_icmp_ne (tgt := 64) hx hb (by omega) (by omega) d_MM_commit_57 (by decide) (fun z => absurd z (by omega)) (fun _ => ?_)
  refine lv_iconst (v := nI 1) hx hb d_MM_commit_60 (by decide) ?_
  refine lv_goto (tgt := 65) hx hb d_MM_commit_61 (by decide) ?_
  refine lv_iconst (v := nI 3) hx hb d_MM_commit_65 (by decide) ?_
  refine mh_callV (mh_sV (rest := []) (av := [.int (nI 1), .int (nI 3)]) K0 hX hm78 rfl e_MM_fails l_MM_57 k748 kp15 rfl rfl d_MM_commit_66) (c_MM_fails1 hm78) K0 hOK hml hl.1 e_MM_fails hX hS d_MM_commit_66 (Nat.le_of_ble_eq_true rfl) (Nat.le_of_ble_eq_true rfl) (Nat.le_of_ble_eq_true rfl) (Nat.le_of_ble_eq_true rfl) (Nat.le_of_ble_eq_true rfl) (fun wf79 H locs ⟨hm79, hF79⟩ hX hS => ?_)
  refine W.eq (g2 := F0 m 69 ls [.int (nI 1)]) rfl ?_
  refine mh_if_eq (tgt := 74) hx hb (by omega) d_MM_commit_69 (by decide) (fun z => absurd z (by omega)) (fun _ => ?_)
  refine lv_iconst (v := nI 0) hx hb d_MM_commit_72 (by decide) ?_
  exact mh_iret K0 hr rfl hlocks hX hS (⟨rfl, ⟨aG, aO, aA, aV, aH, lg, op, at_, hQ.sc (fun k i h1 h2 h3 h4 => by rw [hF79 _ _ (by omega), hF78 _ _ (by omega), hF77 _ _ (by omega)]) hm79 ⟨_, ((hF79 54 0 (by omega)).trans ((hF78 54 0 (by omega)).trans ((hF77 54 0 (by omega)).trans r54)))⟩ ⟨_, ((hF79 55 0 (by omega)).trans ((hF78 55 0 (by omega)).trans ((hF77 55 0 (by omega)).trans r55)))⟩⟩, fun k i h => by rw [hF79 _ _ (by omega), hF78 _ _ (by omega), hF77 _ _ (by omega)]⟩) (Nat.le_of_ble_eq_true rfl) (Nat.le_of_ble_eq_true rfl) d_MM_commit_73
set_option maxHeartbeats 4000000 in
set_option maxRecDepth 100000 in
theorem c_MM_state_0 {l : Launch} {b : Nat} {dC : Nat → ClassId} {dI : Nat → Nat → Nat} {dA : Nat → ClassId} {zs : Nat → Nat} {w : mh_w} {m0 : Nat} {er : Int32} {g : st_G} (hR : rM dA w m0 er g) (hG : sg_ok g) {u : Nat} (hu : u < 4) {key : Nat} (hk : key < 256) {v : Int64} (hv : (st_st (sg_lg g) (sg_at g u)) key = some v) : mh_Met l b dC dI dA zs y_MM_state (mh_rm 4 10 500) [.ref m0, .int (nI u), .int (nI key)] w (mh_V (some (.long v)) (fun w' => rM dA w' m0 (nI 0) g ∧ mh_D w w')) := by
  obtain ⟨aG, aO, aA, aV, aH, lg, op, at_, hQ⟩ := hR
  have hQ2 := hQ
  obtain ⟨r50, r51, r52, r53, ⟨vf, r54⟩, ⟨hf, r55⟩, ra, ro, rl⟩ := hQ2
  have hG2 := hG
  obtain ⟨gn, grs, gat, glo, gdr⟩ := hG2
  refine mh_ofW (cc := b_MM_state) (n := 3) (ret := (some .long)) (hs := []) (by decide) k821 ?_
  intro p e s m below meth c hx hb hr hml hown hts hlocks hnm hT hOK hadm
  have K0 : mh_K0 p s m ([.ref m0, .int (nI u), .int (nI key)]).toArray c "MeldHostModel" b_MM_state dC dI dA := ⟨hx, hb, hown, hts, hOK.1, hOK.2.1⟩
  have hX := hOK.2.2.2.2
  have hb0 := hOK.2.2.2.1
  have hS : va_S (mh_A b) s.heap s.heap [] := va_S.rf
  have hl := lv_entry ([.ref m0, .int (nI u), .int (nI key)]) (n := 3) (Nat.le_of_ble_eq_true rfl)
  rw [lg_entry_eq]
  generalize (lg_sl ([.ref m0, .int (nI u), .int (nI key)]) ++ List.replicate (3 - (lg_sl ([.ref m0, .int (nI u), .int (nI key)])).length) Slot.unset).toArray = ls at hl ⊢
  have hl : lv_has ls 3 [(0, .ref m0), (1, .int (nI u)), (2, .int (nI key))] := hl
  have hat := gat u hu
  refine lv_aload_n hx hb d_MM_state_0 rfl (lv_at hl 0 rfl) ?_
  refine lv_iload_n hx hb d_MM_state_1 rfl (lv_at hl 1 rfl) ?_
  refine lv_iconst (v := nI 4) hx hb d_MM_state_2 (by decide) ?_
  refine mh_callR (mh_sS (rest := [.ref m0]) (av := [.int (nI u), .int (nI 4)]) K0 e_MM_in l_MM_53 k744 rfl rfl d_MM_state_3) (c_MM_in) K0 hOK hml hl.1 e_MM_in hX hS d_MM_state_3 (Nat.le_of_ble_eq_true rfl) (Nat.le_of_ble_eq_true rfl) (Nat.le_of_ble_eq_true rfl) (Nat.le_of_ble_eq_true rfl) (Nat.le_of_ble_eq_true rfl) (fun H locs hX hS => ?_)
  refine W.eq (g2 := F0 m 6 ls [.int (mh_b (st_in (nI u) 4)), .ref m0]) rfl ?_
  refine mh_ifeqB (tgt := 19) hx hb d_MM_state_6 (by decide) (fun z => absurd z (by rw [st_in_nI hu (by decide)]; decide)) (fun _ => ?_)
  refine lv_iload_n hx hb d_MM_state_9 rfl (lv_at hl 2 rfl) ?_
  refine lv_sipush (v := nI 256) hx hb d_MM_state_10 (by decide) ?_
  refine mh_callR (mh_sS (rest := [.ref m0]) (av := [.int (nI key), .int (nI 256)]) K0 e_MM_in l_MM_53 k744 rfl rfl d_MM_state_13) (c_MM_in) K0 hOK hml hl.1 e_MM_in hX hS d_MM_state_13 (Nat.le_of_ble_eq_true rfl) (Nat.le_of_ble_eq_true rfl) (Nat.le_of_ble_eq_true rfl) (Nat.le_of_ble_eq_true rfl) (Nat.le_of_ble_eq_true rfl) (fun H locs hX hS => ?_)
  refine W.eq (g2 := F0 m 16 ls [.int (mh_b (st_in (nI key) 256)), .ref m0]) rfl ?_
  refine mh_ifneB (tgt := 23) hx hb d_MM_state_16 (by decide) (fun _ => ?_) (fun z => absurd z (by rw [st_in_nI hk (by decide)]; decide))
  refine lv_iconst (v := nI 0) hx hb d_MM_state_23 (by decide) ?_
  refine lv_iconst (v := nI 1) hx hb d_MM_state_24 (by decide) ?_
  refine mh_callV (mh_sV (rest := []) (av := [.int (nI 0), .int (nI 1)]) K0 hX r50 rfl e_MM_fails l_MM_57 k748 kp15 rfl rfl d_MM_state_25) (c_MM_fails0 r50) K0 hOK hml hl.1 e_MM_fails hX hS d_MM_state_25 (Nat.le_of_ble_eq_true rfl) (Nat.le_of_ble_eq_true rfl) (Nat.le_of_ble_eq_true rfl) (Nat.le_of_ble_eq_true rfl) (Nat.le_of_ble_eq_true rfl) (fun wf80 H locs ⟨hm80, hF80⟩ hX hS => ?_)
  refine W.eq (g2 := F0 m 28 ls [.int (nI 0)]) rfl ?_
  refine mh_if_eq (tgt := 33) hx hb (by omega) d_MM_state_28 (by decide) (fun _ => ?_) (fun z => absurd z (by omega))
  refine lv_aload_n hx hb d_MM_state_33 rfl (lv_at hl 0 rfl) ?_
  refine lv_aload_n hx hb d_MM_state_34 rfl (lv_at hl 0 rfl) ?_
  refine mh_get K0 hX hm80 f_MM_18 rfl d_MM_state_35 ?_
  refine lv_iload_n hx hb d_MM_state_38 rfl (lv_at hl 1 rfl) ?_
  refine mh_ialdN K0 hX ((hF80 53 0 (by omega)).trans r53) (by omega) (by omega) d_MM_state_39 ?_
  refine mh_ti (y := nI (sg_at g u)) (ra u hu) ?_
  refine mh_callV (mh_sV (rest := []) (av := [.int (nI (sg_at g u))]) K0 hX hm80 rfl e_MM_upTo l_MM_88 k768 kp17 rfl rfl d_MM_state_40) (c_MM_upTo (log := sg_lg g) hm80 ((hF80 51 0 (by omega)).trans r51) (n0 := (sg_at g u)) (by omega) (fun i hi => (rl i (by omega)).imp (fun aa h => ⟨h.1, h.2.mv (fun z hz => by rw [hF80 _ _ (by omega)])⟩)) (fun i hi => glo i (by omega)) ⟨_, ((hF80 54 0 (by omega)).trans r54)⟩ ⟨_, ((hF80 55 0 (by omega)).trans r55)⟩) K0 hOK hml hl.1 e_MM_upTo hX hS d_MM_state_40 (Nat.le_of_ble_eq_true rfl) (Nat.le_of_ble_eq_true rfl) (Nat.le_of_ble_eq_true rfl) (Nat.le_of_ble_eq_true rfl) (Nat.le_of_ble_eq_true rfl) (fun wf81 H locs ⟨hT81, hF81⟩ hX hS => ?_)
  refine W.eq (g2 := F0 m 43 ls []) rfl ?_
  obtain ⟨vf81, hf81, t54_81, t55_81, ht81⟩ := hT81
  refine lv_aload_n hx hb d_MM_state_43 rfl (lv_at hl 0 rfl) ?_
  refine lv_aload_n hx hb d_MM_state_44 rfl (lv_at hl 0 rfl) ?_
  refine mh_get K0 hX ((hF81 50 0 (by omega)).trans hm80) f_MM_26 rfl d_MM_state_45 ?_
  refine lv_iload_n hx hb d_MM_state_48 rfl (lv_at hl 2 rfl) ?_
  refine mh_zaldN K0 hX t55_81 (by omega) (by omega) d_MM_state_49 ?_
  refine mh_ti (y := mh_b (((st_st (sg_lg g) (sg_at g u)) key).isSome)) ((ht81 key hk).1) ?_
  refine mh_ifneB (tgt := 57) hx hb d_MM_state_50 (by decide) (fun _ => ?_) (fun z => absurd z (by rw [hv]; simp))
  refine lv_iconst (v := nI 0) hx hb d_MM_state_57 (by decide) ?_
  refine lv_iconst (v := nI 2) hx hb d_MM_state_58 (by decide) ?_
  refine mh_callV (mh_sV (rest := []) (av := [.int (nI 0), .int (nI 2)]) K0 hX ((hF81 50 0 (by omega)).trans hm80) rfl e_MM_fails l_MM_57 k748 kp15 rfl rfl d_MM_state_59) (c_MM_fails0 ((hF81 50 0 (by omega)).trans hm80)) K0 hOK hml hl.1 e_MM_fails hX hS d_MM_state_59 (Nat.le_of_ble_eq_true rfl) (Nat.le_of_ble_eq_true rfl) (Nat.le_of_ble_eq_true rfl) (Nat.le_of_ble_eq_true rfl) (Nat.le_of_ble_eq_true rfl) (fun wf82 H locs ⟨hm82, hF82⟩ hX hS => ?_)
  refine W.eq (g2 := F0 m 62 ls [.int (nI 0)]) rfl ?_
  refine mh_if_eq (tgt := 69) hx hb (by omega) d_MM_state_62 (by decide) (fun _ => ?_) (fun z => absurd z (by omega))
  refine lv_aload_n hx hb d_MM_state_69 rfl (lv_at hl 0 rfl) ?_
  refine mh_get K0 hX hm82 f_MM_22 rfl d_MM_state_70 ?_
  refine lv_iload_n hx hb d_MM_state_73 rfl (lv_at hl 2 rfl) ?_
  refine mh_laldN K0 hX ((hF82 54 0 (by omega)).trans t54_81) (by omega) (by omega) d_MM_state_74 ?_
  exact mh_lret K0 hr hlocks hX hS (⟨by rw [(ht81 key hk).2 v hv], ⟨aG, aO, aA, aV, aH, lg, op, at_, hQ.sc (fun k i h1 h2 h3 h4 => by rw [hF82 _ _ (by omega), hF81 _ _ (by omega), hF80 _ _ (by omega)]) hm82 ⟨_, ((hF82 54 0 (by omega)).trans t54_81)⟩ ⟨_, ((hF82 55 0 (by omega)).trans t55_81)⟩⟩, fun k i h => by rw [hF82 _ _ (by omega), hF81 _ _ (by omega), hF80 _ _ (by omega)]⟩) (Nat.le_of_ble_eq_true rfl) (Nat.le_of_ble_eq_true rfl) d_MM_state_75
set_option maxHeartbeats 4000000 in
set_option maxRecDepth 100000 in
theorem c_MM_state_2 {l : Launch} {b : Nat} {dC : Nat → ClassId} {dI : Nat → Nat → Nat} {dA : Nat → ClassId} {zs : Nat → Nat} {w : mh_w} {m0 : Nat} {er : Int32} {g : st_G} (hR : rM dA w m0 er g) (hG : sg_ok g) {u : Nat} (hu : u < 4) {key : Nat} (hk : key < 256) (hv : (st_st (sg_lg g) (sg_at g u)) key = none) : mh_Met l b dC dI dA zs y_MM_state (mh_rm 4 10 500) [.ref m0, .int (nI u), .int (nI key)] w (mh_V (some (.long 0)) (fun w' => rM dA w' m0 (nI 2) g ∧ mh_D w w')) := by
  obtain ⟨aG, aO, aA, aV, aH, lg, op, at_, hQ⟩ := hR
  have hQ2 := hQ
  obtain ⟨r50, r51, r52, r53, ⟨vf, r54⟩, ⟨hf, r55⟩, ra, ro, rl⟩ := hQ2
  have hG2 := hG
  obtain ⟨gn, grs, gat, glo, gdr⟩ := hG2
  refine mh_ofW (cc := b_MM_state) (n := 3) (ret := (some .long)) (hs := []) (by decide) k821 ?_
  intro p e s m below meth c hx hb hr hml hown hts hlocks hnm hT hOK hadm
  have K0 : mh_K0 p s m ([.ref m0, .int (nI u), .int (nI key)]).toArray c "MeldHostModel" b_MM_state dC dI dA := ⟨hx, hb, hown, hts, hOK.1, hOK.2.1⟩
  have hX := hOK.2.2.2.2
  have hb0 := hOK.2.2.2.1
  have hS : va_S (mh_A b) s.heap s.heap [] := va_S.rf
  have hl := lv_entry ([.ref m0, .int (nI u), .int (nI key)]) (n := 3) (Nat.le_of_ble_eq_true rfl)
  rw [lg_entry_eq]
  generalize (lg_sl ([.ref m0, .int (nI u), .int (nI key)]) ++ List.replicate (3 - (lg_sl ([.ref m0, .int (nI u), .int (nI key)])).length) Slot.unset).toArray = ls at hl ⊢
  have hl : lv_has ls 3 [(0, .ref m0), (1, .int (nI u)), (2, .int (nI key))] := hl
  have hat := gat u hu
  refine lv_aload_n hx hb d_MM_state_0 rfl (lv_at hl 0 rfl) ?_
  refine lv_iload_n hx hb d_MM_state_1 rfl (lv_at hl 1 rfl) ?_
  refine lv_iconst (v := nI 4) hx hb d_MM_state_2 (by decide) ?_
  refine mh_callR (mh_sS (rest := [.ref m0]) (av := [.int (nI u), .int (nI 4)]) K0 e_MM_in l_MM_53 k744 rfl rfl d_MM_state_3) (c_MM_in) K0 hOK hml hl.1 e_MM_in hX hS d_MM_state_3 (Nat.le_of_ble_eq_true rfl) (Nat.le_of_ble_eq_true rfl) (Nat.le_of_ble_eq_true rfl) (Nat.le_of_ble_eq_true rfl) (Nat.le_of_ble_eq_true rfl) (fun H locs hX hS => ?_)
  refine W.eq (g2 := F0 m 6 ls [.int (mh_b (st_in (nI u) 4)), .ref m0]) rfl ?_
  refine mh_ifeqB (tgt := 19) hx hb d_MM_state_6 (by decide) (fun z => absurd z (by rw [st_in_nI hu (by decide)]; decide)) (fun _ => ?_)
  refine lv_iload_n hx hb d_MM_state_9 rfl (lv_at hl 2 rfl) ?_
  refine lv_sipush (v := nI 256) hx hb d_MM_state_10 (by decide) ?_
  refine mh_callR (mh_sS (rest := [.ref m0]) (av := [.int (nI key), .int (nI 256)]) K0 e_MM_in l_MM_53 k744 rfl rfl d_MM_state_13) (c_MM_in) K0 hOK hml hl.1 e_MM_in hX hS d_MM_state_13 (Nat.le_of_ble_eq_true rfl) (Nat.le_of_ble_eq_true rfl) (Nat.le_of_ble_eq_true rfl) (Nat.le_of_ble_eq_true rfl) (Nat.le_of_ble_eq_true rfl) (fun H locs hX hS => ?_)
  refine W.eq (g2 := F0 m 16 ls [.int (mh_b (st_in (nI key) 256)), .ref m0]) rfl ?_
  refine mh_ifneB (tgt := 23) hx hb d_MM_state_16 (by decide) (fun _ => ?_) (fun z => absurd z (by rw [st_in_nI hk (by decide)]; decide))
  refine lv_iconst (v := nI 0) hx hb d_MM_state_23 (by decide) ?_
  refine lv_iconst (v := nI 1) hx hb d_MM_state_24 (by decide) ?_
  refine mh_callV (mh_sV (rest := []) (av := [.int (nI 0), .int (nI 1)]) K0 hX r50 rfl e_MM_fails l_MM_57 k748 kp15 rfl rfl d_MM_state_25) (c_MM_fails0 r50) K0 hOK hml hl.1 e_MM_fails hX hS d_MM_state_25 (Nat.le_of_ble_eq_true rfl) (Nat.le_of_ble_eq_true rfl) (Nat.le_of_ble_eq_true rfl) (Nat.le_of_ble_eq_true rfl) (Nat.le_of_ble_eq_true rfl) (fun wf83 H locs ⟨hm83, hF83⟩ hX hS => ?_)
  refine W.eq (g2 := F0 m 28 ls [.int (nI 0)]) rfl ?_
  refine mh_if_eq (tgt := 33) hx hb (by omega) d_MM_state_28 (by decide) (fun _ => ?_) (fun z => absurd z (by omega))
  refine lv_aload_n hx hb d_MM_state_33 rfl (lv_at hl 0 rfl) ?_
  refine lv_aload_n hx hb d_MM_state_34 rfl (lv_at hl 0 rfl) ?_
  refine mh_get K0 hX hm83 f_MM_18 rfl d_MM_state_35 ?_
  refine lv_iload_n hx hb d_MM_state_38 rfl (lv_at hl 1 rfl) ?_
  refine mh_ialdN K0 hX ((hF83 53 0 (by omega)).trans r53) (by omega) (by omega) d_MM_state_39 ?_
  refine mh_ti (y := nI (sg_at g u)) (ra u hu) ?_
  refine mh_callV (mh_sV (rest := []) (av := [.int (nI (sg_at g u))]) K0 hX hm83 rfl e_MM_upTo l_MM_88 k768 kp17 rfl rfl d_MM_state_40) (c_MM_upTo (log := sg_lg g) hm83 ((hF83 51 0 (by omega)).trans r51) (n0 := (sg_at g u)) (by omega) (fun i hi => (rl i (by omega)).imp (fun aa h => ⟨h.1, h.2.mv (fun z hz => by rw [hF83 _ _ (by omega)])⟩)) (fun i hi => glo i (by omega)) ⟨_, ((hF83 54 0 (by omega)).trans r54)⟩ ⟨_, ((hF83 55 0 (by omega)).trans r55)⟩) K0 hOK hml hl.1 e_MM_upTo hX hS d_MM_state_40 (Nat.le_of_ble_eq_true rfl) (Nat.le_of_ble_eq_true rfl) (Nat.le_of_ble_eq_true rfl) (Nat.le_of_ble_eq_true rfl) (Nat.le_of_ble_eq_true rfl) (fun wf84 H locs ⟨hT84, hF84⟩ hX hS => ?_)
  refine W.eq (g2 := F0 m 43 ls []) rfl ?_
  obtain ⟨vf84, hf84, t54_84, t55_84, ht84⟩ := hT84
  refine lv_aload_n hx hb d_MM_state_43 rfl (lv_at hl 0 rfl) ?_
  refine lv_aload_n hx hb d_MM_state_44 rfl (lv_at hl 0 rfl) ?_
  refine mh_get K0 hX ((hF84 50 0 (by omega)).trans hm83) f_MM_26 rfl d_MM_state_45 ?_
  refine lv_iload_n hx hb d_MM_state_48 rfl (lv_at hl 2 rfl) ?_
  refine mh_zaldN K0 hX t55_84 (by omega) (by omega) d_MM_state_49 ?_
  refine mh_ti (y := mh_b (((st_st (sg_lg g) (sg_at g u)) key).isSome)) ((ht84 key hk).1) ?_
  refine mh_ifneB (tgt := 57) hx hb d_MM_state_50 (by decide) (fun z => absurd z (by rw [hv]; simp)) (fun _ => ?_)
  refine lv_iconst (v := nI 1) hx hb d_MM_state_53 (by decide) ?_
  refine lv_goto (tgt := 58) hx hb d_MM_state_54 (by decide) ?_
  refine lv_iconst (v := nI 2) hx hb d_MM_state_58 (by decide) ?_
  refine mh_callV (mh_sV (rest := []) (av := [.int (nI 1), .int (nI 2)]) K0 hX ((hF84 50 0 (by omega)).trans hm83) rfl e_MM_fails l_MM_57 k748 kp15 rfl rfl d_MM_state_59) (c_MM_fails1 ((hF84 50 0 (by omega)).trans hm83)) K0 hOK hml hl.1 e_MM_fails hX hS d_MM_state_59 (Nat.le_of_ble_eq_true rfl) (Nat.le_of_ble_eq_true rfl) (Nat.le_of_ble_eq_true rfl) (Nat.le_of_ble_eq_true rfl) (Nat.le_of_ble_eq_true rfl) (fun wf85 H locs ⟨hm85, hF85⟩ hX hS => ?_)
  refine W.eq (g2 := F0 m 62 ls [.int (nI 1)]) rfl ?_
  refine mh_if_eq (tgt := 69) hx hb (by omega) d_MM_state_62 (by decide) (fun z => absurd z (by omega)) (fun _ => ?_)
  refine lv_lconst (v := 0) hx hb d_MM_state_65 rfl ?_
  refine lv_goto (tgt := 75) hx hb d_MM_state_66 (by decide) ?_
  exact mh_lret K0 hr hlocks hX hS (⟨rfl, ⟨aG, aO, aA, aV, aH, lg, op, at_, hQ.sc (fun k i h1 h2 h3 h4 => by rw [hF85 _ _ (by omega), hF84 _ _ (by omega), hF83 _ _ (by omega)]) hm85 ⟨_, ((hF85 54 0 (by omega)).trans t54_84)⟩ ⟨_, ((hF85 55 0 (by omega)).trans t55_84)⟩⟩, fun k i h => by rw [hF85 _ _ (by omega), hF84 _ _ (by omega), hF83 _ _ (by omega)]⟩) (Nat.le_of_ble_eq_true rfl) (Nat.le_of_ble_eq_true rfl) d_MM_state_75
set_option maxHeartbeats 4000000 in
set_option maxRecDepth 100000 in
theorem c_MM_look_0 {l : Launch} {b : Nat} {dC : Nat → ClassId} {dI : Nat → Nat → Nat} {dA : Nat → ClassId} {zs : Nat → Nat} {w : mh_w} {m0 : Nat} {er : Int32} {g : st_G} (hR : rM dA w m0 er g) (hG : sg_ok g) {u : Nat} (hu : u < 4) {low high q9 : Nat} (h1 : low ≤ high) (h2 : high < 256) (h3 : q9 < 4) : mh_Met l b dC dI dA zs y_MM_look (mh_rm 4 10 500) [.ref m0, .int (nI u), .int (nI low), .int (nI high), .int (nI q9)] w (mh_V (some (.long (tl_a (st_st (sg_lg g) (sg_at g u)) low (high + 1 - low) (nI q9)))) (fun w' => rM dA w' m0 (nI 0) g ∧ mh_D w w')) := by
  obtain ⟨aG, aO, aA, aV, aH, lg, op, at_, hQ⟩ := hR
  have hQ2 := hQ
  obtain ⟨r50, r51, r52, r53, ⟨vf, r54⟩, ⟨hf, r55⟩, ra, ro, rl⟩ := hQ2
  have hG2 := hG
  obtain ⟨gn, grs, gat, glo, gdr⟩ := hG2
  refine mh_ofW (cc := b_MM_look) (n := 5) (ret := (some .long)) (hs := []) (by decide) k825 ?_
  intro p e s m below meth c hx hb hr hml hown hts hlocks hnm hT hOK hadm
  have K0 : mh_K0 p s m ([.ref m0, .int (nI u), .int (nI low), .int (nI high), .int (nI q9)]).toArray c "MeldHostModel" b_MM_look dC dI dA := ⟨hx, hb, hown, hts, hOK.1, hOK.2.1⟩
  have hX := hOK.2.2.2.2
  have hb0 := hOK.2.2.2.1
  have hS : va_S (mh_A b) s.heap s.heap [] := va_S.rf
  have hl := lv_entry ([.ref m0, .int (nI u), .int (nI low), .int (nI high), .int (nI q9)]) (n := 5) (Nat.le_of_ble_eq_true rfl)
  rw [lg_entry_eq]
  generalize (lg_sl ([.ref m0, .int (nI u), .int (nI low), .int (nI high), .int (nI q9)]) ++ List.replicate (5 - (lg_sl ([.ref m0, .int (nI u), .int (nI low), .int (nI high), .int (nI q9)])).length) Slot.unset).toArray = ls at hl ⊢
  have hl : lv_has ls 5 [(0, .ref m0), (1, .int (nI u)), (2, .int (nI low)), (3, .int (nI high)), (4, .int (nI q9))] := hl
  have hat := gat u hu
  refine lv_aload_n hx hb d_MM_look_0 rfl (lv_at hl 0 rfl) ?_
  refine lv_iload_n hx hb d_MM_look_1 rfl (lv_at hl 1 rfl) ?_
  refine lv_iconst (v := nI 4) hx hb d_MM_look_2 (by decide) ?_
  refine mh_callR (mh_sS (rest := [.ref m0]) (av := [.int (nI u), .int (nI 4)]) K0 e_MM_in l_MM_53 k744 rfl rfl d_MM_look_3) (c_MM_in) K0 hOK hml hl.1 e_MM_in hX hS d_MM_look_3 (Nat.le_of_ble_eq_true rfl) (Nat.le_of_ble_eq_true rfl) (Nat.le_of_ble_eq_true rfl) (Nat.le_of_ble_eq_true rfl) (Nat.le_of_ble_eq_true rfl) (fun H locs hX hS => ?_)
  refine W.eq (g2 := F0 m 6 ls [.int (mh_b (st_in (nI u) 4)), .ref m0]) rfl ?_
  refine mh_ifeqB (tgt := 19) hx hb d_MM_look_6 (by decide) (fun z => absurd z (by rw [st_in_nI hu (by decide)]; decide)) (fun _ => ?_)
  refine lv_iload_n hx hb d_MM_look_9 rfl (lv_at hl 2 rfl) ?_
  refine lv_iload_n hx hb d_MM_look_10 rfl (lv_at hl 3 rfl) ?_
  refine lv_iload hx hb d_MM_look_11 (lv_at hl 4 rfl) ?_
  refine mh_callR (mh_sS (rest := [.ref m0]) (av := [.int (nI low), .int (nI high), .int (nI q9)]) K0 e_MM_bad l_MM_96 k791 rfl rfl d_MM_look_13) (c_MM_bad) K0 hOK hml hl.1 e_MM_bad hX hS d_MM_look_13 (Nat.le_of_ble_eq_true rfl) (Nat.le_of_ble_eq_true rfl) (Nat.le_of_ble_eq_true rfl) (Nat.le_of_ble_eq_true rfl) (Nat.le_of_ble_eq_true rfl) (fun H locs hX hS => ?_)
  refine W.eq (g2 := F0 m 16 ls [.int (mh_b (!sp_pt (nI low) (nI high) (nI q9))), .ref m0]) rfl ?_
  refine mh_ifeqB (tgt := 23) hx hb d_MM_look_16 (by decide) (fun _ => ?_) (fun z => absurd z (by rw [sp_pt_ok h1 h2 h3]; decide))
  refine lv_iconst (v := nI 0) hx hb d_MM_look_23 (by decide) ?_
  refine lv_iconst (v := nI 1) hx hb d_MM_look_24 (by decide) ?_
  refine mh_callV (mh_sV (rest := []) (av := [.int (nI 0), .int (nI 1)]) K0 hX r50 rfl e_MM_fails l_MM_57 k748 kp15 rfl rfl d_MM_look_25) (c_MM_fails0 r50) K0 hOK hml hl.1 e_MM_fails hX hS d_MM_look_25 (Nat.le_of_ble_eq_true rfl) (Nat.le_of_ble_eq_true rfl) (Nat.le_of_ble_eq_true rfl) (Nat.le_of_ble_eq_true rfl) (Nat.le_of_ble_eq_true rfl) (fun wf86 H locs ⟨hm86, hF86⟩ hX hS => ?_)
  refine W.eq (g2 := F0 m 28 ls [.int (nI 0)]) rfl ?_
  refine mh_if_eq (tgt := 33) hx hb (by omega) d_MM_look_28 (by decide) (fun _ => ?_) (fun z => absurd z (by omega))
  refine lv_aload_n hx hb d_MM_look_33 rfl (lv_at hl 0 rfl) ?_
  refine lv_aload_n hx hb d_MM_look_34 rfl (lv_at hl 0 rfl) ?_
  refine mh_get K0 hX hm86 f_MM_18 rfl d_MM_look_35 ?_
  refine lv_iload_n hx hb d_MM_look_38 rfl (lv_at hl 1 rfl) ?_
  refine mh_ialdN K0 hX ((hF86 53 0 (by omega)).trans r53) (by omega) (by omega) d_MM_look_39 ?_
  refine mh_ti (y := nI (sg_at g u)) (ra u hu) ?_
  refine mh_callV (mh_sV (rest := []) (av := [.int (nI (sg_at g u))]) K0 hX hm86 rfl e_MM_upTo l_MM_88 k768 kp17 rfl rfl d_MM_look_40) (c_MM_upTo (log := sg_lg g) hm86 ((hF86 51 0 (by omega)).trans r51) (n0 := (sg_at g u)) (by omega) (fun i hi => (rl i (by omega)).imp (fun aa h => ⟨h.1, h.2.mv (fun z hz => by rw [hF86 _ _ (by omega)])⟩)) (fun i hi => glo i (by omega)) ⟨_, ((hF86 54 0 (by omega)).trans r54)⟩ ⟨_, ((hF86 55 0 (by omega)).trans r55)⟩) K0 hOK hml hl.1 e_MM_upTo hX hS d_MM_look_40 (Nat.le_of_ble_eq_true rfl) (Nat.le_of_ble_eq_true rfl) (Nat.le_of_ble_eq_true rfl) (Nat.le_of_ble_eq_true rfl) (Nat.le_of_ble_eq_true rfl) (fun wf87 H locs ⟨hT87, hF87⟩ hX hS => ?_)
  refine W.eq (g2 := F0 m 43 ls []) rfl ?_
  refine lv_aload_n hx hb d_MM_look_43 rfl (lv_at hl 0 rfl) ?_
  refine lv_iload_n hx hb d_MM_look_44 rfl (lv_at hl 2 rfl) ?_
  refine lv_iload_n hx hb d_MM_look_45 rfl (lv_at hl 3 rfl) ?_
  refine lv_iload hx hb d_MM_look_46 (lv_at hl 4 rfl) ?_
  refine mh_callR (mh_sV (rest := []) (av := [.int (nI low), .int (nI high), .int (nI q9)]) K0 hX ((hF87 50 0 (by omega)).trans hm86) rfl e_MM_told l_MM_109 k795 kp20 rfl rfl d_MM_look_48) (c_MM_told ((hF87 50 0 (by omega)).trans hm86) hT87 h1 h2 h3) K0 hOK hml hl.1 e_MM_told hX hS d_MM_look_48 (Nat.le_of_ble_eq_true rfl) (Nat.le_of_ble_eq_true rfl) (Nat.le_of_ble_eq_true rfl) (Nat.le_of_ble_eq_true rfl) (Nat.le_of_ble_eq_true rfl) (fun H locs hX hS => ?_)
  refine W.eq (g2 := F0 m 51 ls [.long (tl_a (st_st (sg_lg g) (sg_at g u)) low (high + 1 - low) (nI q9))]) rfl ?_
  obtain ⟨vf87, hf87, t54_87, t55_87, ht87⟩ := hT87
  exact mh_lret K0 hr hlocks hX hS (⟨rfl, ⟨aG, aO, aA, aV, aH, lg, op, at_, hQ.sc (fun k i h1 h2 h3 h4 => by rw [hF87 _ _ (by omega), hF86 _ _ (by omega)]) ((hF87 50 0 (by omega)).trans hm86) ⟨_, t54_87⟩ ⟨_, t55_87⟩⟩, fun k i h => by rw [hF87 _ _ (by omega), hF86 _ _ (by omega)]⟩) (Nat.le_of_ble_eq_true rfl) (Nat.le_of_ble_eq_true rfl) d_MM_look_51
set_option maxHeartbeats 4000000 in
set_option maxRecDepth 100000 in
theorem c_MM_verdict_2 {l : Launch} {b : Nat} {dC : Nat → ClassId} {dI : Nat → Nat → Nat} {dA : Nat → ClassId} {zs : Nat → Nat} {w : mh_w} {m0 : Nat} {er : Int32} {g : st_G} (hR : rM dA w m0 er g) (hG : sg_ok g) {u : Nat} (hu : u < 4) {v : Int32} (hv : st_in v (sg_n g) = false) : mh_Met l b dC dI dA zs y_MM_verdict (mh_rm 4 10 500) [.ref m0, .int (nI u), .int v] w (mh_V (some (.int (nI 0))) (fun w' => rM dA w' m0 (nI 2) g ∧ mh_D w w')) := by
  obtain ⟨aG, aO, aA, aV, aH, lg, op, at_, hQ⟩ := hR
  have hQ2 := hQ
  obtain ⟨r50, r51, r52, r53, ⟨vf, r54⟩, ⟨hf, r55⟩, ra, ro, rl⟩ := hQ2
  have hG2 := hG
  obtain ⟨gn, grs, gat, glo, gdr⟩ := hG2
  refine mh_ofW (cc := b_MM_verdict) (n := 3) (ret := (some .int)) (hs := []) (by decide) k829 ?_
  intro p e s m below meth c hx hb hr hml hown hts hlocks hnm hT hOK hadm
  have K0 : mh_K0 p s m ([.ref m0, .int (nI u), .int v]).toArray c "MeldHostModel" b_MM_verdict dC dI dA := ⟨hx, hb, hown, hts, hOK.1, hOK.2.1⟩
  have hX := hOK.2.2.2.2
  have hb0 := hOK.2.2.2.1
  have hS : va_S (mh_A b) s.heap s.heap [] := va_S.rf
  have hl := lv_entry ([.ref m0, .int (nI u), .int v]) (n := 3) (Nat.le_of_ble_eq_true rfl)
  rw [lg_entry_eq]
  generalize (lg_sl ([.ref m0, .int (nI u), .int v]) ++ List.replicate (3 - (lg_sl ([.ref m0, .int (nI u), .int v])).length) Slot.unset).toArray = ls at hl ⊢
  have hl : lv_has ls 3 [(0, .ref m0), (1, .int (nI u)), (2, .int v)] := hl
  refine lv_aload_n hx hb d_MM_verdict_0 rfl (lv_at hl 0 rfl) ?_
  refine lv_iload_n hx hb d_MM_verdict_1 rfl (lv_at hl 1 rfl) ?_
  refine lv_iconst (v := nI 4) hx hb d_MM_verdict_2 (by decide) ?_
  refine mh_callR (mh_sS (rest := [.ref m0]) (av := [.int (nI u), .int (nI 4)]) K0 e_MM_in l_MM_53 k744 rfl rfl d_MM_verdict_3) (c_MM_in) K0 hOK hml hl.1 e_MM_in hX hS d_MM_verdict_3 (Nat.le_of_ble_eq_true rfl) (Nat.le_of_ble_eq_true rfl) (Nat.le_of_ble_eq_true rfl) (Nat.le_of_ble_eq_true rfl) (Nat.le_of_ble_eq_true rfl) (fun H locs hX hS => ?_)
  refine W.eq (g2 := F0 m 6 ls [.int (mh_b (st_in (nI u) 4)), .ref m0]) rfl ?_
  refine mh_ifneB (tgt := 13) hx hb d_MM_verdict_6 (by decide) (fun _ => ?_) (fun z => absurd z (by rw [st_in_nI hu (by decide)]; decide))
  refine lv_iconst (v := nI 0) hx hb d_MM_verdict_13 (by decide) ?_
  refine lv_iconst (v := nI 1) hx hb d_MM_verdict_14 (by decide) ?_
  refine mh_callV (mh_sV (rest := []) (av := [.int (nI 0), .int (nI 1)]) K0 hX r50 rfl e_MM_fails l_MM_57 k748 kp15 rfl rfl d_MM_verdict_15) (c_MM_fails0 r50) K0 hOK hml hl.1 e_MM_fails hX hS d_MM_verdict_15 (Nat.le_of_ble_eq_true rfl) (Nat.le_of_ble_eq_true rfl) (Nat.le_of_ble_eq_true rfl) (Nat.le_of_ble_eq_true rfl) (Nat.le_of_ble_eq_true rfl) (fun wf88 H locs ⟨hm88, hF88⟩ hX hS => ?_)
  refine W.eq (g2 := F0 m 18 ls [.int (nI 0)]) rfl ?_
  refine mh_if_eq (tgt := 23) hx hb (by omega) d_MM_verdict_18 (by decide) (fun _ => ?_) (fun z => absurd z (by omega))
  refine lv_aload_n hx hb d_MM_verdict_23 rfl (lv_at hl 0 rfl) ?_
  refine lv_iload_n hx hb d_MM_verdict_24 rfl (lv_at hl 2 rfl) ?_
  refine lv_aload_n hx hb d_MM_verdict_25 rfl (lv_at hl 0 rfl) ?_
  refine mh_get K0 hX hm88 f_MM_113 rfl d_MM_verdict_26 ?_
  refine mh_callR (mh_sS (rest := [.ref m0]) (av := [.int v, .int (nI (sg_n g))]) K0 e_MM_in l_MM_53 k744 rfl rfl d_MM_verdict_29) (c_MM_in) K0 hOK hml hl.1 e_MM_in hX hS d_MM_verdict_29 (Nat.le_of_ble_eq_true rfl) (Nat.le_of_ble_eq_true rfl) (Nat.le_of_ble_eq_true rfl) (Nat.le_of_ble_eq_true rfl) (Nat.le_of_ble_eq_true rfl) (fun H locs hX hS => ?_)
  refine W.eq (g2 := F0 m 32 ls [.int (mh_b (st_in v (sg_n g))), .ref m0]) rfl ?_
  refine mh_ifneB (tgt := 39) hx hb d_MM_verdict_32 (by decide) (fun z => absurd z (by rw [hv]; decide)) (fun _ => ?_)
  refine lv_iconst (v := nI 1) hx hb d_MM_verdict_35 (by decide) ?_
  refine lv_goto (tgt := 40) hx hb d_MM_verdict_36 (by decide) ?_
  refine lv_iconst (v := nI 2) hx hb d_MM_verdict_40 (by decide) ?_
  refine mh_callV (mh_sV (rest := []) (av := [.int (nI 1), .int (nI 2)]) K0 hX hm88 rfl e_MM_fails l_MM_57 k748 kp15 rfl rfl d_MM_verdict_41) (c_MM_fails1 hm88) K0 hOK hml hl.1 e_MM_fails hX hS d_MM_verdict_41 (Nat.le_of_ble_eq_true rfl) (Nat.le_of_ble_eq_true rfl) (Nat.le_of_ble_eq_true rfl) (Nat.le_of_ble_eq_true rfl) (Nat.le_of_ble_eq_true rfl) (fun wf89 H locs ⟨hm89, hF89⟩ hX hS => ?_)
  refine W.eq (g2 := F0 m 44 ls [.int (nI 1)]) rfl ?_
  refine mh_if_eq (tgt := 49) hx hb (by omega) d_MM_verdict_44 (by decide) (fun z => absurd z (by omega)) (fun _ => ?_)
  refine lv_iconst (v := nI 0) hx hb d_MM_verdict_47 (by decide) ?_
  exact mh_iret K0 hr rfl hlocks hX hS (⟨rfl, ⟨aG, aO, aA, aV, aH, lg, op, at_, hQ.sc (fun k i h1 h2 h3 h4 => by rw [hF89 _ _ (by omega), hF88 _ _ (by omega)]) hm89 ⟨_, ((hF89 54 0 (by omega)).trans ((hF88 54 0 (by omega)).trans r54))⟩ ⟨_, ((hF89 55 0 (by omega)).trans ((hF88 55 0 (by omega)).trans r55))⟩⟩, fun k i h => by rw [hF89 _ _ (by omega), hF88 _ _ (by omega)]⟩) (Nat.le_of_ble_eq_true rfl) (Nat.le_of_ble_eq_true rfl) d_MM_verdict_48
set_option maxHeartbeats 4000000 in
set_option maxRecDepth 100000 in
theorem c_MM_intention_2 {l : Launch} {b : Nat} {dC : Nat → ClassId} {dI : Nat → Nat → Nat} {dA : Nat → ClassId} {zs : Nat → Nat} {w : mh_w} {m0 : Nat} {er : Int32} {g : st_G} (hR : rM dA w m0 er g) (hG : sg_ok g) {q9 : Nat} (h3 : q9 < 6) {v : Int32} (hv : st_in v (sg_n g) = false) : mh_Met l b dC dI dA zs y_MM_intention (mh_rm 4 10 500) [.ref m0, .int v, .int (nI q9)] w (mh_V (some (.int (nI 0))) (fun w' => rM dA w' m0 (nI 2) g ∧ mh_D w w')) := by
  obtain ⟨aG, aO, aA, aV, aH, lg, op, at_, hQ⟩ := hR
  have hQ2 := hQ
  obtain ⟨r50, r51, r52, r53, ⟨vf, r54⟩, ⟨hf, r55⟩, ra, ro, rl⟩ := hQ2
  have hG2 := hG
  obtain ⟨gn, grs, gat, glo, gdr⟩ := hG2
  refine mh_ofW (cc := b_MM_intention) (n := 4) (ret := (some .int)) (hs := []) (by decide) k833 ?_
  intro p e s m below meth c hx hb hr hml hown hts hlocks hnm hT hOK hadm
  have K0 : mh_K0 p s m ([.ref m0, .int v, .int (nI q9)]).toArray c "MeldHostModel" b_MM_intention dC dI dA := ⟨hx, hb, hown, hts, hOK.1, hOK.2.1⟩
  have hX := hOK.2.2.2.2
  have hb0 := hOK.2.2.2.1
  have hS : va_S (mh_A b) s.heap s.heap [] := va_S.rf
  have hl := lv_entry ([.ref m0, .int v, .int (nI q9)]) (n := 4) (Nat.le_of_ble_eq_true rfl)
  rw [lg_entry_eq]
  generalize (lg_sl ([.ref m0, .int v, .int (nI q9)]) ++ List.replicate (4 - (lg_sl ([.ref m0, .int v, .int (nI q9)])).length) Slot.unset).toArray = ls at hl ⊢
  have hl : lv_has ls 4 [(0, .ref m0), (1, .int v), (2, .int (nI q9))] := hl
  refine lv_aload_n hx hb d_MM_intention_0 rfl (lv_at hl 0 rfl) ?_
  refine lv_iload_n hx hb d_MM_intention_1 rfl (lv_at hl 2 rfl) ?_
  refine lv_bipush (v := nI 6) hx hb d_MM_intention_2 (by decide) ?_
  refine mh_callR (mh_sS (rest := [.ref m0]) (av := [.int (nI q9), .int (nI 6)]) K0 e_MM_in l_MM_53 k744 rfl rfl d_MM_intention_4) (c_MM_in) K0 hOK hml hl.1 e_MM_in hX hS d_MM_intention_4 (Nat.le_of_ble_eq_true rfl) (Nat.le_of_ble_eq_true rfl) (Nat.le_of_ble_eq_true rfl) (Nat.le_of_ble_eq_true rfl) (Nat.le_of_ble_eq_true rfl) (fun H locs hX hS => ?_)
  refine W.eq (g2 := F0 m 7 ls [.int (mh_b (st_in (nI q9) 6)), .ref m0]) rfl ?_
  refine mh_ifneB (tgt := 14) hx hb d_MM_intention_7 (by decide) (fun _ => ?_) (fun z => absurd z (by rw [st_in_nI h3 (by decide)]; decide))
  refine lv_iconst (v := nI 0) hx hb d_MM_intention_14 (by decide) ?_
  refine lv_iconst (v := nI 1) hx hb d_MM_intention_15 (by decide) ?_
  refine mh_callV (mh_sV (rest := []) (av := [.int (nI 0), .int (nI 1)]) K0 hX r50 rfl e_MM_fails l_MM_57 k748 kp15 rfl rfl d_MM_intention_16) (c_MM_fails0 r50) K0 hOK hml hl.1 e_MM_fails hX hS d_MM_intention_16 (Nat.le_of_ble_eq_true rfl) (Nat.le_of_ble_eq_true rfl) (Nat.le_of_ble_eq_true rfl) (Nat.le_of_ble_eq_true rfl) (Nat.le_of_ble_eq_true rfl) (fun wf90 H locs ⟨hm90, hF90⟩ hX hS => ?_)
  refine W.eq (g2 := F0 m 19 ls [.int (nI 0)]) rfl ?_
  refine mh_if_eq (tgt := 24) hx hb (by omega) d_MM_intention_19 (by decide) (fun _ => ?_) (fun z => absurd z (by omega))
  refine lv_aload_n hx hb d_MM_intention_24 rfl (lv_at hl 0 rfl) ?_
  refine lv_iload_n hx hb d_MM_intention_25 rfl (lv_at hl 1 rfl) ?_
  refine lv_aload_n hx hb d_MM_intention_26 rfl (lv_at hl 0 rfl) ?_
  refine mh_get K0 hX hm90 f_MM_113 rfl d_MM_intention_27 ?_
  refine mh_callR (mh_sS (rest := [.ref m0]) (av := [.int v, .int (nI (sg_n g))]) K0 e_MM_in l_MM_53 k744 rfl rfl d_MM_intention_30) (c_MM_in) K0 hOK hml hl.1 e_MM_in hX hS d_MM_intention_30 (Nat.le_of_ble_eq_true rfl) (Nat.le_of_ble_eq_true rfl) (Nat.le_of_ble_eq_true rfl) (Nat.le_of_ble_eq_true rfl) (Nat.le_of_ble_eq_true rfl) (fun H locs hX hS => ?_)
  refine W.eq (g2 := F0 m 33 ls [.int (mh_b (st_in v (sg_n g))), .ref m0]) rfl ?_
  refine mh_ifneB (tgt := 40) hx hb d_MM_intention_33 (by decide) (fun z => absurd z (by rw [hv]; decide)) (fun _ => ?_)
  refine lv_iconst (v := nI 1) hx hb d_MM_intention_36 (by decide) ?_
  refine lv_goto (tgt := 41) hx hb d_MM_intention_37 (by decide) ?_
  refine lv_iconst (v := nI 2) hx hb d_MM_intention_41 (by decide) ?_
  refine mh_callV (mh_sV (rest := []) (av := [.int (nI 1), .int (nI 2)]) K0 hX hm90 rfl e_MM_fails l_MM_57 k748 kp15 rfl rfl d_MM_intention_42) (c_MM_fails1 hm90) K0 hOK hml hl.1 e_MM_fails hX hS d_MM_intention_42 (Nat.le_of_ble_eq_true rfl) (Nat.le_of_ble_eq_true rfl) (Nat.le_of_ble_eq_true rfl) (Nat.le_of_ble_eq_true rfl) (Nat.le_of_ble_eq_true rfl) (fun wf91 H locs ⟨hm91, hF91⟩ hX hS => ?_)
  refine W.eq (g2 := F0 m 45 ls [.int (nI 1)]) rfl ?_
  refine mh_if_eq (tgt := 50) hx hb (by omega) d_MM_intention_45 (by decide) (fun z => absurd z (by omega)) (fun _ => ?_)
  refine lv_iconst (v := nI 0) hx hb d_MM_intention_48 (by decide) ?_
  exact mh_iret K0 hr rfl hlocks hX hS (⟨rfl, ⟨aG, aO, aA, aV, aH, lg, op, at_, hQ.sc (fun k i h1 h2 h3 h4 => by rw [hF91 _ _ (by omega), hF90 _ _ (by omega)]) hm91 ⟨_, ((hF91 54 0 (by omega)).trans ((hF90 54 0 (by omega)).trans r54))⟩ ⟨_, ((hF91 55 0 (by omega)).trans ((hF90 55 0 (by omega)).trans r55))⟩⟩, fun k i h => by rw [hF91 _ _ (by omega), hF90 _ _ (by omega)]⟩) (Nat.le_of_ble_eq_true rfl) (Nat.le_of_ble_eq_true rfl) d_MM_intention_49
set_option maxHeartbeats 4000000 in
set_option maxRecDepth 100000 in
theorem c_MM_verdict_0 {l : Launch} {b : Nat} {dC : Nat → ClassId} {dI : Nat → Nat → Nat} {dA : Nat → ClassId} {zs : Nat → Nat} {w : mh_w} {m0 : Nat} {er : Int32} {g : st_G} (hR : rM dA w m0 er g) (hG : sg_ok g) {u : Nat} (hu : u < 4) {j : Nat} (hj : j < sg_n g) : mh_Met l b dC dI dA zs y_MM_verdict (mh_rm 4 10 500) [.ref m0, .int (nI u), .int (nI j)] w (mh_V (some (.int (if sg_at g u ≤ j then 0 else if iv_gd (sg_lg g j) = true then 1 else 2))) (fun w' => rM dA w' m0 (nI 0) g ∧ mh_D w w')) := by
  obtain ⟨aG, aO, aA, aV, aH, lg, op, at_, hQ⟩ := hR
  have hQ2 := hQ
  obtain ⟨r50, r51, r52, r53, ⟨vf, r54⟩, ⟨hf, r55⟩, ra, ro, rl⟩ := hQ2
  have hG2 := hG
  obtain ⟨gn, grs, gat, glo, gdr⟩ := hG2
  refine mh_ofW (cc := b_MM_verdict) (n := 3) (ret := (some .int)) (hs := []) (by decide) k829 ?_
  intro p e s m below meth c hx hb hr hml hown hts hlocks hnm hT hOK hadm
  have K0 : mh_K0 p s m ([.ref m0, .int (nI u), .int (nI j)]).toArray c "MeldHostModel" b_MM_verdict dC dI dA := ⟨hx, hb, hown, hts, hOK.1, hOK.2.1⟩
  have hX := hOK.2.2.2.2
  have hb0 := hOK.2.2.2.1
  have hS : va_S (mh_A b) s.heap s.heap [] := va_S.rf
  have hl := lv_entry ([.ref m0, .int (nI u), .int (nI j)]) (n := 3) (Nat.le_of_ble_eq_true rfl)
  rw [lg_entry_eq]
  generalize (lg_sl ([.ref m0, .int (nI u), .int (nI j)]) ++ List.replicate (3 - (lg_sl ([.ref m0, .int (nI u), .int (nI j)])).length) Slot.unset).toArray = ls at hl ⊢
  have hl : lv_has ls 3 [(0, .ref m0), (1, .int (nI u)), (2, .int (nI j))] := hl
  obtain ⟨yy, hy1, hy2⟩ := rl j hj
  obtain ⟨a1, a2, a3, a4, a5, a6, j0⟩ := hy2.fst
  have hlj := glo j hj
  obtain ⟨l1, l2, l3, l4, l5, -⟩ := hlj
  have hat := gat u hu
  refine lv_aload_n hx hb d_MM_verdict_0 rfl (lv_at hl 0 rfl) ?_
  refine lv_iload_n hx hb d_MM_verdict_1 rfl (lv_at hl 1 rfl) ?_
  refine lv_iconst (v := nI 4) hx hb d_MM_verdict_2 (by decide) ?_
  refine mh_callR (mh_sS (rest := [.ref m0]) (av := [.int (nI u), .int (nI 4)]) K0 e_MM_in l_MM_53 k744 rfl rfl d_MM_verdict_3) (c_MM_in) K0 hOK hml hl.1 e_MM_in hX hS d_MM_verdict_3 (Nat.le_of_ble_eq_true rfl) (Nat.le_of_ble_eq_true rfl) (Nat.le_of_ble_eq_true rfl) (Nat.le_of_ble_eq_true rfl) (Nat.le_of_ble_eq_true rfl) (fun H locs hX hS => ?_)
  refine W.eq (g2 := F0 m 6 ls [.int (mh_b (st_in (nI u) 4)), .ref m0]) rfl ?_
  refine mh_ifneB (tgt := 13) hx hb d_MM_verdict_6 (by decide) (fun _ => ?_) (fun z => absurd z (by rw [st_in_nI hu (by decide)]; decide))
  refine lv_iconst (v := nI 0) hx hb d_MM_verdict_13 (by decide) ?_
  refine lv_iconst (v := nI 1) hx hb d_MM_verdict_14 (by decide) ?_
  refine mh_callV (mh_sV (rest := []) (av := [.int (nI 0), .int (nI 1)]) K0 hX r50 rfl e_MM_fails l_MM_57 k748 kp15 rfl rfl d_MM_verdict_15) (c_MM_fails0 r50) K0 hOK hml hl.1 e_MM_fails hX hS d_MM_verdict_15 (Nat.le_of_ble_eq_true rfl) (Nat.le_of_ble_eq_true rfl) (Nat.le_of_ble_eq_true rfl) (Nat.le_of_ble_eq_true rfl) (Nat.le_of_ble_eq_true rfl) (fun wf92 H locs ⟨hm92, hF92⟩ hX hS => ?_)
  refine W.eq (g2 := F0 m 18 ls [.int (nI 0)]) rfl ?_
  refine mh_if_eq (tgt := 23) hx hb (by omega) d_MM_verdict_18 (by decide) (fun _ => ?_) (fun z => absurd z (by omega))
  refine lv_aload_n hx hb d_MM_verdict_23 rfl (lv_at hl 0 rfl) ?_
  refine lv_iload_n hx hb d_MM_verdict_24 rfl (lv_at hl 2 rfl) ?_
  refine lv_aload_n hx hb d_MM_verdict_25 rfl (lv_at hl 0 rfl) ?_
  refine mh_get K0 hX hm92 f_MM_113 rfl d_MM_verdict_26 ?_
  refine mh_callR (mh_sS (rest := [.ref m0]) (av := [.int (nI j), .int (nI (sg_n g))]) K0 e_MM_in l_MM_53 k744 rfl rfl d_MM_verdict_29) (c_MM_in) K0 hOK hml hl.1 e_MM_in hX hS d_MM_verdict_29 (Nat.le_of_ble_eq_true rfl) (Nat.le_of_ble_eq_true rfl) (Nat.le_of_ble_eq_true rfl) (Nat.le_of_ble_eq_true rfl) (Nat.le_of_ble_eq_true rfl) (fun H locs hX hS => ?_)
  refine W.eq (g2 := F0 m 32 ls [.int (mh_b (st_in (nI j) (sg_n g))), .ref m0]) rfl ?_
  refine mh_ifneB (tgt := 39) hx hb d_MM_verdict_32 (by decide) (fun _ => ?_) (fun z => absurd z (by rw [st_in_nI hj (by omega)]; decide))
  refine lv_iconst (v := nI 0) hx hb d_MM_verdict_39 (by decide) ?_
  refine lv_iconst (v := nI 2) hx hb d_MM_verdict_40 (by decide) ?_
  refine mh_callV (mh_sV (rest := []) (av := [.int (nI 0), .int (nI 2)]) K0 hX hm92 rfl e_MM_fails l_MM_57 k748 kp15 rfl rfl d_MM_verdict_41) (c_MM_fails0 hm92) K0 hOK hml hl.1 e_MM_fails hX hS d_MM_verdict_41 (Nat.le_of_ble_eq_true rfl) (Nat.le_of_ble_eq_true rfl) (Nat.le_of_ble_eq_true rfl) (Nat.le_of_ble_eq_true rfl) (Nat.le_of_ble_eq_true rfl) (fun wf93 H locs ⟨hm93, hF93⟩ hX hS => ?_)
  refine W.eq (g2 := F0 m 44 ls [.int (nI 0)]) rfl ?_
  refine mh_if_eq (tgt := 49) hx hb (by omega) d_MM_verdict_44 (by decide) (fun _ => ?_) (fun z => absurd z (by omega))
  refine lv_iload_n hx hb d_MM_verdict_49 rfl (lv_at hl 2 rfl) ?_
  refine lv_aload_n hx hb d_MM_verdict_50 rfl (lv_at hl 0 rfl) ?_
  refine mh_get K0 hX hm93 f_MM_18 rfl d_MM_verdict_51 ?_
  refine lv_iload_n hx hb d_MM_verdict_54 rfl (lv_at hl 1 rfl) ?_
  refine mh_ialdN K0 hX ((hF93 53 0 (by omega)).trans ((hF92 53 0 (by omega)).trans r53)) (by omega) (by omega) d_MM_verdict_55 ?_
  refine mh_ti (y := nI (sg_at g u)) (ra u hu) ?_
  refine mh_icmp_lt (tgt := 63) hx hb (by omega) (by omega) d_MM_verdict_56 (by decide) (fun ct => ?_) (fun cf => ?_)
  · skip
    refine lv_aload_n hx hb d_MM_verdict_63 rfl (lv_at hl 0 rfl) ?_
    refine mh_get K0 hX hm93 f_MM_11 rfl d_MM_verdict_64 ?_
    refine lv_iload_n hx hb d_MM_verdict_67 rfl (lv_at hl 2 rfl) ?_
    refine mh_aaldN 7 rfl K0 hX ((hF93 51 0 (by omega)).trans ((hF92 51 0 (by omega)).trans r51)) (by omega) (by omega) (r := (some yy)) (hy1) d_MM_verdict_68 ?_
    refine W.eq (g2 := F0 m 69 ls [.ref yy]) rfl ?_
    refine mh_get K0 hX ((hF93 66 j (by omega)).trans ((hF92 66 j (by omega)).trans j0)) f_MM_35 rfl d_MM_verdict_69 ?_
    refine mh_ifeqB (tgt := 79) hx hb d_MM_verdict_72 (by decide) (fun c2 => ?_) (fun c2 => ?_)
    · skip
      refine lv_iconst (v := nI 2) hx hb d_MM_verdict_79 (by decide) ?_
      exact mh_iret K0 hr rfl hlocks hX hS (⟨by rw [if_neg (by omega), if_neg (by rw [c2]; decide)]; rfl, ⟨aG, aO, aA, aV, aH, lg, op, at_, hQ.sc (fun k i h1 h2 h3 h4 => by rw [hF93 _ _ (by omega), hF92 _ _ (by omega)]) hm93 ⟨_, ((hF93 54 0 (by omega)).trans ((hF92 54 0 (by omega)).trans r54))⟩ ⟨_, ((hF93 55 0 (by omega)).trans ((hF92 55 0 (by omega)).trans r55))⟩⟩, fun k i h => by rw [hF93 _ _ (by omega), hF92 _ _ (by omega)]⟩) (Nat.le_of_ble_eq_true rfl) (Nat.le_of_ble_eq_true rfl) d_MM_verdict_80
    · skip
      refine lv_iconst (v := nI 1) hx hb d_MM_verdict_75 (by decide) ?_
      refine lv_goto (tgt := 80) hx hb d_MM_verdict_76 (by decide) ?_
      exact mh_iret K0 hr rfl hlocks hX hS (⟨by rw [if_neg (by omega), if_pos c2]; rfl, ⟨aG, aO, aA, aV, aH, lg, op, at_, hQ.sc (fun k i h1 h2 h3 h4 => by rw [hF93 _ _ (by omega), hF92 _ _ (by omega)]) hm93 ⟨_, ((hF93 54 0 (by omega)).trans ((hF92 54 0 (by omega)).trans r54))⟩ ⟨_, ((hF93 55 0 (by omega)).trans ((hF92 55 0 (by omega)).trans r55))⟩⟩, fun k i h => by rw [hF93 _ _ (by omega), hF92 _ _ (by omega)]⟩) (Nat.le_of_ble_eq_true rfl) (Nat.le_of_ble_eq_true rfl) d_MM_verdict_80
  · skip
    refine lv_iconst (v := nI 0) hx hb d_MM_verdict_59 (by decide) ?_
    refine lv_goto (tgt := 80) hx hb d_MM_verdict_60 (by decide) ?_
    exact mh_iret K0 hr rfl hlocks hX hS (⟨by rw [if_pos cf]; rfl, ⟨aG, aO, aA, aV, aH, lg, op, at_, hQ.sc (fun k i h1 h2 h3 h4 => by rw [hF93 _ _ (by omega), hF92 _ _ (by omega)]) hm93 ⟨_, ((hF93 54 0 (by omega)).trans ((hF92 54 0 (by omega)).trans r54))⟩ ⟨_, ((hF93 55 0 (by omega)).trans ((hF92 55 0 (by omega)).trans r55))⟩⟩, fun k i h => by rw [hF93 _ _ (by omega), hF92 _ _ (by omega)]⟩) (Nat.le_of_ble_eq_true rfl) (Nat.le_of_ble_eq_true rfl) d_MM_verdict_80
set_option maxHeartbeats 4000000 in
set_option maxRecDepth 100000 in
theorem c_MM_intention_0 {l : Launch} {b : Nat} {dC : Nat → ClassId} {dI : Nat → Nat → Nat} {dA : Nat → ClassId} {zs : Nat → Nat} {w : mh_w} {m0 : Nat} {er : Int32} {g : st_G} (hR : rM dA w m0 er g) (hG : sg_ok g) {j : Nat} (hj : j < sg_n g) {q9 : Nat} (h3 : q9 < 6) : mh_Met l b dC dI dA zs y_MM_intention (mh_rm 4 10 500) [.ref m0, .int (nI j), .int (nI q9)] w (mh_V (some (.int (nI (sp_tell (sg_lg g j) (nI q9))))) (fun w' => rM dA w' m0 (nI 0) g ∧ mh_D w w')) := by
  obtain ⟨aG, aO, aA, aV, aH, lg, op, at_, hQ⟩ := hR
  have hQ2 := hQ
  obtain ⟨r50, r51, r52, r53, ⟨vf, r54⟩, ⟨hf, r55⟩, ra, ro, rl⟩ := hQ2
  have hG2 := hG
  obtain ⟨gn, grs, gat, glo, gdr⟩ := hG2
  refine mh_ofW (cc := b_MM_intention) (n := 4) (ret := (some .int)) (hs := []) (by decide) k833 ?_
  intro p e s m below meth c hx hb hr hml hown hts hlocks hnm hT hOK hadm
  have K0 : mh_K0 p s m ([.ref m0, .int (nI j), .int (nI q9)]).toArray c "MeldHostModel" b_MM_intention dC dI dA := ⟨hx, hb, hown, hts, hOK.1, hOK.2.1⟩
  have hX := hOK.2.2.2.2
  have hb0 := hOK.2.2.2.1
  have hS : va_S (mh_A b) s.heap s.heap [] := va_S.rf
  have hl := lv_entry ([.ref m0, .int (nI j), .int (nI q9)]) (n := 4) (Nat.le_of_ble_eq_true rfl)
  rw [lg_entry_eq]
  generalize (lg_sl ([.ref m0, .int (nI j), .int (nI q9)]) ++ List.replicate (4 - (lg_sl ([.ref m0, .int (nI j), .int (nI q9)])).length) Slot.unset).toArray = ls at hl ⊢
  have hl : lv_has ls 4 [(0, .ref m0), (1, .int (nI j)), (2, .int (nI q9))] := hl
  obtain ⟨yy, hy1, hy2⟩ := rl j hj
  obtain ⟨a1, a2, a3, a4, a5, a6, j0⟩ := hy2.fst
  have hlj := glo j hj
  obtain ⟨l1, l2, l3, l4, l5, -⟩ := hlj
  refine lv_aload_n hx hb d_MM_intention_0 rfl (lv_at hl 0 rfl) ?_
  refine lv_iload_n hx hb d_MM_intention_1 rfl (lv_at hl 2 rfl) ?_
  refine lv_bipush (v := nI 6) hx hb d_MM_intention_2 (by decide) ?_
  refine mh_callR (mh_sS (rest := [.ref m0]) (av := [.int (nI q9), .int (nI 6)]) K0 e_MM_in l_MM_53 k744 rfl rfl d_MM_intention_4) (c_MM_in) K0 hOK hml hl.1 e_MM_in hX hS d_MM_intention_4 (Nat.le_of_ble_eq_true rfl) (Nat.le_of_ble_eq_true rfl) (Nat.le_of_ble_eq_true rfl) (Nat.le_of_ble_eq_true rfl) (Nat.le_of_ble_eq_true rfl) (fun H locs hX hS => ?_)
  refine W.eq (g2 := F0 m 7 ls [.int (mh_b (st_in (nI q9) 6)), .ref m0]) rfl ?_
  refine mh_ifneB (tgt := 14) hx hb d_MM_intention_7 (by decide) (fun _ => ?_) (fun z => absurd z (by rw [st_in_nI h3 (by decide)]; decide))
  refine lv_iconst (v := nI 0) hx hb d_MM_intention_14 (by decide) ?_
  refine lv_iconst (v := nI 1) hx hb d_MM_intention_15 (by decide) ?_
  refine mh_callV (mh_sV (rest := []) (av := [.int (nI 0), .int (nI 1)]) K0 hX r50 rfl e_MM_fails l_MM_57 k748 kp15 rfl rfl d_MM_intention_16) (c_MM_fails0 r50) K0 hOK hml hl.1 e_MM_fails hX hS d_MM_intention_16 (Nat.le_of_ble_eq_true rfl) (Nat.le_of_ble_eq_true rfl) (Nat.le_of_ble_eq_true rfl) (Nat.le_of_ble_eq_true rfl) (Nat.le_of_ble_eq_true rfl) (fun wf94 H locs ⟨hm94, hF94⟩ hX hS => ?_)
  refine W.eq (g2 := F0 m 19 ls [.int (nI 0)]) rfl ?_
  refine mh_if_eq (tgt := 24) hx hb (by omega) d_MM_intention_19 (by decide) (fun _ => ?_) (fun z => absurd z (by omega))
  refine lv_aload_n hx hb d_MM_intention_24 rfl (lv_at hl 0 rfl) ?_
  refine lv_iload_n hx hb d_MM_intention_25 rfl (lv_at hl 1 rfl) ?_
  refine lv_aload_n hx hb d_MM_intention_26 rfl (lv_at hl 0 rfl) ?_
  refine mh_get K0 hX hm94 f_MM_113 rfl d_MM_intention_27 ?_
  refine mh_callR (mh_sS (rest := [.ref m0]) (av := [.int (nI j), .int (nI (sg_n g))]) K0 e_MM_in l_MM_53 k744 rfl rfl d_MM_intention_30) (c_MM_in) K0 hOK hml hl.1 e_MM_in hX hS d_MM_intention_30 (Nat.le_of_ble_eq_true rfl) (Nat.le_of_ble_eq_true rfl) (Nat.le_of_ble_eq_true rfl) (Nat.le_of_ble_eq_true rfl) (Nat.le_of_ble_eq_true rfl) (fun H locs hX hS => ?_)
  refine W.eq (g2 := F0 m 33 ls [.int (mh_b (st_in (nI j) (sg_n g))), .ref m0]) rfl ?_
  refine mh_ifneB (tgt := 40) hx hb d_MM_intention_33 (by decide) (fun _ => ?_) (fun z => absurd z (by rw [st_in_nI hj (by omega)]; decide))
  refine lv_iconst (v := nI 0) hx hb d_MM_intention_40 (by decide) ?_
  refine lv_iconst (v := nI 2) hx hb d_MM_intention_41 (by decide) ?_
  refine mh_callV (mh_sV (rest := []) (av := [.int (nI 0), .int (nI 2)]) K0 hX hm94 rfl e_MM_fails l_MM_57 k748 kp15 rfl rfl d_MM_intention_42) (c_MM_fails0 hm94) K0 hOK hml hl.1 e_MM_fails hX hS d_MM_intention_42 (Nat.le_of_ble_eq_true rfl) (Nat.le_of_ble_eq_true rfl) (Nat.le_of_ble_eq_true rfl) (Nat.le_of_ble_eq_true rfl) (Nat.le_of_ble_eq_true rfl) (fun wf95 H locs ⟨hm95, hF95⟩ hX hS => ?_)
  refine W.eq (g2 := F0 m 45 ls [.int (nI 0)]) rfl ?_
  refine mh_if_eq (tgt := 50) hx hb (by omega) d_MM_intention_45 (by decide) (fun _ => ?_) (fun z => absurd z (by omega))
  refine lv_aload_n hx hb d_MM_intention_50 rfl (lv_at hl 0 rfl) ?_
  refine mh_get K0 hX hm95 f_MM_11 rfl d_MM_intention_51 ?_
  refine lv_iload_n hx hb d_MM_intention_54 rfl (lv_at hl 1 rfl) ?_
  refine mh_aaldN 7 rfl K0 hX ((hF95 51 0 (by omega)).trans ((hF94 51 0 (by omega)).trans r51)) (by omega) (by omega) (r := (some yy)) (hy1) d_MM_intention_55 ?_
  refine W.eq (g2 := F0 m 56 ls [.ref yy]) rfl ?_
  refine lv_astore_n (lv' := [(3, .ref yy), (0, .ref m0), (1, .int (nI j)), (2, .int (nI q9))]) hx hb d_MM_intention_56 rfl hl (by decide) rfl (fun ls hl => ?_)
  refine lv_iload_n hx hb d_MM_intention_57 rfl (lv_at hl 3 rfl) ?_
  have hq4 : q9 = 0 ∨ q9 = 1 ∨ q9 = 2 ∨ q9 = 3 ∨ q9 = 4 ∨ q9 = 5 := by omega
  rcases hq4 with rfl | rfl | rfl | rfl | rfl | rfl
  · skip
    refine mh_if_ne (tgt := 68) hx hb (by omega) d_MM_intention_58 (by decide) (fun z => absurd z (by omega)) (fun _ => ?_)
    refine lv_aload_n hx hb d_MM_intention_61 rfl (lv_at hl 0 rfl) ?_
    refine mh_get K0 hX ((hF95 66 j (by omega)).trans ((hF94 66 j (by omega)).trans j0)) f_MM_72 rfl d_MM_intention_62 ?_
    refine lv_goto (tgt := 120) hx hb d_MM_intention_65 (by decide) ?_
    exact mh_iret K0 hr rfl hlocks hX hS (⟨rfl, ⟨aG, aO, aA, aV, aH, lg, op, at_, hQ.sc (fun k i h1 h2 h3 h4 => by rw [hF95 _ _ (by omega), hF94 _ _ (by omega)]) hm95 ⟨_, ((hF95 54 0 (by omega)).trans ((hF94 54 0 (by omega)).trans r54))⟩ ⟨_, ((hF95 55 0 (by omega)).trans ((hF94 55 0 (by omega)).trans r55))⟩⟩, fun k i h => by rw [hF95 _ _ (by omega), hF94 _ _ (by omega)]⟩) (Nat.le_of_ble_eq_true rfl) (Nat.le_of_ble_eq_true rfl) d_MM_intention_120
  · skip
    refine mh_if_ne (tgt := 68) hx hb (by omega) d_MM_intention_58 (by decide) (fun _ => ?_) (fun z => absurd z (by omega))
    refine lv_iload_n hx hb d_MM_intention_68 rfl (lv_at hl 3 rfl) ?_
    refine lv_iconst (v := nI 1) hx hb d_MM_intention_69 (by decide) ?_
    refine mh_icmp_ne (tgt := 80) hx hb (by omega) (by omega) d_MM_intention_70 (by decide) (fun z => absurd z (by omega)) (fun _ => ?_)
    refine lv_aload_n hx hb d_MM_intention_73 rfl (lv_at hl 0 rfl) ?_
    refine mh_get K0 hX ((hF95 66 j (by omega)).trans ((hF94 66 j (by omega)).trans j0)) f_MM_69 rfl d_MM_intention_74 ?_
    refine lv_goto (tgt := 120) hx hb d_MM_intention_77 (by decide) ?_
    exact mh_iret K0 hr rfl hlocks hX hS (⟨rfl, ⟨aG, aO, aA, aV, aH, lg, op, at_, hQ.sc (fun k i h1 h2 h3 h4 => by rw [hF95 _ _ (by omega), hF94 _ _ (by omega)]) hm95 ⟨_, ((hF95 54 0 (by omega)).trans ((hF94 54 0 (by omega)).trans r54))⟩ ⟨_, ((hF95 55 0 (by omega)).trans ((hF94 55 0 (by omega)).trans r55))⟩⟩, fun k i h => by rw [hF95 _ _ (by omega), hF94 _ _ (by omega)]⟩) (Nat.le_of_ble_eq_true rfl) (Nat.le_of_ble_eq_true rfl) d_MM_intention_120
  · skip
    refine mh_if_ne (tgt := 68) hx hb (by omega) d_MM_intention_58 (by decide) (fun _ => ?_) (fun z => absurd z (by omega))
    refine lv_iload_n hx hb d_MM_intention_68 rfl (lv_at hl 3 rfl) ?_
    refine lv_iconst (v := nI 1) hx hb d_MM_intention_69 (by decide) ?_
    refine mh_icmp_ne (tgt := 80) hx hb (by omega) (by omega) d_MM_intention_70 (by decide) (fun _ => ?_) (fun z => absurd z (by omega))
    refine lv_iload_n hx hb d_MM_intention_80 rfl (lv_at hl 3 rfl) ?_
    refine lv_iconst (v := nI 2) hx hb d_MM_intention_81 (by decide) ?_
    refine mh_icmp_ne (tgt := 92) hx hb (by omega) (by omega) d_MM_intention_82 (by decide) (fun z => absurd z (by omega)) (fun _ => ?_)
    refine lv_aload_n hx hb d_MM_intention_85 rfl (lv_at hl 0 rfl) ?_
    refine mh_get K0 hX ((hF95 66 j (by omega)).trans ((hF94 66 j (by omega)).trans j0)) f_MM_85 rfl d_MM_intention_86 ?_
    refine lv_goto (tgt := 120) hx hb d_MM_intention_89 (by decide) ?_
    exact mh_iret K0 hr rfl hlocks hX hS (⟨rfl, ⟨aG, aO, aA, aV, aH, lg, op, at_, hQ.sc (fun k i h1 h2 h3 h4 => by rw [hF95 _ _ (by omega), hF94 _ _ (by omega)]) hm95 ⟨_, ((hF95 54 0 (by omega)).trans ((hF94 54 0 (by omega)).trans r54))⟩ ⟨_, ((hF95 55 0 (by omega)).trans ((hF94 55 0 (by omega)).trans r55))⟩⟩, fun k i h => by rw [hF95 _ _ (by omega), hF94 _ _ (by omega)]⟩) (Nat.le_of_ble_eq_true rfl) (Nat.le_of_ble_eq_true rfl) d_MM_intention_120
  · skip
    refine mh_if_ne (tgt := 68) hx hb (by omega) d_MM_intention_58 (by decide) (fun _ => ?_) (fun z => absurd z (by omega))
    refine lv_iload_n hx hb d_MM_intention_68 rfl (lv_at hl 3 rfl) ?_
    refine lv_iconst (v := nI 1) hx hb d_MM_intention_69 (by decide) ?_
    refine mh_icmp_ne (tgt := 80) hx hb (by omega) (by omega) d_MM_intention_70 (by decide) (fun _ => ?_) (fun z => absurd z (by omega))
    refine lv_iload_n hx hb d_MM_intention_80 rfl (lv_at hl 3 rfl) ?_
    refine lv_iconst (v := nI 2) hx hb d_MM_intention_81 (by decide) ?_
    refine mh_icmp_ne (tgt := 92) hx hb (by omega) (by omega) d_MM_intention_82 (by decide) (fun _ => ?_) (fun z => absurd z (by omega))
    refine lv_iload_n hx hb d_MM_intention_92 rfl (lv_at hl 3 rfl) ?_
    refine lv_iconst (v := nI 3) hx hb d_MM_intention_93 (by decide) ?_
    refine mh_icmp_ne (tgt := 104) hx hb (by omega) (by omega) d_MM_intention_94 (by decide) (fun z => absurd z (by omega)) (fun _ => ?_)
    refine lv_aload_n hx hb d_MM_intention_97 rfl (lv_at hl 0 rfl) ?_
    refine mh_get K0 hX ((hF95 66 j (by omega)).trans ((hF94 66 j (by omega)).trans j0)) f_MM_100 rfl d_MM_intention_98 ?_
    refine lv_goto (tgt := 120) hx hb d_MM_intention_101 (by decide) ?_
    exact mh_iret K0 hr rfl hlocks hX hS (⟨rfl, ⟨aG, aO, aA, aV, aH, lg, op, at_, hQ.sc (fun k i h1 h2 h3 h4 => by rw [hF95 _ _ (by omega), hF94 _ _ (by omega)]) hm95 ⟨_, ((hF95 54 0 (by omega)).trans ((hF94 54 0 (by omega)).trans r54))⟩ ⟨_, ((hF95 55 0 (by omega)).trans ((hF94 55 0 (by omega)).trans r55))⟩⟩, fun k i h => by rw [hF95 _ _ (by omega), hF94 _ _ (by omega)]⟩) (Nat.le_of_ble_eq_true rfl) (Nat.le_of_ble_eq_true rfl) d_MM_intention_120
  · skip
    refine mh_if_ne (tgt := 68) hx hb (by omega) d_MM_intention_58 (by decide) (fun _ => ?_) (fun z => absurd z (by omega))
    refine lv_iload_n hx hb d_MM_intention_68 rfl (lv_at hl 3 rfl) ?_
    refine lv_iconst (v := nI 1) hx hb d_MM_intention_69 (by decide) ?_
    refine mh_icmp_ne (tgt := 80) hx hb (by omega) (by omega) d_MM_intention_70 (by decide) (fun _ => ?_) (fun z => absurd z (by omega))
    refine lv_iload_n hx hb d_MM_intention_80 rfl (lv_at hl 3 rfl) ?_
    refine lv_iconst (v := nI 2) hx hb d_MM_intention_81 (by decide) ?_
    refine mh_icmp_ne (tgt := 92) hx hb (by omega) (by omega) d_MM_intention_82 (by decide) (fun _ => ?_) (fun z => absurd z (by omega))
    refine lv_iload_n hx hb d_MM_intention_92 rfl (lv_at hl 3 rfl) ?_
    refine lv_iconst (v := nI 3) hx hb d_MM_intention_93 (by decide) ?_
    refine mh_icmp_ne (tgt := 104) hx hb (by omega) (by omega) d_MM_intention_94 (by decide) (fun _ => ?_) (fun z => absurd z (by omega))
    refine lv_iload_n hx hb d_MM_intention_104 rfl (lv_at hl 3 rfl) ?_
    refine lv_iconst (v := nI 4) hx hb d_MM_intention_105 (by decide) ?_
    refine mh_icmp_ne (tgt := 116) hx hb (by omega) (by omega) d_MM_intention_106 (by decide) (fun z => absurd z (by omega)) (fun _ => ?_)
    refine lv_aload_n hx hb d_MM_intention_109 rfl (lv_at hl 0 rfl) ?_
    refine mh_get K0 hX ((hF95 66 j (by omega)).trans ((hF94 66 j (by omega)).trans j0)) f_MM_43 rfl d_MM_intention_110 ?_
    refine lv_goto (tgt := 120) hx hb d_MM_intention_113 (by decide) ?_
    exact mh_iret K0 hr rfl hlocks hX hS (⟨rfl, ⟨aG, aO, aA, aV, aH, lg, op, at_, hQ.sc (fun k i h1 h2 h3 h4 => by rw [hF95 _ _ (by omega), hF94 _ _ (by omega)]) hm95 ⟨_, ((hF95 54 0 (by omega)).trans ((hF94 54 0 (by omega)).trans r54))⟩ ⟨_, ((hF95 55 0 (by omega)).trans ((hF94 55 0 (by omega)).trans r55))⟩⟩, fun k i h => by rw [hF95 _ _ (by omega), hF94 _ _ (by omega)]⟩) (Nat.le_of_ble_eq_true rfl) (Nat.le_of_ble_eq_true rfl) d_MM_intention_120
  · skip
    refine mh_if_ne (tgt := 68) hx hb (by omega) d_MM_intention_58 (by decide) (fun _ => ?_) (fun z => absurd z (by omega))
    refine lv_iload_n hx hb d_MM_intention_68 rfl (lv_at hl 3 rfl) ?_
    refine lv_iconst (v := nI 1) hx hb d_MM_intention_69 (by decide) ?_
    refine mh_icmp_ne (tgt := 80) hx hb (by omega) (by omega) d_MM_intention_70 (by decide) (fun _ => ?_) (fun z => absurd z (by omega))
    refine lv_iload_n hx hb d_MM_intention_80 rfl (lv_at hl 3 rfl) ?_
    refine lv_iconst (v := nI 2) hx hb d_MM_intention_81 (by decide) ?_
    refine mh_icmp_ne (tgt := 92) hx hb (by omega) (by omega) d_MM_intention_82 (by decide) (fun _ => ?_) (fun z => absurd z (by omega))
    refine lv_iload_n hx hb d_MM_intention_92 rfl (lv_at hl 3 rfl) ?_
    refine lv_iconst (v := nI 3) hx hb d_MM_intention_93 (by decide) ?_
    refine mh_icmp_ne (tgt := 104) hx hb (by omega) (by omega) d_MM_intention_94 (by decide) (fun _ => ?_) (fun z => absurd z (by omega))
    refine lv_iload_n hx hb d_MM_intention_104 rfl (lv_at hl 3 rfl) ?_
    refine lv_iconst (v := nI 4) hx hb d_MM_intention_105 (by decide) ?_
    refine mh_icmp_ne (tgt := 116) hx hb (by omega) (by omega) d_MM_intention_106 (by decide) (fun _ => ?_) (fun z => absurd z (by omega))
    refine lv_aload_n hx hb d_MM_intention_116 rfl (lv_at hl 0 rfl) ?_
    refine mh_get K0 hX ((hF95 66 j (by omega)).trans ((hF94 66 j (by omega)).trans j0)) f_MM_66 rfl d_MM_intention_117 ?_
    exact mh_iret K0 hr rfl hlocks hX hS (⟨rfl, ⟨aG, aO, aA, aV, aH, lg, op, at_, hQ.sc (fun k i h1 h2 h3 h4 => by rw [hF95 _ _ (by omega), hF94 _ _ (by omega)]) hm95 ⟨_, ((hF95 54 0 (by omega)).trans ((hF94 54 0 (by omega)).trans r54))⟩ ⟨_, ((hF95 55 0 (by omega)).trans ((hF94 55 0 (by omega)).trans r55))⟩⟩, fun k i h => by rw [hF95 _ _ (by omega), hF94 _ _ (by omega)]⟩) (Nat.le_of_ble_eq_true rfl) (Nat.le_of_ble_eq_true rfl) d_MM_intention_120
