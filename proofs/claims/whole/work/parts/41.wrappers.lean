/-! THE LAW'S WRAPPERS: a call of the class, its outcome as a number -/
def lW (dA : Nat → ClassId) (zs : Nat → Nat) (w : mh_w) (x0 o0 : Nat) (vd : Bool) (r : sp_R) : mh_w → Prop := fun w' => rC dA zs w' x0 r.2.2 ∧ (∃ ov : Nat → Int64, w' 90 0 = some (o0, .inl (dA 1, 1, .inr (.inl ov))) ∧ (vd = false → r.1 = 0 → ov 0 = r.2.1)) ∧ ∀ k i, 50 ≤ k → k < 80 → w' k i = w k i
theorem mh_m1 : ((-1 : Int32)).toInt64 = -1 := by decide
theorem sp_tell_lt {x : st_I} {n : Nat} {q : Int32} (h : iv_ok n x) (hn : n ≤ 400) : sp_tell x q < 2 ^ 31 := by
  obtain ⟨h1, h2, h3, h4, h5, -⟩ := h
  have := pb_cnt_le (iv_rd x) 256
  unfold sp_tell
  repeat' split
  all_goals omega
theorem d_LW_begin_0 : decode b_LW_begin 0 = .ok (.aload_n 0, 1) := by decide +kernel
theorem d_LW_begin_1 : decode b_LW_begin 1 = .ok (.iload_n 1, 1) := by decide +kernel
theorem d_LW_begin_2 : decode b_LW_begin 2 = .ok (.iload_n 2, 1) := by decide +kernel
theorem d_LW_begin_3 : decode b_LW_begin 3 = .ok (.iload_n 3, 1) := by decide +kernel
theorem d_LW_begin_4 : decode b_LW_begin 4 = .ok (.invokevirtual 7, 3) := by decide +kernel
theorem d_LW_begin_10 : decode b_LW_begin 10 = .ok (.astore 4, 2) := by decide +kernel
theorem d_LW_begin_12 : decode b_LW_begin 12 = .ok (.iconst 1, 1) := by decide +kernel
theorem d_LW_begin_13 : decode b_LW_begin 13 = .ok (.ireturn, 1) := by decide +kernel
theorem d_LW_get_0 : decode b_LW_get 0 = .ok (.aload_n 3, 1) := by decide +kernel
theorem d_LW_get_1 : decode b_LW_get 1 = .ok (.iconst 0, 1) := by decide +kernel
theorem d_LW_get_2 : decode b_LW_get 2 = .ok (.aload_n 0, 1) := by decide +kernel
theorem d_LW_get_3 : decode b_LW_get 3 = .ok (.iload_n 1, 1) := by decide +kernel
theorem d_LW_get_4 : decode b_LW_get 4 = .ok (.iload_n 2, 1) := by decide +kernel
theorem d_LW_get_5 : decode b_LW_get 5 = .ok (.invokevirtual 17, 3) := by decide +kernel
theorem d_LW_get_12 : decode b_LW_get 12 = .ok (.astore 4, 2) := by decide +kernel
theorem d_LW_get_14 : decode b_LW_get 14 = .ok (.iconst 1, 1) := by decide +kernel
theorem d_LW_get_15 : decode b_LW_get 15 = .ok (.ireturn, 1) := by decide +kernel
theorem d_LW_put_0 : decode b_LW_put 0 = .ok (.aload 5, 2) := by decide +kernel
theorem d_LW_put_2 : decode b_LW_put 2 = .ok (.iconst 0, 1) := by decide +kernel
theorem d_LW_put_3 : decode b_LW_put 3 = .ok (.aload_n 0, 1) := by decide +kernel
theorem d_LW_put_4 : decode b_LW_put 4 = .ok (.iload_n 1, 1) := by decide +kernel
theorem d_LW_put_5 : decode b_LW_put 5 = .ok (.iload_n 2, 1) := by decide +kernel
theorem d_LW_put_6 : decode b_LW_put 6 = .ok (.lload_n 3, 1) := by decide +kernel
theorem d_LW_put_7 : decode b_LW_put 7 = .ok (.invokevirtual 23, 3) := by decide +kernel
theorem d_LW_put_15 : decode b_LW_put 15 = .ok (.astore 6, 2) := by decide +kernel
theorem d_LW_put_17 : decode b_LW_put 17 = .ok (.iconst 1, 1) := by decide +kernel
theorem d_LW_put_18 : decode b_LW_put 18 = .ok (.ireturn, 1) := by decide +kernel
theorem d_LW_delete_0 : decode b_LW_delete 0 = .ok (.aload_n 3, 1) := by decide +kernel
theorem d_LW_delete_1 : decode b_LW_delete 1 = .ok (.iconst 0, 1) := by decide +kernel
theorem d_LW_delete_2 : decode b_LW_delete 2 = .ok (.aload_n 0, 1) := by decide +kernel
theorem d_LW_delete_3 : decode b_LW_delete 3 = .ok (.iload_n 1, 1) := by decide +kernel
theorem d_LW_delete_4 : decode b_LW_delete 4 = .ok (.iload_n 2, 1) := by decide +kernel
theorem d_LW_delete_5 : decode b_LW_delete 5 = .ok (.invokevirtual 29, 3) := by decide +kernel
theorem d_LW_delete_13 : decode b_LW_delete 13 = .ok (.astore 4, 2) := by decide +kernel
theorem d_LW_delete_15 : decode b_LW_delete 15 = .ok (.iconst 1, 1) := by decide +kernel
theorem d_LW_delete_16 : decode b_LW_delete 16 = .ok (.ireturn, 1) := by decide +kernel
theorem d_LW_part_0 : decode b_LW_part 0 = .ok (.aload 5, 2) := by decide +kernel
theorem d_LW_part_2 : decode b_LW_part 2 = .ok (.iconst 0, 1) := by decide +kernel
theorem d_LW_part_3 : decode b_LW_part 3 = .ok (.aload_n 0, 1) := by decide +kernel
theorem d_LW_part_4 : decode b_LW_part 4 = .ok (.iload_n 1, 1) := by decide +kernel
theorem d_LW_part_5 : decode b_LW_part 5 = .ok (.iload_n 2, 1) := by decide +kernel
theorem d_LW_part_6 : decode b_LW_part 6 = .ok (.iload_n 3, 1) := by decide +kernel
theorem d_LW_part_7 : decode b_LW_part 7 = .ok (.iload 4, 2) := by decide +kernel
theorem d_LW_part_9 : decode b_LW_part 9 = .ok (.invokevirtual 33, 3) := by decide +kernel
theorem d_LW_part_16 : decode b_LW_part 16 = .ok (.astore 6, 2) := by decide +kernel
theorem d_LW_part_18 : decode b_LW_part 18 = .ok (.iconst 1, 1) := by decide +kernel
theorem d_LW_part_19 : decode b_LW_part 19 = .ok (.ireturn, 1) := by decide +kernel
theorem d_LW_look_0 : decode b_LW_look 0 = .ok (.aload 5, 2) := by decide +kernel
theorem d_LW_look_2 : decode b_LW_look 2 = .ok (.iconst 0, 1) := by decide +kernel
theorem d_LW_look_3 : decode b_LW_look 3 = .ok (.aload_n 0, 1) := by decide +kernel
theorem d_LW_look_4 : decode b_LW_look 4 = .ok (.iload_n 1, 1) := by decide +kernel
theorem d_LW_look_5 : decode b_LW_look 5 = .ok (.iload_n 2, 1) := by decide +kernel
theorem d_LW_look_6 : decode b_LW_look 6 = .ok (.iload_n 3, 1) := by decide +kernel
theorem d_LW_look_7 : decode b_LW_look 7 = .ok (.iload 4, 2) := by decide +kernel
theorem d_LW_look_9 : decode b_LW_look 9 = .ok (.invokevirtual 54, 3) := by decide +kernel
theorem d_LW_look_16 : decode b_LW_look 16 = .ok (.astore 6, 2) := by decide +kernel
theorem d_LW_look_18 : decode b_LW_look 18 = .ok (.iconst 1, 1) := by decide +kernel
theorem d_LW_look_19 : decode b_LW_look 19 = .ok (.ireturn, 1) := by decide +kernel
theorem d_LW_commit_0 : decode b_LW_commit 0 = .ok (.aload_n 2, 1) := by decide +kernel
theorem d_LW_commit_1 : decode b_LW_commit 1 = .ok (.iconst 0, 1) := by decide +kernel
theorem d_LW_commit_2 : decode b_LW_commit 2 = .ok (.aload_n 0, 1) := by decide +kernel
theorem d_LW_commit_3 : decode b_LW_commit 3 = .ok (.iload_n 1, 1) := by decide +kernel
theorem d_LW_commit_4 : decode b_LW_commit 4 = .ok (.invokevirtual 37, 3) := by decide +kernel
theorem d_LW_commit_12 : decode b_LW_commit 12 = .ok (.astore_n 3, 1) := by decide +kernel
theorem d_LW_commit_13 : decode b_LW_commit 13 = .ok (.iconst 1, 1) := by decide +kernel
theorem d_LW_commit_14 : decode b_LW_commit 14 = .ok (.ireturn, 1) := by decide +kernel
theorem d_LW_abort_0 : decode b_LW_abort 0 = .ok (.aload_n 0, 1) := by decide +kernel
theorem d_LW_abort_1 : decode b_LW_abort 1 = .ok (.iload_n 1, 1) := by decide +kernel
theorem d_LW_abort_2 : decode b_LW_abort 2 = .ok (.invokevirtual 41, 3) := by decide +kernel
theorem d_LW_abort_8 : decode b_LW_abort 8 = .ok (.astore_n 2, 1) := by decide +kernel
theorem d_LW_abort_9 : decode b_LW_abort 9 = .ok (.iconst 1, 1) := by decide +kernel
theorem d_LW_abort_10 : decode b_LW_abort 10 = .ok (.ireturn, 1) := by decide +kernel
theorem d_LW_advance_0 : decode b_LW_advance 0 = .ok (.aload_n 3, 1) := by decide +kernel
theorem d_LW_advance_1 : decode b_LW_advance 1 = .ok (.iconst 0, 1) := by decide +kernel
theorem d_LW_advance_2 : decode b_LW_advance 2 = .ok (.aload_n 0, 1) := by decide +kernel
theorem d_LW_advance_3 : decode b_LW_advance 3 = .ok (.iload_n 1, 1) := by decide +kernel
theorem d_LW_advance_4 : decode b_LW_advance 4 = .ok (.iload_n 2, 1) := by decide +kernel
theorem d_LW_advance_5 : decode b_LW_advance 5 = .ok (.invokevirtual 45, 3) := by decide +kernel
theorem d_LW_advance_13 : decode b_LW_advance 13 = .ok (.astore 4, 2) := by decide +kernel
theorem d_LW_advance_15 : decode b_LW_advance 15 = .ok (.iconst 1, 1) := by decide +kernel
theorem d_LW_advance_16 : decode b_LW_advance 16 = .ok (.ireturn, 1) := by decide +kernel
theorem d_LW_restart_0 : decode b_LW_restart 0 = .ok (.aload_n 0, 1) := by decide +kernel
theorem d_LW_restart_1 : decode b_LW_restart 1 = .ok (.iload_n 1, 1) := by decide +kernel
theorem d_LW_restart_2 : decode b_LW_restart 2 = .ok (.invokevirtual 48, 3) := by decide +kernel
theorem d_LW_restart_8 : decode b_LW_restart 8 = .ok (.astore_n 2, 1) := by decide +kernel
theorem d_LW_restart_9 : decode b_LW_restart 9 = .ok (.iconst 1, 1) := by decide +kernel
theorem d_LW_restart_10 : decode b_LW_restart 10 = .ok (.ireturn, 1) := by decide +kernel
theorem d_LW_state_0 : decode b_LW_state 0 = .ok (.aload_n 3, 1) := by decide +kernel
theorem d_LW_state_1 : decode b_LW_state 1 = .ok (.iconst 0, 1) := by decide +kernel
theorem d_LW_state_2 : decode b_LW_state 2 = .ok (.aload_n 0, 1) := by decide +kernel
theorem d_LW_state_3 : decode b_LW_state 3 = .ok (.iload_n 1, 1) := by decide +kernel
theorem d_LW_state_4 : decode b_LW_state 4 = .ok (.iload_n 2, 1) := by decide +kernel
theorem d_LW_state_5 : decode b_LW_state 5 = .ok (.invokevirtual 51, 3) := by decide +kernel
theorem d_LW_state_12 : decode b_LW_state 12 = .ok (.astore 4, 2) := by decide +kernel
theorem d_LW_state_14 : decode b_LW_state 14 = .ok (.iconst 1, 1) := by decide +kernel
theorem d_LW_state_15 : decode b_LW_state 15 = .ok (.ireturn, 1) := by decide +kernel
theorem d_LW_verdict_0 : decode b_LW_verdict 0 = .ok (.aload_n 3, 1) := by decide +kernel
theorem d_LW_verdict_1 : decode b_LW_verdict 1 = .ok (.iconst 0, 1) := by decide +kernel
theorem d_LW_verdict_2 : decode b_LW_verdict 2 = .ok (.aload_n 0, 1) := by decide +kernel
theorem d_LW_verdict_3 : decode b_LW_verdict 3 = .ok (.iload_n 1, 1) := by decide +kernel
theorem d_LW_verdict_4 : decode b_LW_verdict 4 = .ok (.iload_n 2, 1) := by decide +kernel
theorem d_LW_verdict_5 : decode b_LW_verdict 5 = .ok (.invokevirtual 57, 3) := by decide +kernel
theorem d_LW_verdict_13 : decode b_LW_verdict 13 = .ok (.astore 4, 2) := by decide +kernel
theorem d_LW_verdict_15 : decode b_LW_verdict 15 = .ok (.iconst 1, 1) := by decide +kernel
theorem d_LW_verdict_16 : decode b_LW_verdict 16 = .ok (.ireturn, 1) := by decide +kernel
theorem d_LW_intention_0 : decode b_LW_intention 0 = .ok (.aload_n 3, 1) := by decide +kernel
theorem d_LW_intention_1 : decode b_LW_intention 1 = .ok (.iconst 0, 1) := by decide +kernel
theorem d_LW_intention_2 : decode b_LW_intention 2 = .ok (.aload_n 0, 1) := by decide +kernel
theorem d_LW_intention_3 : decode b_LW_intention 3 = .ok (.iload_n 1, 1) := by decide +kernel
theorem d_LW_intention_4 : decode b_LW_intention 4 = .ok (.iload_n 2, 1) := by decide +kernel
theorem d_LW_intention_5 : decode b_LW_intention 5 = .ok (.invokevirtual 60, 3) := by decide +kernel
theorem d_LW_intention_13 : decode b_LW_intention 13 = .ok (.astore 4, 2) := by decide +kernel
theorem d_LW_intention_15 : decode b_LW_intention 15 = .ok (.iconst 1, 1) := by decide +kernel
theorem d_LW_intention_16 : decode b_LW_intention 16 = .ok (.ireturn, 1) := by decide +kernel
theorem d_LW_count_0 : decode b_LW_count 0 = .ok (.aload 4, 2) := by decide +kernel
theorem d_LW_count_2 : decode b_LW_count 2 = .ok (.iconst 0, 1) := by decide +kernel
theorem d_LW_count_3 : decode b_LW_count 3 = .ok (.aload_n 0, 1) := by decide +kernel
theorem d_LW_count_4 : decode b_LW_count 4 = .ok (.iload_n 1, 1) := by decide +kernel
theorem d_LW_count_5 : decode b_LW_count 5 = .ok (.iload_n 2, 1) := by decide +kernel
theorem d_LW_count_6 : decode b_LW_count 6 = .ok (.iload_n 3, 1) := by decide +kernel
theorem d_LW_count_7 : decode b_LW_count 7 = .ok (.invokevirtual 63, 3) := by decide +kernel
theorem d_LW_count_15 : decode b_LW_count 15 = .ok (.astore 5, 2) := by decide +kernel
theorem d_LW_count_17 : decode b_LW_count 17 = .ok (.iconst 1, 1) := by decide +kernel
theorem d_LW_count_18 : decode b_LW_count 18 = .ok (.ireturn, 1) := by decide +kernel
theorem d_LW_get_16 : decode b_LW_get 16 = .ok (.astore 4, 2) := by decide +kernel
theorem d_LW_get_18 : decode b_LW_get 18 = .ok (.iconst 2, 1) := by decide +kernel
theorem d_LW_get_19 : decode b_LW_get 19 = .ok (.ireturn, 1) := by decide +kernel
theorem d_LW_put_19 : decode b_LW_put 19 = .ok (.astore 6, 2) := by decide +kernel
theorem d_LW_put_21 : decode b_LW_put 21 = .ok (.iconst 2, 1) := by decide +kernel
theorem d_LW_put_22 : decode b_LW_put 22 = .ok (.ireturn, 1) := by decide +kernel
theorem d_LW_delete_17 : decode b_LW_delete 17 = .ok (.astore 4, 2) := by decide +kernel
theorem d_LW_delete_19 : decode b_LW_delete 19 = .ok (.iconst 2, 1) := by decide +kernel
theorem d_LW_delete_20 : decode b_LW_delete 20 = .ok (.ireturn, 1) := by decide +kernel
theorem d_LW_part_20 : decode b_LW_part 20 = .ok (.astore 6, 2) := by decide +kernel
theorem d_LW_part_22 : decode b_LW_part 22 = .ok (.iconst 2, 1) := by decide +kernel
theorem d_LW_part_23 : decode b_LW_part 23 = .ok (.ireturn, 1) := by decide +kernel
theorem d_LW_commit_15 : decode b_LW_commit 15 = .ok (.astore_n 3, 1) := by decide +kernel
theorem d_LW_commit_16 : decode b_LW_commit 16 = .ok (.iconst 2, 1) := by decide +kernel
theorem d_LW_commit_17 : decode b_LW_commit 17 = .ok (.ireturn, 1) := by decide +kernel
theorem d_LW_abort_11 : decode b_LW_abort 11 = .ok (.astore_n 2, 1) := by decide +kernel
theorem d_LW_abort_12 : decode b_LW_abort 12 = .ok (.iconst 2, 1) := by decide +kernel
theorem d_LW_abort_13 : decode b_LW_abort 13 = .ok (.ireturn, 1) := by decide +kernel
theorem d_LW_begin_14 : decode b_LW_begin 14 = .ok (.astore 4, 2) := by decide +kernel
theorem d_LW_begin_16 : decode b_LW_begin 16 = .ok (.iconst 2, 1) := by decide +kernel
theorem d_LW_begin_17 : decode b_LW_begin 17 = .ok (.ireturn, 1) := by decide +kernel
theorem d_LW_begin_7 : decode b_LW_begin 7 = .ok (.goto 11, 3) := by decide +kernel
theorem d_LW_begin_18 : decode b_LW_begin 18 = .ok (.iconst 0, 1) := by decide +kernel
theorem d_LW_begin_19 : decode b_LW_begin 19 = .ok (.ireturn, 1) := by decide +kernel
theorem d_LW_get_8 : decode b_LW_get 8 = .ok (.lastore, 1) := by decide +kernel
theorem d_LW_get_9 : decode b_LW_get 9 = .ok (.goto 15, 3) := by decide +kernel
theorem d_LW_get_24 : decode b_LW_get 24 = .ok (.iconst 0, 1) := by decide +kernel
theorem d_LW_get_25 : decode b_LW_get 25 = .ok (.ireturn, 1) := by decide +kernel
theorem d_LW_get_20 : decode b_LW_get 20 = .ok (.astore 4, 2) := by decide +kernel
theorem d_LW_get_22 : decode b_LW_get 22 = .ok (.iconst 3, 1) := by decide +kernel
theorem d_LW_get_23 : decode b_LW_get 23 = .ok (.ireturn, 1) := by decide +kernel
theorem d_LW_put_10 : decode b_LW_put 10 = .ok (.i2l, 1) := by decide +kernel
theorem d_LW_put_11 : decode b_LW_put 11 = .ok (.lastore, 1) := by decide +kernel
theorem d_LW_put_12 : decode b_LW_put 12 = .ok (.goto 15, 3) := by decide +kernel
theorem d_LW_put_27 : decode b_LW_put 27 = .ok (.iconst 0, 1) := by decide +kernel
theorem d_LW_put_28 : decode b_LW_put 28 = .ok (.ireturn, 1) := by decide +kernel
theorem d_LW_put_23 : decode b_LW_put 23 = .ok (.astore 6, 2) := by decide +kernel
theorem d_LW_put_25 : decode b_LW_put 25 = .ok (.iconst 3, 1) := by decide +kernel
theorem d_LW_put_26 : decode b_LW_put 26 = .ok (.ireturn, 1) := by decide +kernel
theorem d_LW_delete_8 : decode b_LW_delete 8 = .ok (.i2l, 1) := by decide +kernel
theorem d_LW_delete_9 : decode b_LW_delete 9 = .ok (.lastore, 1) := by decide +kernel
theorem d_LW_delete_10 : decode b_LW_delete 10 = .ok (.goto 15, 3) := by decide +kernel
theorem d_LW_delete_25 : decode b_LW_delete 25 = .ok (.iconst 0, 1) := by decide +kernel
theorem d_LW_delete_26 : decode b_LW_delete 26 = .ok (.ireturn, 1) := by decide +kernel
theorem d_LW_delete_21 : decode b_LW_delete 21 = .ok (.astore 4, 2) := by decide +kernel
theorem d_LW_delete_23 : decode b_LW_delete 23 = .ok (.iconst 3, 1) := by decide +kernel
theorem d_LW_delete_24 : decode b_LW_delete 24 = .ok (.ireturn, 1) := by decide +kernel
theorem d_LW_part_12 : decode b_LW_part 12 = .ok (.lastore, 1) := by decide +kernel
theorem d_LW_part_13 : decode b_LW_part 13 = .ok (.goto 15, 3) := by decide +kernel
theorem d_LW_part_28 : decode b_LW_part 28 = .ok (.iconst 0, 1) := by decide +kernel
theorem d_LW_part_29 : decode b_LW_part 29 = .ok (.ireturn, 1) := by decide +kernel
theorem d_LW_part_24 : decode b_LW_part 24 = .ok (.astore 6, 2) := by decide +kernel
theorem d_LW_part_26 : decode b_LW_part 26 = .ok (.iconst 3, 1) := by decide +kernel
theorem d_LW_part_27 : decode b_LW_part 27 = .ok (.ireturn, 1) := by decide +kernel
theorem d_LW_abort_5 : decode b_LW_abort 5 = .ok (.goto 9, 3) := by decide +kernel
theorem d_LW_abort_14 : decode b_LW_abort 14 = .ok (.iconst 0, 1) := by decide +kernel
theorem d_LW_abort_15 : decode b_LW_abort 15 = .ok (.ireturn, 1) := by decide +kernel
theorem d_LW_commit_7 : decode b_LW_commit 7 = .ok (.i2l, 1) := by decide +kernel
theorem d_LW_commit_8 : decode b_LW_commit 8 = .ok (.lastore, 1) := by decide +kernel
theorem d_LW_commit_9 : decode b_LW_commit 9 = .ok (.goto 12, 3) := by decide +kernel
theorem d_LW_commit_21 : decode b_LW_commit 21 = .ok (.iconst 0, 1) := by decide +kernel
theorem d_LW_commit_22 : decode b_LW_commit 22 = .ok (.ireturn, 1) := by decide +kernel
theorem d_LW_commit_18 : decode b_LW_commit 18 = .ok (.astore_n 3, 1) := by decide +kernel
theorem d_LW_commit_19 : decode b_LW_commit 19 = .ok (.iconst 3, 1) := by decide +kernel
theorem d_LW_commit_20 : decode b_LW_commit 20 = .ok (.ireturn, 1) := by decide +kernel
theorem d_LW_advance_8 : decode b_LW_advance 8 = .ok (.i2l, 1) := by decide +kernel
theorem d_LW_advance_9 : decode b_LW_advance 9 = .ok (.lastore, 1) := by decide +kernel
theorem d_LW_advance_10 : decode b_LW_advance 10 = .ok (.goto 7, 3) := by decide +kernel
theorem d_LW_advance_17 : decode b_LW_advance 17 = .ok (.iconst 0, 1) := by decide +kernel
theorem d_LW_advance_18 : decode b_LW_advance 18 = .ok (.ireturn, 1) := by decide +kernel
theorem d_LW_restart_5 : decode b_LW_restart 5 = .ok (.goto 9, 3) := by decide +kernel
theorem d_LW_restart_14 : decode b_LW_restart 14 = .ok (.iconst 0, 1) := by decide +kernel
theorem d_LW_restart_15 : decode b_LW_restart 15 = .ok (.ireturn, 1) := by decide +kernel
theorem d_LW_restart_11 : decode b_LW_restart 11 = .ok (.astore_n 2, 1) := by decide +kernel
theorem d_LW_restart_12 : decode b_LW_restart 12 = .ok (.iconst 2, 1) := by decide +kernel
theorem d_LW_restart_13 : decode b_LW_restart 13 = .ok (.ireturn, 1) := by decide +kernel
theorem d_LW_state_8 : decode b_LW_state 8 = .ok (.lastore, 1) := by decide +kernel
theorem d_LW_state_9 : decode b_LW_state 9 = .ok (.goto 11, 3) := by decide +kernel
theorem d_LW_state_20 : decode b_LW_state 20 = .ok (.iconst 0, 1) := by decide +kernel
theorem d_LW_state_21 : decode b_LW_state 21 = .ok (.ireturn, 1) := by decide +kernel
theorem d_LW_state_16 : decode b_LW_state 16 = .ok (.astore 4, 2) := by decide +kernel
theorem d_LW_state_18 : decode b_LW_state 18 = .ok (.iconst 2, 1) := by decide +kernel
theorem d_LW_state_19 : decode b_LW_state 19 = .ok (.ireturn, 1) := by decide +kernel
theorem d_LW_look_12 : decode b_LW_look 12 = .ok (.lastore, 1) := by decide +kernel
theorem d_LW_look_13 : decode b_LW_look 13 = .ok (.goto 7, 3) := by decide +kernel
theorem d_LW_look_20 : decode b_LW_look 20 = .ok (.iconst 0, 1) := by decide +kernel
theorem d_LW_look_21 : decode b_LW_look 21 = .ok (.ireturn, 1) := by decide +kernel
theorem d_LW_verdict_8 : decode b_LW_verdict 8 = .ok (.i2l, 1) := by decide +kernel
theorem d_LW_verdict_9 : decode b_LW_verdict 9 = .ok (.lastore, 1) := by decide +kernel
theorem d_LW_verdict_10 : decode b_LW_verdict 10 = .ok (.goto 11, 3) := by decide +kernel
theorem d_LW_verdict_21 : decode b_LW_verdict 21 = .ok (.iconst 0, 1) := by decide +kernel
theorem d_LW_verdict_22 : decode b_LW_verdict 22 = .ok (.ireturn, 1) := by decide +kernel
theorem d_LW_verdict_17 : decode b_LW_verdict 17 = .ok (.astore 4, 2) := by decide +kernel
theorem d_LW_verdict_19 : decode b_LW_verdict 19 = .ok (.iconst 2, 1) := by decide +kernel
theorem d_LW_verdict_20 : decode b_LW_verdict 20 = .ok (.ireturn, 1) := by decide +kernel
theorem d_LW_intention_8 : decode b_LW_intention 8 = .ok (.i2l, 1) := by decide +kernel
theorem d_LW_intention_9 : decode b_LW_intention 9 = .ok (.lastore, 1) := by decide +kernel
theorem d_LW_intention_10 : decode b_LW_intention 10 = .ok (.goto 11, 3) := by decide +kernel
theorem d_LW_intention_21 : decode b_LW_intention 21 = .ok (.iconst 0, 1) := by decide +kernel
theorem d_LW_intention_22 : decode b_LW_intention 22 = .ok (.ireturn, 1) := by decide +kernel
theorem d_LW_intention_17 : decode b_LW_intention 17 = .ok (.astore 4, 2) := by decide +kernel
theorem d_LW_intention_19 : decode b_LW_intention 19 = .ok (.iconst 2, 1) := by decide +kernel
theorem d_LW_intention_20 : decode b_LW_intention 20 = .ok (.ireturn, 1) := by decide +kernel
theorem d_LW_count_10 : decode b_LW_count 10 = .ok (.i2l, 1) := by decide +kernel
theorem d_LW_count_11 : decode b_LW_count 11 = .ok (.lastore, 1) := by decide +kernel
theorem d_LW_count_12 : decode b_LW_count 12 = .ok (.goto 7, 3) := by decide +kernel
theorem d_LW_count_19 : decode b_LW_count 19 = .ok (.iconst 0, 1) := by decide +kernel
theorem d_LW_count_20 : decode b_LW_count 20 = .ok (.ireturn, 1) := by decide +kernel
set_option maxHeartbeats 4000000 in
set_option maxRecDepth 100000 in
theorem c_LW_begin_1 {l : Launch} {b : Nat} {dC : Nat → ClassId} {dI : Nat → Nat → Nat} {dA : Nat → ClassId} {zs : Nat → Nat} {w : mh_w} (hl0 : l.stackTraces = false) {x0 : Nat} {g : st_G} (hR : rC dA zs w x0 g) (hG : sg_ok g) {o0 : Nat} {ov : Nat → Int64} (hov : w 90 0 = some (o0, .inl (dA 1, 1, .inr (.inl ov)))) {t u lv : Int32} (h : (st_in t 16 && (st_in u 4 && st_in lv 2)) = false) : mh_Met l b dC dI dA zs y_LW_begin (mh_rm 9 20 1000) [.ref x0, .int t, .int u, .int lv] w (mh_V (some (.int (nI 1))) (lW dA zs w x0 o0 true (1, 0, g))) := by
  have hR2 := hR
  obtain ⟨aL, aS, aD, aV, sv, dr, vw, lg, hP⟩ := hR
  have r0 := hP.1
  refine mh_ofW (cc := b_LW_begin) (n := 5) (ret := (some .int)) (hs := [(0, 7, 10, 13), (0, 7, 14, 15)]) (by decide) k136 ?_
  intro p e s m below meth c hx hb hr hml hown hts hlocks hnm hT hOK hadm
  have K0 : mh_K0 p s m ([.ref x0, .int t, .int u, .int lv]).toArray c "MeldHostLaw" b_LW_begin dC dI dA := ⟨hx, hb, hown, hts, hOK.1, hOK.2.1⟩
  have hX := hOK.2.2.2.2
  have hb0 := hOK.2.2.2.1
  have hS : va_S (mh_A b) s.heap s.heap [] := va_S.rf
  have hl := lv_entry ([.ref x0, .int t, .int u, .int lv]) (n := 5) (Nat.le_of_ble_eq_true rfl)
  rw [lg_entry_eq]
  generalize (lg_sl ([.ref x0, .int t, .int u, .int lv]) ++ List.replicate (5 - (lg_sl ([.ref x0, .int t, .int u, .int lv])).length) Slot.unset).toArray = ls at hl ⊢
  have hl : lv_has ls 5 [(0, .ref x0), (1, .int t), (2, .int u), (3, .int lv)] := hl
  refine lv_aload_n hx hb d_LW_begin_0 rfl (lv_at hl 0 rfl) ?_
  refine lv_iload_n hx hb d_LW_begin_1 rfl (lv_at hl 1 rfl) ?_
  refine lv_iload_n hx hb d_LW_begin_2 rfl (lv_at hl 2 rfl) ?_
  refine lv_iload_n hx hb d_LW_begin_3 rfl (lv_at hl 3 rfl) ?_
  refine mh_callT (mh_sV (rest := []) (av := [.int t, .int u, .int lv]) K0 hX r0 rfl e_MH_begin l_LW_7 k140 k141 rfl rfl d_LW_begin_4) (c_MH_begin_1 hl0 hR2 hG h) K0 hOK hml hl.1 e_MH_begin hX hS d_LW_begin_4 (Nat.le_of_ble_eq_true rfl) (Nat.le_of_ble_eq_true rfl) (Nat.le_of_ble_eq_true rfl) (Nat.le_of_ble_eq_true rfl) (Nat.le_of_ble_eq_true rfl) (fun q w1 H locs hq hw hX hS => ?_)
  obtain ⟨hC, hFC⟩ := hw
  refine mh_catch K0 hOK hX hq (E := "java/lang/IllegalArgumentException") rfl hT (pre := []) (x := (0, 7, 10, 13)) (suf := [(0, 7, 14, 15)]) rfl (fun _ h => absurd h List.not_mem_nil) (by decide) (by decide) (by decide) k137 ?_
  refine W.eq (g2 := F0 m 10 ls [.ref q]) rfl ?_
  refine lv_astore (lv' := [(4, .ref q), (0, .ref x0), (1, .int t), (2, .int u), (3, .int lv)]) hx hb d_LW_begin_10 hl (by decide) rfl (fun ls hl => ?_)
  refine lv_iconst (v := nI 1) hx hb d_LW_begin_12 (by decide) ?_
  exact mh_iret K0 hr rfl hlocks hX hS (⟨rfl, hC, ⟨ov, (hFC 90 0 (by omega) (by omega)).trans hov, fun _ h => by cases h⟩, fun k i h1 h2 => hFC k i (by omega) (by omega)⟩) (Nat.le_of_ble_eq_true rfl) (Nat.le_of_ble_eq_true rfl) d_LW_begin_13
set_option maxHeartbeats 4000000 in
set_option maxRecDepth 100000 in
theorem c_LW_get_1 {l : Launch} {b : Nat} {dC : Nat → ClassId} {dI : Nat → Nat → Nat} {dA : Nat → ClassId} {zs : Nat → Nat} {w : mh_w} (hl0 : l.stackTraces = false) {x0 : Nat} {g : st_G} (hR : rC dA zs w x0 g) (hG : sg_ok g) {o0 : Nat} {ov : Nat → Int64} (hov : w 90 0 = some (o0, .inl (dA 1, 1, .inr (.inl ov)))) {t key : Int32} (h : (st_in t 16 && st_in key 256) = false) : mh_Met l b dC dI dA zs y_LW_get (mh_rm 9 20 1000) [.ref x0, .int t, .int key, .ref o0] w (mh_V (some (.int (nI 1))) (lW dA zs w x0 o0 false (1, 0, g))) := by
  have hR2 := hR
  obtain ⟨aL, aS, aD, aV, sv, dr, vw, lg, hP⟩ := hR
  have r0 := hP.1
  refine mh_ofW (cc := b_LW_get) (n := 5) (ret := (some .int)) (hs := [(0, 9, 12, 13), (0, 9, 16, 15), (0, 9, 20, 21)]) (by decide) k295 ?_
  intro p e s m below meth c hx hb hr hml hown hts hlocks hnm hT hOK hadm
  have K0 : mh_K0 p s m ([.ref x0, .int t, .int key, .ref o0]).toArray c "MeldHostLaw" b_LW_get dC dI dA := ⟨hx, hb, hown, hts, hOK.1, hOK.2.1⟩
  have hX := hOK.2.2.2.2
  have hb0 := hOK.2.2.2.1
  have hS : va_S (mh_A b) s.heap s.heap [] := va_S.rf
  have hl := lv_entry ([.ref x0, .int t, .int key, .ref o0]) (n := 5) (Nat.le_of_ble_eq_true rfl)
  rw [lg_entry_eq]
  generalize (lg_sl ([.ref x0, .int t, .int key, .ref o0]) ++ List.replicate (5 - (lg_sl ([.ref x0, .int t, .int key, .ref o0])).length) Slot.unset).toArray = ls at hl ⊢
  have hl : lv_has ls 5 [(0, .ref x0), (1, .int t), (2, .int key), (3, .ref o0)] := hl
  refine lv_aload_n hx hb d_LW_get_0 rfl (lv_at hl 3 rfl) ?_
  refine lv_iconst (v := nI 0) hx hb d_LW_get_1 (by decide) ?_
  refine lv_aload_n hx hb d_LW_get_2 rfl (lv_at hl 0 rfl) ?_
  refine lv_iload_n hx hb d_LW_get_3 rfl (lv_at hl 1 rfl) ?_
  refine lv_iload_n hx hb d_LW_get_4 rfl (lv_at hl 2 rfl) ?_
  refine mh_callT (mh_sV (rest := [.int (nI 0), .ref o0]) (av := [.int t, .int key]) K0 hX r0 rfl e_MH_get l_LW_17 k298 k299 rfl rfl d_LW_get_5) (c_MH_get_1 hl0 hR2 hG h) K0 hOK hml hl.1 e_MH_get hX hS d_LW_get_5 (Nat.le_of_ble_eq_true rfl) (Nat.le_of_ble_eq_true rfl) (Nat.le_of_ble_eq_true rfl) (Nat.le_of_ble_eq_true rfl) (Nat.le_of_ble_eq_true rfl) (fun q w1 H locs hq hw hX hS => ?_)
  obtain ⟨hC, hFC⟩ := hw
  refine mh_catch K0 hOK hX hq (E := "java/lang/IllegalArgumentException") rfl hT (pre := []) (x := (0, 9, 12, 13)) (suf := [(0, 9, 16, 15), (0, 9, 20, 21)]) rfl (fun _ h => absurd h List.not_mem_nil) (by decide) (by decide) (by decide) k137 ?_
  refine W.eq (g2 := F0 m 12 ls [.ref q]) rfl ?_
  refine lv_astore (lv' := [(4, .ref q), (0, .ref x0), (1, .int t), (2, .int key), (3, .ref o0)]) hx hb d_LW_get_12 hl (by decide) rfl (fun ls hl => ?_)
  refine lv_iconst (v := nI 1) hx hb d_LW_get_14 (by decide) ?_
  exact mh_iret K0 hr rfl hlocks hX hS (⟨rfl, hC, ⟨ov, (hFC 90 0 (by omega) (by omega)).trans hov, fun _ h => by cases h⟩, fun k i h1 h2 => hFC k i (by omega) (by omega)⟩) (Nat.le_of_ble_eq_true rfl) (Nat.le_of_ble_eq_true rfl) d_LW_get_15
set_option maxHeartbeats 4000000 in
set_option maxRecDepth 100000 in
theorem c_LW_put_1 {l : Launch} {b : Nat} {dC : Nat → ClassId} {dI : Nat → Nat → Nat} {dA : Nat → ClassId} {zs : Nat → Nat} {w : mh_w} (hl0 : l.stackTraces = false) {x0 : Nat} {g : st_G} (hR : rC dA zs w x0 g) (hG : sg_ok g) {o0 : Nat} {ov : Nat → Int64} (hov : w 90 0 = some (o0, .inl (dA 1, 1, .inr (.inl ov)))) {t key : Int32} {v : Int64} (h : (st_in t 16 && st_in key 256) = false) : mh_Met l b dC dI dA zs y_LW_put (mh_rm 9 20 1000) [.ref x0, .int t, .int key, .long v, .ref o0] w (mh_V (some (.int (nI 1))) (lW dA zs w x0 o0 false (1, 0, g))) := by
  have hR2 := hR
  obtain ⟨aL, aS, aD, aV, sv, dr, vw, lg, hP⟩ := hR
  have r0 := hP.1
  refine mh_ofW (cc := b_LW_put) (n := 7) (ret := (some .int)) (hs := [(0, 12, 15, 13), (0, 12, 19, 15), (0, 12, 23, 27)]) (by decide) k347 ?_
  intro p e s m below meth c hx hb hr hml hown hts hlocks hnm hT hOK hadm
  have K0 : mh_K0 p s m ([.ref x0, .int t, .int key, .long v, .ref o0]).toArray c "MeldHostLaw" b_LW_put dC dI dA := ⟨hx, hb, hown, hts, hOK.1, hOK.2.1⟩
  have hX := hOK.2.2.2.2
  have hb0 := hOK.2.2.2.1
  have hS : va_S (mh_A b) s.heap s.heap [] := va_S.rf
  have hl := lv_entry ([.ref x0, .int t, .int key, .long v, .ref o0]) (n := 7) (Nat.le_of_ble_eq_true rfl)
  rw [lg_entry_eq]
  generalize (lg_sl ([.ref x0, .int t, .int key, .long v, .ref o0]) ++ List.replicate (7 - (lg_sl ([.ref x0, .int t, .int key, .long v, .ref o0])).length) Slot.unset).toArray = ls at hl ⊢
  have hl : lv_has ls 7 [(0, .ref x0), (1, .int t), (2, .int key), (3, .long v), (5, .ref o0)] := hl
  refine lv_aload hx hb d_LW_put_0 (lv_at hl 4 rfl) ?_
  refine lv_iconst (v := nI 0) hx hb d_LW_put_2 (by decide) ?_
  refine lv_aload_n hx hb d_LW_put_3 rfl (lv_at hl 0 rfl) ?_
  refine lv_iload_n hx hb d_LW_put_4 rfl (lv_at hl 1 rfl) ?_
  refine lv_iload_n hx hb d_LW_put_5 rfl (lv_at hl 2 rfl) ?_
  refine lv_lload_n hx hb d_LW_put_6 rfl (lv_at hl 3 rfl) ?_
  refine mh_callT (mh_sV (rest := [.int (nI 0), .ref o0]) (av := [.int t, .int key, .long v]) K0 hX r0 rfl e_MH_put l_LW_23 k350 k351 rfl rfl d_LW_put_7) (c_MH_put_1 hl0 hR2 hG h) K0 hOK hml hl.1 e_MH_put hX hS d_LW_put_7 (Nat.le_of_ble_eq_true rfl) (Nat.le_of_ble_eq_true rfl) (Nat.le_of_ble_eq_true rfl) (Nat.le_of_ble_eq_true rfl) (Nat.le_of_ble_eq_true rfl) (fun q w1 H locs hq hw hX hS => ?_)
  obtain ⟨hC, hFC⟩ := hw
  refine mh_catch K0 hOK hX hq (E := "java/lang/IllegalArgumentException") rfl hT (pre := []) (x := (0, 12, 15, 13)) (suf := [(0, 12, 19, 15), (0, 12, 23, 27)]) rfl (fun _ h => absurd h List.not_mem_nil) (by decide) (by decide) (by decide) k137 ?_
  refine W.eq (g2 := F0 m 15 ls [.ref q]) rfl ?_
  refine lv_astore (lv' := [(6, .ref q), (0, .ref x0), (1, .int t), (2, .int key), (3, .long v), (5, .ref o0)]) hx hb d_LW_put_15 hl (by decide) rfl (fun ls hl => ?_)
  refine lv_iconst (v := nI 1) hx hb d_LW_put_17 (by decide) ?_
  exact mh_iret K0 hr rfl hlocks hX hS (⟨rfl, hC, ⟨ov, (hFC 90 0 (by omega) (by omega)).trans hov, fun _ h => by cases h⟩, fun k i h1 h2 => hFC k i (by omega) (by omega)⟩) (Nat.le_of_ble_eq_true rfl) (Nat.le_of_ble_eq_true rfl) d_LW_put_18
set_option maxHeartbeats 4000000 in
set_option maxRecDepth 100000 in
theorem c_LW_delete_1 {l : Launch} {b : Nat} {dC : Nat → ClassId} {dI : Nat → Nat → Nat} {dA : Nat → ClassId} {zs : Nat → Nat} {w : mh_w} (hl0 : l.stackTraces = false) {x0 : Nat} {g : st_G} (hR : rC dA zs w x0 g) (hG : sg_ok g) {o0 : Nat} {ov : Nat → Int64} (hov : w 90 0 = some (o0, .inl (dA 1, 1, .inr (.inl ov)))) {t key : Int32} (h : (st_in t 16 && st_in key 256) = false) : mh_Met l b dC dI dA zs y_LW_delete (mh_rm 9 20 1000) [.ref x0, .int t, .int key, .ref o0] w (mh_V (some (.int (nI 1))) (lW dA zs w x0 o0 false (1, 0, g))) := by
  have hR2 := hR
  obtain ⟨aL, aS, aD, aV, sv, dr, vw, lg, hP⟩ := hR
  have r0 := hP.1
  refine mh_ofW (cc := b_LW_delete) (n := 5) (ret := (some .int)) (hs := [(0, 10, 13, 13), (0, 10, 17, 15), (0, 10, 21, 27)]) (by decide) k390 ?_
  intro p e s m below meth c hx hb hr hml hown hts hlocks hnm hT hOK hadm
  have K0 : mh_K0 p s m ([.ref x0, .int t, .int key, .ref o0]).toArray c "MeldHostLaw" b_LW_delete dC dI dA := ⟨hx, hb, hown, hts, hOK.1, hOK.2.1⟩
  have hX := hOK.2.2.2.2
  have hb0 := hOK.2.2.2.1
  have hS : va_S (mh_A b) s.heap s.heap [] := va_S.rf
  have hl := lv_entry ([.ref x0, .int t, .int key, .ref o0]) (n := 5) (Nat.le_of_ble_eq_true rfl)
  rw [lg_entry_eq]
  generalize (lg_sl ([.ref x0, .int t, .int key, .ref o0]) ++ List.replicate (5 - (lg_sl ([.ref x0, .int t, .int key, .ref o0])).length) Slot.unset).toArray = ls at hl ⊢
  have hl : lv_has ls 5 [(0, .ref x0), (1, .int t), (2, .int key), (3, .ref o0)] := hl
  refine lv_aload_n hx hb d_LW_delete_0 rfl (lv_at hl 3 rfl) ?_
  refine lv_iconst (v := nI 0) hx hb d_LW_delete_1 (by decide) ?_
  refine lv_aload_n hx hb d_LW_delete_2 rfl (lv_at hl 0 rfl) ?_
  refine lv_iload_n hx hb d_LW_delete_3 rfl (lv_at hl 1 rfl) ?_
  refine lv_iload_n hx hb d_LW_delete_4 rfl (lv_at hl 2 rfl) ?_
  refine mh_callT (mh_sV (rest := [.int (nI 0), .ref o0]) (av := [.int t, .int key]) K0 hX r0 rfl e_MH_delete l_LW_29 k392 k393 rfl rfl d_LW_delete_5) (c_MH_delete_1 hl0 hR2 hG h) K0 hOK hml hl.1 e_MH_delete hX hS d_LW_delete_5 (Nat.le_of_ble_eq_true rfl) (Nat.le_of_ble_eq_true rfl) (Nat.le_of_ble_eq_true rfl) (Nat.le_of_ble_eq_true rfl) (Nat.le_of_ble_eq_true rfl) (fun q w1 H locs hq hw hX hS => ?_)
  obtain ⟨hC, hFC⟩ := hw
  refine mh_catch K0 hOK hX hq (E := "java/lang/IllegalArgumentException") rfl hT (pre := []) (x := (0, 10, 13, 13)) (suf := [(0, 10, 17, 15), (0, 10, 21, 27)]) rfl (fun _ h => absurd h List.not_mem_nil) (by decide) (by decide) (by decide) k137 ?_
  refine W.eq (g2 := F0 m 13 ls [.ref q]) rfl ?_
  refine lv_astore (lv' := [(4, .ref q), (0, .ref x0), (1, .int t), (2, .int key), (3, .ref o0)]) hx hb d_LW_delete_13 hl (by decide) rfl (fun ls hl => ?_)
  refine lv_iconst (v := nI 1) hx hb d_LW_delete_15 (by decide) ?_
  exact mh_iret K0 hr rfl hlocks hX hS (⟨rfl, hC, ⟨ov, (hFC 90 0 (by omega) (by omega)).trans hov, fun _ h => by cases h⟩, fun k i h1 h2 => hFC k i (by omega) (by omega)⟩) (Nat.le_of_ble_eq_true rfl) (Nat.le_of_ble_eq_true rfl) d_LW_delete_16
set_option maxHeartbeats 4000000 in
set_option maxRecDepth 100000 in
theorem c_LW_part_1 {l : Launch} {b : Nat} {dC : Nat → ClassId} {dI : Nat → Nat → Nat} {dA : Nat → ClassId} {zs : Nat → Nat} {w : mh_w} (hl0 : l.stackTraces = false) {x0 : Nat} {g : st_G} (hR : rC dA zs w x0 g) (hG : sg_ok g) {o0 : Nat} {ov : Nat → Int64} (hov : w 90 0 = some (o0, .inl (dA 1, 1, .inr (.inl ov)))) {t low high what : Int32} (h : (st_in t 16 && sp_pt low high what) = false) : mh_Met l b dC dI dA zs y_LW_part (mh_rm 9 20 1000) [.ref x0, .int t, .int low, .int high, .int what, .ref o0] w (mh_V (some (.int (nI 1))) (lW dA zs w x0 o0 false (1, 0, g))) := by
  have hR2 := hR
  obtain ⟨aL, aS, aD, aV, sv, dr, vw, lg, hP⟩ := hR
  have r0 := hP.1
  refine mh_ofW (cc := b_LW_part) (n := 7) (ret := (some .int)) (hs := [(0, 13, 16, 13), (0, 13, 20, 15), (0, 13, 24, 27)]) (by decide) k406 ?_
  intro p e s m below meth c hx hb hr hml hown hts hlocks hnm hT hOK hadm
  have K0 : mh_K0 p s m ([.ref x0, .int t, .int low, .int high, .int what, .ref o0]).toArray c "MeldHostLaw" b_LW_part dC dI dA := ⟨hx, hb, hown, hts, hOK.1, hOK.2.1⟩
  have hX := hOK.2.2.2.2
  have hb0 := hOK.2.2.2.1
  have hS : va_S (mh_A b) s.heap s.heap [] := va_S.rf
  have hl := lv_entry ([.ref x0, .int t, .int low, .int high, .int what, .ref o0]) (n := 7) (Nat.le_of_ble_eq_true rfl)
  rw [lg_entry_eq]
  generalize (lg_sl ([.ref x0, .int t, .int low, .int high, .int what, .ref o0]) ++ List.replicate (7 - (lg_sl ([.ref x0, .int t, .int low, .int high, .int what, .ref o0])).length) Slot.unset).toArray = ls at hl ⊢
  have hl : lv_has ls 7 [(0, .ref x0), (1, .int t), (2, .int low), (3, .int high), (4, .int what), (5, .ref o0)] := hl
  refine lv_aload hx hb d_LW_part_0 (lv_at hl 5 rfl) ?_
  refine lv_iconst (v := nI 0) hx hb d_LW_part_2 (by decide) ?_
  refine lv_aload_n hx hb d_LW_part_3 rfl (lv_at hl 0 rfl) ?_
  refine lv_iload_n hx hb d_LW_part_4 rfl (lv_at hl 1 rfl) ?_
  refine lv_iload_n hx hb d_LW_part_5 rfl (lv_at hl 2 rfl) ?_
  refine lv_iload_n hx hb d_LW_part_6 rfl (lv_at hl 3 rfl) ?_
  refine lv_iload hx hb d_LW_part_7 (lv_at hl 4 rfl) ?_
  refine mh_callT (mh_sV (rest := [.int (nI 0), .ref o0]) (av := [.int t, .int low, .int high, .int what]) K0 hX r0 rfl e_MH_part l_LW_33 k408 k409 rfl rfl d_LW_part_9) (c_MH_part_1 hl0 hR2 hG h) K0 hOK hml hl.1 e_MH_part hX hS d_LW_part_9 (Nat.le_of_ble_eq_true rfl) (Nat.le_of_ble_eq_true rfl) (Nat.le_of_ble_eq_true rfl) (Nat.le_of_ble_eq_true rfl) (Nat.le_of_ble_eq_true rfl) (fun q w1 H locs hq hw hX hS => ?_)
  obtain ⟨hC, hFC⟩ := hw
  refine mh_catch K0 hOK hX hq (E := "java/lang/IllegalArgumentException") rfl hT (pre := []) (x := (0, 13, 16, 13)) (suf := [(0, 13, 20, 15), (0, 13, 24, 27)]) rfl (fun _ h => absurd h List.not_mem_nil) (by decide) (by decide) (by decide) k137 ?_
  refine W.eq (g2 := F0 m 16 ls [.ref q]) rfl ?_
  refine lv_astore (lv' := [(6, .ref q), (0, .ref x0), (1, .int t), (2, .int low), (3, .int high), (4, .int what), (5, .ref o0)]) hx hb d_LW_part_16 hl (by decide) rfl (fun ls hl => ?_)
  refine lv_iconst (v := nI 1) hx hb d_LW_part_18 (by decide) ?_
  exact mh_iret K0 hr rfl hlocks hX hS (⟨rfl, hC, ⟨ov, (hFC 90 0 (by omega) (by omega)).trans hov, fun _ h => by cases h⟩, fun k i h1 h2 => hFC k i (by omega) (by omega)⟩) (Nat.le_of_ble_eq_true rfl) (Nat.le_of_ble_eq_true rfl) d_LW_part_19
set_option maxHeartbeats 4000000 in
set_option maxRecDepth 100000 in
theorem c_LW_look_1 {l : Launch} {b : Nat} {dC : Nat → ClassId} {dI : Nat → Nat → Nat} {dA : Nat → ClassId} {zs : Nat → Nat} {w : mh_w} (hl0 : l.stackTraces = false) {x0 : Nat} {g : st_G} (hR : rC dA zs w x0 g) (hG : sg_ok g) {o0 : Nat} {ov : Nat → Int64} (hov : w 90 0 = some (o0, .inl (dA 1, 1, .inr (.inl ov)))) {u low high what : Int32} (h : (st_in u 4 && sp_pt low high what) = false) : mh_Met l b dC dI dA zs y_LW_look (mh_rm 9 20 1000) [.ref x0, .int u, .int low, .int high, .int what, .ref o0] w (mh_V (some (.int (nI 1))) (lW dA zs w x0 o0 false (1, 0, g))) := by
  have hR2 := hR
  obtain ⟨aL, aS, aD, aV, sv, dr, vw, lg, hP⟩ := hR
  have r0 := hP.1
  refine mh_ofW (cc := b_LW_look) (n := 7) (ret := (some .int)) (hs := [(0, 13, 16, 13)]) (by decide) k595 ?_
  intro p e s m below meth c hx hb hr hml hown hts hlocks hnm hT hOK hadm
  have K0 : mh_K0 p s m ([.ref x0, .int u, .int low, .int high, .int what, .ref o0]).toArray c "MeldHostLaw" b_LW_look dC dI dA := ⟨hx, hb, hown, hts, hOK.1, hOK.2.1⟩
  have hX := hOK.2.2.2.2
  have hb0 := hOK.2.2.2.1
  have hS : va_S (mh_A b) s.heap s.heap [] := va_S.rf
  have hl := lv_entry ([.ref x0, .int u, .int low, .int high, .int what, .ref o0]) (n := 7) (Nat.le_of_ble_eq_true rfl)
  rw [lg_entry_eq]
  generalize (lg_sl ([.ref x0, .int u, .int low, .int high, .int what, .ref o0]) ++ List.replicate (7 - (lg_sl ([.ref x0, .int u, .int low, .int high, .int what, .ref o0])).length) Slot.unset).toArray = ls at hl ⊢
  have hl : lv_has ls 7 [(0, .ref x0), (1, .int u), (2, .int low), (3, .int high), (4, .int what), (5, .ref o0)] := hl
  refine lv_aload hx hb d_LW_look_0 (lv_at hl 5 rfl) ?_
  refine lv_iconst (v := nI 0) hx hb d_LW_look_2 (by decide) ?_
  refine lv_aload_n hx hb d_LW_look_3 rfl (lv_at hl 0 rfl) ?_
  refine lv_iload_n hx hb d_LW_look_4 rfl (lv_at hl 1 rfl) ?_
  refine lv_iload_n hx hb d_LW_look_5 rfl (lv_at hl 2 rfl) ?_
  refine lv_iload_n hx hb d_LW_look_6 rfl (lv_at hl 3 rfl) ?_
  refine lv_iload hx hb d_LW_look_7 (lv_at hl 4 rfl) ?_
  refine mh_callT (mh_sV (rest := [.int (nI 0), .ref o0]) (av := [.int u, .int low, .int high, .int what]) K0 hX r0 rfl e_MH_look l_LW_54 k597 k598 rfl rfl d_LW_look_9) (c_MH_look_1 hl0 hR2 hG h) K0 hOK hml hl.1 e_MH_look hX hS d_LW_look_9 (Nat.le_of_ble_eq_true rfl) (Nat.le_of_ble_eq_true rfl) (Nat.le_of_ble_eq_true rfl) (Nat.le_of_ble_eq_true rfl) (Nat.le_of_ble_eq_true rfl) (fun q w1 H locs hq hw hX hS => ?_)
  obtain ⟨hC, hFC⟩ := hw
  refine mh_catch K0 hOK hX hq (E := "java/lang/IllegalArgumentException") rfl hT (pre := []) (x := (0, 13, 16, 13)) (suf := []) rfl (fun _ h => absurd h List.not_mem_nil) (by decide) (by decide) (by decide) k137 ?_
  refine W.eq (g2 := F0 m 16 ls [.ref q]) rfl ?_
  refine lv_astore (lv' := [(6, .ref q), (0, .ref x0), (1, .int u), (2, .int low), (3, .int high), (4, .int what), (5, .ref o0)]) hx hb d_LW_look_16 hl (by decide) rfl (fun ls hl => ?_)
  refine lv_iconst (v := nI 1) hx hb d_LW_look_18 (by decide) ?_
  exact mh_iret K0 hr rfl hlocks hX hS (⟨rfl, hC, ⟨ov, (hFC 90 0 (by omega) (by omega)).trans hov, fun _ h => by cases h⟩, fun k i h1 h2 => hFC k i (by omega) (by omega)⟩) (Nat.le_of_ble_eq_true rfl) (Nat.le_of_ble_eq_true rfl) d_LW_look_19
set_option maxHeartbeats 4000000 in
set_option maxRecDepth 100000 in
theorem c_LW_commit_1 {l : Launch} {b : Nat} {dC : Nat → ClassId} {dI : Nat → Nat → Nat} {dA : Nat → ClassId} {zs : Nat → Nat} {w : mh_w} (hl0 : l.stackTraces = false) {x0 : Nat} {g : st_G} (hR : rC dA zs w x0 g) (hG : sg_ok g) {o0 : Nat} {ov : Nat → Int64} (hov : w 90 0 = some (o0, .inl (dA 1, 1, .inr (.inl ov)))) {t : Int32} (h : st_in t 16 = false) : mh_Met l b dC dI dA zs y_LW_commit (mh_rm 9 20 1000) [.ref x0, .int t, .ref o0] w (mh_V (some (.int (nI 1))) (lW dA zs w x0 o0 false (1, 0, g))) := by
  have hR2 := hR
  obtain ⟨aL, aS, aD, aV, sv, dr, vw, lg, hP⟩ := hR
  have r0 := hP.1
  refine mh_ofW (cc := b_LW_commit) (n := 4) (ret := (some .int)) (hs := [(0, 9, 12, 13), (0, 9, 15, 15), (0, 9, 18, 27)]) (by decide) k442 ?_
  intro p e s m below meth c hx hb hr hml hown hts hlocks hnm hT hOK hadm
  have K0 : mh_K0 p s m ([.ref x0, .int t, .ref o0]).toArray c "MeldHostLaw" b_LW_commit dC dI dA := ⟨hx, hb, hown, hts, hOK.1, hOK.2.1⟩
  have hX := hOK.2.2.2.2
  have hb0 := hOK.2.2.2.1
  have hS : va_S (mh_A b) s.heap s.heap [] := va_S.rf
  have hl := lv_entry ([.ref x0, .int t, .ref o0]) (n := 4) (Nat.le_of_ble_eq_true rfl)
  rw [lg_entry_eq]
  generalize (lg_sl ([.ref x0, .int t, .ref o0]) ++ List.replicate (4 - (lg_sl ([.ref x0, .int t, .ref o0])).length) Slot.unset).toArray = ls at hl ⊢
  have hl : lv_has ls 4 [(0, .ref x0), (1, .int t), (2, .ref o0)] := hl
  refine lv_aload_n hx hb d_LW_commit_0 rfl (lv_at hl 2 rfl) ?_
  refine lv_iconst (v := nI 0) hx hb d_LW_commit_1 (by decide) ?_
  refine lv_aload_n hx hb d_LW_commit_2 rfl (lv_at hl 0 rfl) ?_
  refine lv_iload_n hx hb d_LW_commit_3 rfl (lv_at hl 1 rfl) ?_
  refine mh_callT (mh_sV (rest := [.int (nI 0), .ref o0]) (av := [.int t]) K0 hX r0 rfl e_MH_commit l_LW_37 k444 k445 rfl rfl d_LW_commit_4) (c_MH_commit_1 hl0 hR2 hG h) K0 hOK hml hl.1 e_MH_commit hX hS d_LW_commit_4 (Nat.le_of_ble_eq_true rfl) (Nat.le_of_ble_eq_true rfl) (Nat.le_of_ble_eq_true rfl) (Nat.le_of_ble_eq_true rfl) (Nat.le_of_ble_eq_true rfl) (fun q w1 H locs hq hw hX hS => ?_)
  obtain ⟨hC, hFC⟩ := hw
  refine mh_catch K0 hOK hX hq (E := "java/lang/IllegalArgumentException") rfl hT (pre := []) (x := (0, 9, 12, 13)) (suf := [(0, 9, 15, 15), (0, 9, 18, 27)]) rfl (fun _ h => absurd h List.not_mem_nil) (by decide) (by decide) (by decide) k137 ?_
  refine W.eq (g2 := F0 m 12 ls [.ref q]) rfl ?_
  refine lv_astore_n (lv' := [(3, .ref q), (0, .ref x0), (1, .int t), (2, .ref o0)]) hx hb d_LW_commit_12 rfl hl (by decide) rfl (fun ls hl => ?_)
  refine lv_iconst (v := nI 1) hx hb d_LW_commit_13 (by decide) ?_
  exact mh_iret K0 hr rfl hlocks hX hS (⟨rfl, hC, ⟨ov, (hFC 90 0 (by omega) (by omega)).trans hov, fun _ h => by cases h⟩, fun k i h1 h2 => hFC k i (by omega) (by omega)⟩) (Nat.le_of_ble_eq_true rfl) (Nat.le_of_ble_eq_true rfl) d_LW_commit_14
set_option maxHeartbeats 4000000 in
set_option maxRecDepth 100000 in
theorem c_LW_abort_1 {l : Launch} {b : Nat} {dC : Nat → ClassId} {dI : Nat → Nat → Nat} {dA : Nat → ClassId} {zs : Nat → Nat} {w : mh_w} (hl0 : l.stackTraces = false) {x0 : Nat} {g : st_G} (hR : rC dA zs w x0 g) (hG : sg_ok g) {o0 : Nat} {ov : Nat → Int64} (hov : w 90 0 = some (o0, .inl (dA 1, 1, .inr (.inl ov)))) {t : Int32} (h : st_in t 16 = false) : mh_Met l b dC dI dA zs y_LW_abort (mh_rm 9 20 1000) [.ref x0, .int t] w (mh_V (some (.int (nI 1))) (lW dA zs w x0 o0 true (1, 0, g))) := by
  have hR2 := hR
  obtain ⟨aL, aS, aD, aV, sv, dr, vw, lg, hP⟩ := hR
  have r0 := hP.1
  refine mh_ofW (cc := b_LW_abort) (n := 3) (ret := (some .int)) (hs := [(0, 5, 8, 13), (0, 5, 11, 15)]) (by decide) k536 ?_
  intro p e s m below meth c hx hb hr hml hown hts hlocks hnm hT hOK hadm
  have K0 : mh_K0 p s m ([.ref x0, .int t]).toArray c "MeldHostLaw" b_LW_abort dC dI dA := ⟨hx, hb, hown, hts, hOK.1, hOK.2.1⟩
  have hX := hOK.2.2.2.2
  have hb0 := hOK.2.2.2.1
  have hS : va_S (mh_A b) s.heap s.heap [] := va_S.rf
  have hl := lv_entry ([.ref x0, .int t]) (n := 3) (Nat.le_of_ble_eq_true rfl)
  rw [lg_entry_eq]
  generalize (lg_sl ([.ref x0, .int t]) ++ List.replicate (3 - (lg_sl ([.ref x0, .int t])).length) Slot.unset).toArray = ls at hl ⊢
  have hl : lv_has ls 3 [(0, .ref x0), (1, .int t)] := hl
  refine lv_aload_n hx hb d_LW_abort_0 rfl (lv_at hl 0 rfl) ?_
  refine lv_iload_n hx hb d_LW_abort_1 rfl (lv_at hl 1 rfl) ?_
  refine mh_callT (mh_sV (rest := []) (av := [.int t]) K0 hX r0 rfl e_MH_abort l_LW_41 k538 k539 rfl rfl d_LW_abort_2) (c_MH_abort_1 hl0 hR2 hG h) K0 hOK hml hl.1 e_MH_abort hX hS d_LW_abort_2 (Nat.le_of_ble_eq_true rfl) (Nat.le_of_ble_eq_true rfl) (Nat.le_of_ble_eq_true rfl) (Nat.le_of_ble_eq_true rfl) (Nat.le_of_ble_eq_true rfl) (fun q w1 H locs hq hw hX hS => ?_)
  obtain ⟨hC, hFC⟩ := hw
  refine mh_catch K0 hOK hX hq (E := "java/lang/IllegalArgumentException") rfl hT (pre := []) (x := (0, 5, 8, 13)) (suf := [(0, 5, 11, 15)]) rfl (fun _ h => absurd h List.not_mem_nil) (by decide) (by decide) (by decide) k137 ?_
  refine W.eq (g2 := F0 m 8 ls [.ref q]) rfl ?_
  refine lv_astore_n (lv' := [(2, .ref q), (0, .ref x0), (1, .int t)]) hx hb d_LW_abort_8 rfl hl (by decide) rfl (fun ls hl => ?_)
  refine lv_iconst (v := nI 1) hx hb d_LW_abort_9 (by decide) ?_
  exact mh_iret K0 hr rfl hlocks hX hS (⟨rfl, hC, ⟨ov, (hFC 90 0 (by omega) (by omega)).trans hov, fun _ h => by cases h⟩, fun k i h1 h2 => hFC k i (by omega) (by omega)⟩) (Nat.le_of_ble_eq_true rfl) (Nat.le_of_ble_eq_true rfl) d_LW_abort_10
set_option maxHeartbeats 4000000 in
set_option maxRecDepth 100000 in
theorem c_LW_advance_1 {l : Launch} {b : Nat} {dC : Nat → ClassId} {dI : Nat → Nat → Nat} {dA : Nat → ClassId} {zs : Nat → Nat} {w : mh_w} (hl0 : l.stackTraces = false) {x0 : Nat} {g : st_G} (hR : rC dA zs w x0 g) (hG : sg_ok g) {o0 : Nat} {ov : Nat → Int64} (hov : w 90 0 = some (o0, .inl (dA 1, 1, .inr (.inl ov)))) {u k : Int32} (h : (st_in u 4 && st_in k 401) = false) : mh_Met l b dC dI dA zs y_LW_advance (mh_rm 9 20 1000) [.ref x0, .int u, .int k, .ref o0] w (mh_V (some (.int (nI 1))) (lW dA zs w x0 o0 false (1, 0, g))) := by
  have hR2 := hR
  obtain ⟨aL, aS, aD, aV, sv, dr, vw, lg, hP⟩ := hR
  have r0 := hP.1
  refine mh_ofW (cc := b_LW_advance) (n := 5) (ret := (some .int)) (hs := [(0, 10, 13, 13)]) (by decide) k543 ?_
  intro p e s m below meth c hx hb hr hml hown hts hlocks hnm hT hOK hadm
  have K0 : mh_K0 p s m ([.ref x0, .int u, .int k, .ref o0]).toArray c "MeldHostLaw" b_LW_advance dC dI dA := ⟨hx, hb, hown, hts, hOK.1, hOK.2.1⟩
  have hX := hOK.2.2.2.2
  have hb0 := hOK.2.2.2.1
  have hS : va_S (mh_A b) s.heap s.heap [] := va_S.rf
  have hl := lv_entry ([.ref x0, .int u, .int k, .ref o0]) (n := 5) (Nat.le_of_ble_eq_true rfl)
  rw [lg_entry_eq]
  generalize (lg_sl ([.ref x0, .int u, .int k, .ref o0]) ++ List.replicate (5 - (lg_sl ([.ref x0, .int u, .int k, .ref o0])).length) Slot.unset).toArray = ls at hl ⊢
  have hl : lv_has ls 5 [(0, .ref x0), (1, .int u), (2, .int k), (3, .ref o0)] := hl
  refine lv_aload_n hx hb d_LW_advance_0 rfl (lv_at hl 3 rfl) ?_
  refine lv_iconst (v := nI 0) hx hb d_LW_advance_1 (by decide) ?_
  refine lv_aload_n hx hb d_LW_advance_2 rfl (lv_at hl 0 rfl) ?_
  refine lv_iload_n hx hb d_LW_advance_3 rfl (lv_at hl 1 rfl) ?_
  refine lv_iload_n hx hb d_LW_advance_4 rfl (lv_at hl 2 rfl) ?_
  refine mh_callT (mh_sV (rest := [.int (nI 0), .ref o0]) (av := [.int u, .int k]) K0 hX r0 rfl e_MH_advance l_LW_45 k545 k546 rfl rfl d_LW_advance_5) (c_MH_advance_1 hl0 hR2 hG h) K0 hOK hml hl.1 e_MH_advance hX hS d_LW_advance_5 (Nat.le_of_ble_eq_true rfl) (Nat.le_of_ble_eq_true rfl) (Nat.le_of_ble_eq_true rfl) (Nat.le_of_ble_eq_true rfl) (Nat.le_of_ble_eq_true rfl) (fun q w1 H locs hq hw hX hS => ?_)
  obtain ⟨hC, hFC⟩ := hw
  refine mh_catch K0 hOK hX hq (E := "java/lang/IllegalArgumentException") rfl hT (pre := []) (x := (0, 10, 13, 13)) (suf := []) rfl (fun _ h => absurd h List.not_mem_nil) (by decide) (by decide) (by decide) k137 ?_
  refine W.eq (g2 := F0 m 13 ls [.ref q]) rfl ?_
  refine lv_astore (lv' := [(4, .ref q), (0, .ref x0), (1, .int u), (2, .int k), (3, .ref o0)]) hx hb d_LW_advance_13 hl (by decide) rfl (fun ls hl => ?_)
  refine lv_iconst (v := nI 1) hx hb d_LW_advance_15 (by decide) ?_
  exact mh_iret K0 hr rfl hlocks hX hS (⟨rfl, hC, ⟨ov, (hFC 90 0 (by omega) (by omega)).trans hov, fun _ h => by cases h⟩, fun k i h1 h2 => hFC k i (by omega) (by omega)⟩) (Nat.le_of_ble_eq_true rfl) (Nat.le_of_ble_eq_true rfl) d_LW_advance_16
set_option maxHeartbeats 4000000 in
set_option maxRecDepth 100000 in
theorem c_LW_restart_1 {l : Launch} {b : Nat} {dC : Nat → ClassId} {dI : Nat → Nat → Nat} {dA : Nat → ClassId} {zs : Nat → Nat} {w : mh_w} (hl0 : l.stackTraces = false) {x0 : Nat} {g : st_G} (hR : rC dA zs w x0 g) (hG : sg_ok g) {o0 : Nat} {ov : Nat → Int64} (hov : w 90 0 = some (o0, .inl (dA 1, 1, .inr (.inl ov)))) {u : Int32} (h : st_in u 4 = false) : mh_Met l b dC dI dA zs y_LW_restart (mh_rm 9 20 1000) [.ref x0, .int u] w (mh_V (some (.int (nI 1))) (lW dA zs w x0 o0 true (1, 0, g))) := by
  have hR2 := hR
  obtain ⟨aL, aS, aD, aV, sv, dr, vw, lg, hP⟩ := hR
  have r0 := hP.1
  refine mh_ofW (cc := b_LW_restart) (n := 3) (ret := (some .int)) (hs := [(0, 5, 8, 13), (0, 5, 11, 15)]) (by decide) k565 ?_
  intro p e s m below meth c hx hb hr hml hown hts hlocks hnm hT hOK hadm
  have K0 : mh_K0 p s m ([.ref x0, .int u]).toArray c "MeldHostLaw" b_LW_restart dC dI dA := ⟨hx, hb, hown, hts, hOK.1, hOK.2.1⟩
  have hX := hOK.2.2.2.2
  have hb0 := hOK.2.2.2.1
  have hS : va_S (mh_A b) s.heap s.heap [] := va_S.rf
  have hl := lv_entry ([.ref x0, .int u]) (n := 3) (Nat.le_of_ble_eq_true rfl)
  rw [lg_entry_eq]
  generalize (lg_sl ([.ref x0, .int u]) ++ List.replicate (3 - (lg_sl ([.ref x0, .int u])).length) Slot.unset).toArray = ls at hl ⊢
  have hl : lv_has ls 3 [(0, .ref x0), (1, .int u)] := hl
  refine lv_aload_n hx hb d_LW_restart_0 rfl (lv_at hl 0 rfl) ?_
  refine lv_iload_n hx hb d_LW_restart_1 rfl (lv_at hl 1 rfl) ?_
  refine mh_callT (mh_sV (rest := []) (av := [.int u]) K0 hX r0 rfl e_MH_restart l_LW_48 k567 k568 rfl rfl d_LW_restart_2) (c_MH_restart_1 hl0 hR2 hG h) K0 hOK hml hl.1 e_MH_restart hX hS d_LW_restart_2 (Nat.le_of_ble_eq_true rfl) (Nat.le_of_ble_eq_true rfl) (Nat.le_of_ble_eq_true rfl) (Nat.le_of_ble_eq_true rfl) (Nat.le_of_ble_eq_true rfl) (fun q w1 H locs hq hw hX hS => ?_)
  obtain ⟨hC, hFC⟩ := hw
  refine mh_catch K0 hOK hX hq (E := "java/lang/IllegalArgumentException") rfl hT (pre := []) (x := (0, 5, 8, 13)) (suf := [(0, 5, 11, 15)]) rfl (fun _ h => absurd h List.not_mem_nil) (by decide) (by decide) (by decide) k137 ?_
  refine W.eq (g2 := F0 m 8 ls [.ref q]) rfl ?_
  refine lv_astore_n (lv' := [(2, .ref q), (0, .ref x0), (1, .int u)]) hx hb d_LW_restart_8 rfl hl (by decide) rfl (fun ls hl => ?_)
  refine lv_iconst (v := nI 1) hx hb d_LW_restart_9 (by decide) ?_
  exact mh_iret K0 hr rfl hlocks hX hS (⟨rfl, hC, ⟨ov, (hFC 90 0 (by omega) (by omega)).trans hov, fun _ h => by cases h⟩, fun k i h1 h2 => hFC k i (by omega) (by omega)⟩) (Nat.le_of_ble_eq_true rfl) (Nat.le_of_ble_eq_true rfl) d_LW_restart_10
set_option maxHeartbeats 4000000 in
set_option maxRecDepth 100000 in
theorem c_LW_state_1 {l : Launch} {b : Nat} {dC : Nat → ClassId} {dI : Nat → Nat → Nat} {dA : Nat → ClassId} {zs : Nat → Nat} {w : mh_w} (hl0 : l.stackTraces = false) {x0 : Nat} {g : st_G} (hR : rC dA zs w x0 g) (hG : sg_ok g) {o0 : Nat} {ov : Nat → Int64} (hov : w 90 0 = some (o0, .inl (dA 1, 1, .inr (.inl ov)))) {u key : Int32} (h : (st_in u 4 && st_in key 256) = false) : mh_Met l b dC dI dA zs y_LW_state (mh_rm 9 20 1000) [.ref x0, .int u, .int key, .ref o0] w (mh_V (some (.int (nI 1))) (lW dA zs w x0 o0 false (1, 0, g))) := by
  have hR2 := hR
  obtain ⟨aL, aS, aD, aV, sv, dr, vw, lg, hP⟩ := hR
  have r0 := hP.1
  refine mh_ofW (cc := b_LW_state) (n := 5) (ret := (some .int)) (hs := [(0, 9, 12, 13), (0, 9, 16, 21)]) (by decide) k588 ?_
  intro p e s m below meth c hx hb hr hml hown hts hlocks hnm hT hOK hadm
  have K0 : mh_K0 p s m ([.ref x0, .int u, .int key, .ref o0]).toArray c "MeldHostLaw" b_LW_state dC dI dA := ⟨hx, hb, hown, hts, hOK.1, hOK.2.1⟩
  have hX := hOK.2.2.2.2
  have hb0 := hOK.2.2.2.1
  have hS : va_S (mh_A b) s.heap s.heap [] := va_S.rf
  have hl := lv_entry ([.ref x0, .int u, .int key, .ref o0]) (n := 5) (Nat.le_of_ble_eq_true rfl)
  rw [lg_entry_eq]
  generalize (lg_sl ([.ref x0, .int u, .int key, .ref o0]) ++ List.replicate (5 - (lg_sl ([.ref x0, .int u, .int key, .ref o0])).length) Slot.unset).toArray = ls at hl ⊢
  have hl : lv_has ls 5 [(0, .ref x0), (1, .int u), (2, .int key), (3, .ref o0)] := hl
  refine lv_aload_n hx hb d_LW_state_0 rfl (lv_at hl 3 rfl) ?_
  refine lv_iconst (v := nI 0) hx hb d_LW_state_1 (by decide) ?_
  refine lv_aload_n hx hb d_LW_state_2 rfl (lv_at hl 0 rfl) ?_
  refine lv_iload_n hx hb d_LW_state_3 rfl (lv_at hl 1 rfl) ?_
  refine lv_iload_n hx hb d_LW_state_4 rfl (lv_at hl 2 rfl) ?_
  refine mh_callT (mh_sV (rest := [.int (nI 0), .ref o0]) (av := [.int u, .int key]) K0 hX r0 rfl e_MH_state l_LW_51 k590 k591 rfl rfl d_LW_state_5) (c_MH_state_1 hl0 hR2 hG h) K0 hOK hml hl.1 e_MH_state hX hS d_LW_state_5 (Nat.le_of_ble_eq_true rfl) (Nat.le_of_ble_eq_true rfl) (Nat.le_of_ble_eq_true rfl) (Nat.le_of_ble_eq_true rfl) (Nat.le_of_ble_eq_true rfl) (fun q w1 H locs hq hw hX hS => ?_)
  obtain ⟨hC, hFC⟩ := hw
  refine mh_catch K0 hOK hX hq (E := "java/lang/IllegalArgumentException") rfl hT (pre := []) (x := (0, 9, 12, 13)) (suf := [(0, 9, 16, 21)]) rfl (fun _ h => absurd h List.not_mem_nil) (by decide) (by decide) (by decide) k137 ?_
  refine W.eq (g2 := F0 m 12 ls [.ref q]) rfl ?_
  refine lv_astore (lv' := [(4, .ref q), (0, .ref x0), (1, .int u), (2, .int key), (3, .ref o0)]) hx hb d_LW_state_12 hl (by decide) rfl (fun ls hl => ?_)
  refine lv_iconst (v := nI 1) hx hb d_LW_state_14 (by decide) ?_
  exact mh_iret K0 hr rfl hlocks hX hS (⟨rfl, hC, ⟨ov, (hFC 90 0 (by omega) (by omega)).trans hov, fun _ h => by cases h⟩, fun k i h1 h2 => hFC k i (by omega) (by omega)⟩) (Nat.le_of_ble_eq_true rfl) (Nat.le_of_ble_eq_true rfl) d_LW_state_15
set_option maxHeartbeats 4000000 in
set_option maxRecDepth 100000 in
theorem c_LW_verdict_1 {l : Launch} {b : Nat} {dC : Nat → ClassId} {dI : Nat → Nat → Nat} {dA : Nat → ClassId} {zs : Nat → Nat} {w : mh_w} (hl0 : l.stackTraces = false) {x0 : Nat} {g : st_G} (hR : rC dA zs w x0 g) (hG : sg_ok g) {o0 : Nat} {ov : Nat → Int64} (hov : w 90 0 = some (o0, .inl (dA 1, 1, .inr (.inl ov)))) {u k : Int32} (h : st_in u 4 = false) : mh_Met l b dC dI dA zs y_LW_verdict (mh_rm 9 20 1000) [.ref x0, .int u, .int k, .ref o0] w (mh_V (some (.int (nI 1))) (lW dA zs w x0 o0 false (1, 0, g))) := by
  have hR2 := hR
  obtain ⟨aL, aS, aD, aV, sv, dr, vw, lg, hP⟩ := hR
  have r0 := hP.1
  refine mh_ofW (cc := b_LW_verdict) (n := 5) (ret := (some .int)) (hs := [(0, 10, 13, 13), (0, 10, 17, 27)]) (by decide) k602 ?_
  intro p e s m below meth c hx hb hr hml hown hts hlocks hnm hT hOK hadm
  have K0 : mh_K0 p s m ([.ref x0, .int u, .int k, .ref o0]).toArray c "MeldHostLaw" b_LW_verdict dC dI dA := ⟨hx, hb, hown, hts, hOK.1, hOK.2.1⟩
  have hX := hOK.2.2.2.2
  have hb0 := hOK.2.2.2.1
  have hS : va_S (mh_A b) s.heap s.heap [] := va_S.rf
  have hl := lv_entry ([.ref x0, .int u, .int k, .ref o0]) (n := 5) (Nat.le_of_ble_eq_true rfl)
  rw [lg_entry_eq]
  generalize (lg_sl ([.ref x0, .int u, .int k, .ref o0]) ++ List.replicate (5 - (lg_sl ([.ref x0, .int u, .int k, .ref o0])).length) Slot.unset).toArray = ls at hl ⊢
  have hl : lv_has ls 5 [(0, .ref x0), (1, .int u), (2, .int k), (3, .ref o0)] := hl
  refine lv_aload_n hx hb d_LW_verdict_0 rfl (lv_at hl 3 rfl) ?_
  refine lv_iconst (v := nI 0) hx hb d_LW_verdict_1 (by decide) ?_
  refine lv_aload_n hx hb d_LW_verdict_2 rfl (lv_at hl 0 rfl) ?_
  refine lv_iload_n hx hb d_LW_verdict_3 rfl (lv_at hl 1 rfl) ?_
  refine lv_iload_n hx hb d_LW_verdict_4 rfl (lv_at hl 2 rfl) ?_
  refine mh_callT (mh_sV (rest := [.int (nI 0), .ref o0]) (av := [.int u, .int k]) K0 hX r0 rfl e_MH_verdict l_LW_57 k604 k605 rfl rfl d_LW_verdict_5) (c_MH_verdict_1 hl0 hR2 hG h) K0 hOK hml hl.1 e_MH_verdict hX hS d_LW_verdict_5 (Nat.le_of_ble_eq_true rfl) (Nat.le_of_ble_eq_true rfl) (Nat.le_of_ble_eq_true rfl) (Nat.le_of_ble_eq_true rfl) (Nat.le_of_ble_eq_true rfl) (fun q w1 H locs hq hw hX hS => ?_)
  obtain ⟨hC, hFC⟩ := hw
  refine mh_catch K0 hOK hX hq (E := "java/lang/IllegalArgumentException") rfl hT (pre := []) (x := (0, 10, 13, 13)) (suf := [(0, 10, 17, 27)]) rfl (fun _ h => absurd h List.not_mem_nil) (by decide) (by decide) (by decide) k137 ?_
  refine W.eq (g2 := F0 m 13 ls [.ref q]) rfl ?_
  refine lv_astore (lv' := [(4, .ref q), (0, .ref x0), (1, .int u), (2, .int k), (3, .ref o0)]) hx hb d_LW_verdict_13 hl (by decide) rfl (fun ls hl => ?_)
  refine lv_iconst (v := nI 1) hx hb d_LW_verdict_15 (by decide) ?_
  exact mh_iret K0 hr rfl hlocks hX hS (⟨rfl, hC, ⟨ov, (hFC 90 0 (by omega) (by omega)).trans hov, fun _ h => by cases h⟩, fun k i h1 h2 => hFC k i (by omega) (by omega)⟩) (Nat.le_of_ble_eq_true rfl) (Nat.le_of_ble_eq_true rfl) d_LW_verdict_16
set_option maxHeartbeats 4000000 in
set_option maxRecDepth 100000 in
theorem c_LW_intention_1 {l : Launch} {b : Nat} {dC : Nat → ClassId} {dI : Nat → Nat → Nat} {dA : Nat → ClassId} {zs : Nat → Nat} {w : mh_w} (hl0 : l.stackTraces = false) {x0 : Nat} {g : st_G} (hR : rC dA zs w x0 g) (hG : sg_ok g) {o0 : Nat} {ov : Nat → Int64} (hov : w 90 0 = some (o0, .inl (dA 1, 1, .inr (.inl ov)))) {k what : Int32} (h : st_in what 6 = false) : mh_Met l b dC dI dA zs y_LW_intention (mh_rm 9 20 1000) [.ref x0, .int k, .int what, .ref o0] w (mh_V (some (.int (nI 1))) (lW dA zs w x0 o0 false (1, 0, g))) := by
  have hR2 := hR
  obtain ⟨aL, aS, aD, aV, sv, dr, vw, lg, hP⟩ := hR
  have r0 := hP.1
  refine mh_ofW (cc := b_LW_intention) (n := 5) (ret := (some .int)) (hs := [(0, 10, 13, 13), (0, 10, 17, 27)]) (by decide) k614 ?_
  intro p e s m below meth c hx hb hr hml hown hts hlocks hnm hT hOK hadm
  have K0 : mh_K0 p s m ([.ref x0, .int k, .int what, .ref o0]).toArray c "MeldHostLaw" b_LW_intention dC dI dA := ⟨hx, hb, hown, hts, hOK.1, hOK.2.1⟩
  have hX := hOK.2.2.2.2
  have hb0 := hOK.2.2.2.1
  have hS : va_S (mh_A b) s.heap s.heap [] := va_S.rf
  have hl := lv_entry ([.ref x0, .int k, .int what, .ref o0]) (n := 5) (Nat.le_of_ble_eq_true rfl)
  rw [lg_entry_eq]
  generalize (lg_sl ([.ref x0, .int k, .int what, .ref o0]) ++ List.replicate (5 - (lg_sl ([.ref x0, .int k, .int what, .ref o0])).length) Slot.unset).toArray = ls at hl ⊢
  have hl : lv_has ls 5 [(0, .ref x0), (1, .int k), (2, .int what), (3, .ref o0)] := hl
  refine lv_aload_n hx hb d_LW_intention_0 rfl (lv_at hl 3 rfl) ?_
  refine lv_iconst (v := nI 0) hx hb d_LW_intention_1 (by decide) ?_
  refine lv_aload_n hx hb d_LW_intention_2 rfl (lv_at hl 0 rfl) ?_
  refine lv_iload_n hx hb d_LW_intention_3 rfl (lv_at hl 1 rfl) ?_
  refine lv_iload_n hx hb d_LW_intention_4 rfl (lv_at hl 2 rfl) ?_
  refine mh_callT (mh_sV (rest := [.int (nI 0), .ref o0]) (av := [.int k, .int what]) K0 hX r0 rfl e_MH_intention l_LW_60 k616 k617 rfl rfl d_LW_intention_5) (c_MH_intention_1 hl0 hR2 hG h) K0 hOK hml hl.1 e_MH_intention hX hS d_LW_intention_5 (Nat.le_of_ble_eq_true rfl) (Nat.le_of_ble_eq_true rfl) (Nat.le_of_ble_eq_true rfl) (Nat.le_of_ble_eq_true rfl) (Nat.le_of_ble_eq_true rfl) (fun q w1 H locs hq hw hX hS => ?_)
  obtain ⟨hC, hFC⟩ := hw
  refine mh_catch K0 hOK hX hq (E := "java/lang/IllegalArgumentException") rfl hT (pre := []) (x := (0, 10, 13, 13)) (suf := [(0, 10, 17, 27)]) rfl (fun _ h => absurd h List.not_mem_nil) (by decide) (by decide) (by decide) k137 ?_
  refine W.eq (g2 := F0 m 13 ls [.ref q]) rfl ?_
  refine lv_astore (lv' := [(4, .ref q), (0, .ref x0), (1, .int k), (2, .int what), (3, .ref o0)]) hx hb d_LW_intention_13 hl (by decide) rfl (fun ls hl => ?_)
  refine lv_iconst (v := nI 1) hx hb d_LW_intention_15 (by decide) ?_
  exact mh_iret K0 hr rfl hlocks hX hS (⟨rfl, hC, ⟨ov, (hFC 90 0 (by omega) (by omega)).trans hov, fun _ h => by cases h⟩, fun k i h1 h2 => hFC k i (by omega) (by omega)⟩) (Nat.le_of_ble_eq_true rfl) (Nat.le_of_ble_eq_true rfl) d_LW_intention_16
set_option maxHeartbeats 4000000 in
set_option maxRecDepth 100000 in
theorem c_LW_count_1 {l : Launch} {b : Nat} {dC : Nat → ClassId} {dI : Nat → Nat → Nat} {dA : Nat → ClassId} {zs : Nat → Nat} {w : mh_w} (hl0 : l.stackTraces = false) {x0 : Nat} {g : st_G} (hR : rC dA zs w x0 g) (hG : sg_ok g) {o0 : Nat} {ov : Nat → Int64} (hov : w 90 0 = some (o0, .inl (dA 1, 1, .inr (.inl ov)))) {what k j : Int32} (h : st_in what 5 = false) : mh_Met l b dC dI dA zs y_LW_count (mh_rm 9 20 1000) [.ref x0, .int what, .int k, .int j, .ref o0] w (mh_V (some (.int (nI 1))) (lW dA zs w x0 o0 false (1, 0, g))) := by
  have hR2 := hR
  obtain ⟨aL, aS, aD, aV, sv, dr, vw, lg, hP⟩ := hR
  have r0 := hP.1
  refine mh_ofW (cc := b_LW_count) (n := 6) (ret := (some .int)) (hs := [(0, 12, 15, 13)]) (by decide) k635 ?_
  intro p e s m below meth c hx hb hr hml hown hts hlocks hnm hT hOK hadm
  have K0 : mh_K0 p s m ([.ref x0, .int what, .int k, .int j, .ref o0]).toArray c "MeldHostLaw" b_LW_count dC dI dA := ⟨hx, hb, hown, hts, hOK.1, hOK.2.1⟩
  have hX := hOK.2.2.2.2
  have hb0 := hOK.2.2.2.1
  have hS : va_S (mh_A b) s.heap s.heap [] := va_S.rf
  have hl := lv_entry ([.ref x0, .int what, .int k, .int j, .ref o0]) (n := 6) (Nat.le_of_ble_eq_true rfl)
  rw [lg_entry_eq]
  generalize (lg_sl ([.ref x0, .int what, .int k, .int j, .ref o0]) ++ List.replicate (6 - (lg_sl ([.ref x0, .int what, .int k, .int j, .ref o0])).length) Slot.unset).toArray = ls at hl ⊢
  have hl : lv_has ls 6 [(0, .ref x0), (1, .int what), (2, .int k), (3, .int j), (4, .ref o0)] := hl
  refine lv_aload hx hb d_LW_count_0 (lv_at hl 4 rfl) ?_
  refine lv_iconst (v := nI 0) hx hb d_LW_count_2 (by decide) ?_
  refine lv_aload_n hx hb d_LW_count_3 rfl (lv_at hl 0 rfl) ?_
  refine lv_iload_n hx hb d_LW_count_4 rfl (lv_at hl 1 rfl) ?_
  refine lv_iload_n hx hb d_LW_count_5 rfl (lv_at hl 2 rfl) ?_
  refine lv_iload_n hx hb d_LW_count_6 rfl (lv_at hl 3 rfl) ?_
  refine mh_callT (mh_sV (rest := [.int (nI 0), .ref o0]) (av := [.int what, .int k, .int j]) K0 hX r0 rfl e_MH_count l_LW_63 k637 k638 rfl rfl d_LW_count_7) (c_MH_count_1 hl0 hR2 hG h) K0 hOK hml hl.1 e_MH_count hX hS d_LW_count_7 (Nat.le_of_ble_eq_true rfl) (Nat.le_of_ble_eq_true rfl) (Nat.le_of_ble_eq_true rfl) (Nat.le_of_ble_eq_true rfl) (Nat.le_of_ble_eq_true rfl) (fun q w1 H locs hq hw hX hS => ?_)
  obtain ⟨hC, hFC⟩ := hw
  refine mh_catch K0 hOK hX hq (E := "java/lang/IllegalArgumentException") rfl hT (pre := []) (x := (0, 12, 15, 13)) (suf := []) rfl (fun _ h => absurd h List.not_mem_nil) (by decide) (by decide) (by decide) k137 ?_
  refine W.eq (g2 := F0 m 15 ls [.ref q]) rfl ?_
  refine lv_astore (lv' := [(5, .ref q), (0, .ref x0), (1, .int what), (2, .int k), (3, .int j), (4, .ref o0)]) hx hb d_LW_count_15 hl (by decide) rfl (fun ls hl => ?_)
  refine lv_iconst (v := nI 1) hx hb d_LW_count_17 (by decide) ?_
  exact mh_iret K0 hr rfl hlocks hX hS (⟨rfl, hC, ⟨ov, (hFC 90 0 (by omega) (by omega)).trans hov, fun _ h => by cases h⟩, fun k i h1 h2 => hFC k i (by omega) (by omega)⟩) (Nat.le_of_ble_eq_true rfl) (Nat.le_of_ble_eq_true rfl) d_LW_count_18
set_option maxHeartbeats 4000000 in
set_option maxRecDepth 100000 in
theorem c_LW_get_2 {l : Launch} {b : Nat} {dC : Nat → ClassId} {dI : Nat → Nat → Nat} {dA : Nat → ClassId} {zs : Nat → Nat} {w : mh_w} (hl0 : l.stackTraces = false) {x0 : Nat} {g : st_G} (hR : rC dA zs w x0 g) (hG : sg_ok g) {o0 : Nat} {ov : Nat → Int64} (hov : w 90 0 = some (o0, .inl (dA 1, 1, .inr (.inl ov)))) {t : Nat} (ht : t < 16) {key : Nat} (hk : key < 256) (hd : sg_dr g t = none) : mh_Met l b dC dI dA zs y_LW_get (mh_rm 9 20 1000) [.ref x0, .int (nI t), .int (nI key), .ref o0] w (mh_V (some (.int (nI 2))) (lW dA zs w x0 o0 false (2, 0, g))) := by
  have hR2 := hR
  obtain ⟨aL, aS, aD, aV, sv, dr, vw, lg, hP⟩ := hR
  have r0 := hP.1
  refine mh_ofW (cc := b_LW_get) (n := 5) (ret := (some .int)) (hs := [(0, 9, 12, 13), (0, 9, 16, 15), (0, 9, 20, 21)]) (by decide) k295 ?_
  intro p e s m below meth c hx hb hr hml hown hts hlocks hnm hT hOK hadm
  have K0 : mh_K0 p s m ([.ref x0, .int (nI t), .int (nI key), .ref o0]).toArray c "MeldHostLaw" b_LW_get dC dI dA := ⟨hx, hb, hown, hts, hOK.1, hOK.2.1⟩
  have hX := hOK.2.2.2.2
  have hb0 := hOK.2.2.2.1
  have hS : va_S (mh_A b) s.heap s.heap [] := va_S.rf
  have hl := lv_entry ([.ref x0, .int (nI t), .int (nI key), .ref o0]) (n := 5) (Nat.le_of_ble_eq_true rfl)
  rw [lg_entry_eq]
  generalize (lg_sl ([.ref x0, .int (nI t), .int (nI key), .ref o0]) ++ List.replicate (5 - (lg_sl ([.ref x0, .int (nI t), .int (nI key), .ref o0])).length) Slot.unset).toArray = ls at hl ⊢
  have hl : lv_has ls 5 [(0, .ref x0), (1, .int (nI t)), (2, .int (nI key)), (3, .ref o0)] := hl
  refine lv_aload_n hx hb d_LW_get_0 rfl (lv_at hl 3 rfl) ?_
  refine lv_iconst (v := nI 0) hx hb d_LW_get_1 (by decide) ?_
  refine lv_aload_n hx hb d_LW_get_2 rfl (lv_at hl 0 rfl) ?_
  refine lv_iload_n hx hb d_LW_get_3 rfl (lv_at hl 1 rfl) ?_
  refine lv_iload_n hx hb d_LW_get_4 rfl (lv_at hl 2 rfl) ?_
  refine mh_callT (mh_sV (rest := [.int (nI 0), .ref o0]) (av := [.int (nI t), .int (nI key)]) K0 hX r0 rfl e_MH_get l_LW_17 k298 k299 rfl rfl d_LW_get_5) (c_MH_get_2 hl0 hR2 hG ht hk hd) K0 hOK hml hl.1 e_MH_get hX hS d_LW_get_5 (Nat.le_of_ble_eq_true rfl) (Nat.le_of_ble_eq_true rfl) (Nat.le_of_ble_eq_true rfl) (Nat.le_of_ble_eq_true rfl) (Nat.le_of_ble_eq_true rfl) (fun q w1 H locs hq hw hX hS => ?_)
  obtain ⟨hC, hFC⟩ := hw
  refine mh_catch K0 hOK hX hq (E := "java/lang/IllegalStateException") rfl hT (pre := [(0, 9, 12, 13)]) (x := (0, 9, 16, 15)) (suf := [(0, 9, 20, 21)]) rfl (List.forall_mem_cons.mpr ⟨⟨"java/lang/IllegalArgumentException", by decide, k137, by decide⟩, fun _ h => absurd h List.not_mem_nil⟩) (by decide) (by decide) (by decide) k138 ?_
  refine W.eq (g2 := F0 m 16 ls [.ref q]) rfl ?_
  refine lv_astore (lv' := [(4, .ref q), (0, .ref x0), (1, .int (nI t)), (2, .int (nI key)), (3, .ref o0)]) hx hb d_LW_get_16 hl (by decide) rfl (fun ls hl => ?_)
  refine lv_iconst (v := nI 2) hx hb d_LW_get_18 (by decide) ?_
  exact mh_iret K0 hr rfl hlocks hX hS (⟨rfl, hC, ⟨ov, (hFC 90 0 (by omega) (by omega)).trans hov, fun _ h => by cases h⟩, fun k i h1 h2 => hFC k i (by omega) (by omega)⟩) (Nat.le_of_ble_eq_true rfl) (Nat.le_of_ble_eq_true rfl) d_LW_get_19
set_option maxHeartbeats 4000000 in
set_option maxRecDepth 100000 in
theorem c_LW_put_2 {l : Launch} {b : Nat} {dC : Nat → ClassId} {dI : Nat → Nat → Nat} {dA : Nat → ClassId} {zs : Nat → Nat} {w : mh_w} (hl0 : l.stackTraces = false) {x0 : Nat} {g : st_G} (hR : rC dA zs w x0 g) (hG : sg_ok g) {o0 : Nat} {ov : Nat → Int64} (hov : w 90 0 = some (o0, .inl (dA 1, 1, .inr (.inl ov)))) {t : Nat} (ht : t < 16) {key : Nat} (hk : key < 256) {v : Int64} (hd : sg_dr g t = none) : mh_Met l b dC dI dA zs y_LW_put (mh_rm 9 20 1000) [.ref x0, .int (nI t), .int (nI key), .long v, .ref o0] w (mh_V (some (.int (nI 2))) (lW dA zs w x0 o0 false (2, 0, g))) := by
  have hR2 := hR
  obtain ⟨aL, aS, aD, aV, sv, dr, vw, lg, hP⟩ := hR
  have r0 := hP.1
  refine mh_ofW (cc := b_LW_put) (n := 7) (ret := (some .int)) (hs := [(0, 12, 15, 13), (0, 12, 19, 15), (0, 12, 23, 27)]) (by decide) k347 ?_
  intro p e s m below meth c hx hb hr hml hown hts hlocks hnm hT hOK hadm
  have K0 : mh_K0 p s m ([.ref x0, .int (nI t), .int (nI key), .long v, .ref o0]).toArray c "MeldHostLaw" b_LW_put dC dI dA := ⟨hx, hb, hown, hts, hOK.1, hOK.2.1⟩
  have hX := hOK.2.2.2.2
  have hb0 := hOK.2.2.2.1
  have hS : va_S (mh_A b) s.heap s.heap [] := va_S.rf
  have hl := lv_entry ([.ref x0, .int (nI t), .int (nI key), .long v, .ref o0]) (n := 7) (Nat.le_of_ble_eq_true rfl)
  rw [lg_entry_eq]
  generalize (lg_sl ([.ref x0, .int (nI t), .int (nI key), .long v, .ref o0]) ++ List.replicate (7 - (lg_sl ([.ref x0, .int (nI t), .int (nI key), .long v, .ref o0])).length) Slot.unset).toArray = ls at hl ⊢
  have hl : lv_has ls 7 [(0, .ref x0), (1, .int (nI t)), (2, .int (nI key)), (3, .long v), (5, .ref o0)] := hl
  refine lv_aload hx hb d_LW_put_0 (lv_at hl 4 rfl) ?_
  refine lv_iconst (v := nI 0) hx hb d_LW_put_2 (by decide) ?_
  refine lv_aload_n hx hb d_LW_put_3 rfl (lv_at hl 0 rfl) ?_
  refine lv_iload_n hx hb d_LW_put_4 rfl (lv_at hl 1 rfl) ?_
  refine lv_iload_n hx hb d_LW_put_5 rfl (lv_at hl 2 rfl) ?_
  refine lv_lload_n hx hb d_LW_put_6 rfl (lv_at hl 3 rfl) ?_
  refine mh_callT (mh_sV (rest := [.int (nI 0), .ref o0]) (av := [.int (nI t), .int (nI key), .long v]) K0 hX r0 rfl e_MH_put l_LW_23 k350 k351 rfl rfl d_LW_put_7) (c_MH_put_2 hl0 hR2 hG ht hk hd) K0 hOK hml hl.1 e_MH_put hX hS d_LW_put_7 (Nat.le_of_ble_eq_true rfl) (Nat.le_of_ble_eq_true rfl) (Nat.le_of_ble_eq_true rfl) (Nat.le_of_ble_eq_true rfl) (Nat.le_of_ble_eq_true rfl) (fun q w1 H locs hq hw hX hS => ?_)
  obtain ⟨hC, hFC⟩ := hw
  refine mh_catch K0 hOK hX hq (E := "java/lang/IllegalStateException") rfl hT (pre := [(0, 12, 15, 13)]) (x := (0, 12, 19, 15)) (suf := [(0, 12, 23, 27)]) rfl (List.forall_mem_cons.mpr ⟨⟨"java/lang/IllegalArgumentException", by decide, k137, by decide⟩, fun _ h => absurd h List.not_mem_nil⟩) (by decide) (by decide) (by decide) k138 ?_
  refine W.eq (g2 := F0 m 19 ls [.ref q]) rfl ?_
  refine lv_astore (lv' := [(6, .ref q), (0, .ref x0), (1, .int (nI t)), (2, .int (nI key)), (3, .long v), (5, .ref o0)]) hx hb d_LW_put_19 hl (by decide) rfl (fun ls hl => ?_)
  refine lv_iconst (v := nI 2) hx hb d_LW_put_21 (by decide) ?_
  exact mh_iret K0 hr rfl hlocks hX hS (⟨rfl, hC, ⟨ov, (hFC 90 0 (by omega) (by omega)).trans hov, fun _ h => by cases h⟩, fun k i h1 h2 => hFC k i (by omega) (by omega)⟩) (Nat.le_of_ble_eq_true rfl) (Nat.le_of_ble_eq_true rfl) d_LW_put_22
set_option maxHeartbeats 4000000 in
set_option maxRecDepth 100000 in
theorem c_LW_delete_2 {l : Launch} {b : Nat} {dC : Nat → ClassId} {dI : Nat → Nat → Nat} {dA : Nat → ClassId} {zs : Nat → Nat} {w : mh_w} (hl0 : l.stackTraces = false) {x0 : Nat} {g : st_G} (hR : rC dA zs w x0 g) (hG : sg_ok g) {o0 : Nat} {ov : Nat → Int64} (hov : w 90 0 = some (o0, .inl (dA 1, 1, .inr (.inl ov)))) {t : Nat} (ht : t < 16) {key : Nat} (hk : key < 256) (hd : sg_dr g t = none) : mh_Met l b dC dI dA zs y_LW_delete (mh_rm 9 20 1000) [.ref x0, .int (nI t), .int (nI key), .ref o0] w (mh_V (some (.int (nI 2))) (lW dA zs w x0 o0 false (2, 0, g))) := by
  have hR2 := hR
  obtain ⟨aL, aS, aD, aV, sv, dr, vw, lg, hP⟩ := hR
  have r0 := hP.1
  refine mh_ofW (cc := b_LW_delete) (n := 5) (ret := (some .int)) (hs := [(0, 10, 13, 13), (0, 10, 17, 15), (0, 10, 21, 27)]) (by decide) k390 ?_
  intro p e s m below meth c hx hb hr hml hown hts hlocks hnm hT hOK hadm
  have K0 : mh_K0 p s m ([.ref x0, .int (nI t), .int (nI key), .ref o0]).toArray c "MeldHostLaw" b_LW_delete dC dI dA := ⟨hx, hb, hown, hts, hOK.1, hOK.2.1⟩
  have hX := hOK.2.2.2.2
  have hb0 := hOK.2.2.2.1
  have hS : va_S (mh_A b) s.heap s.heap [] := va_S.rf
  have hl := lv_entry ([.ref x0, .int (nI t), .int (nI key), .ref o0]) (n := 5) (Nat.le_of_ble_eq_true rfl)
  rw [lg_entry_eq]
  generalize (lg_sl ([.ref x0, .int (nI t), .int (nI key), .ref o0]) ++ List.replicate (5 - (lg_sl ([.ref x0, .int (nI t), .int (nI key), .ref o0])).length) Slot.unset).toArray = ls at hl ⊢
  have hl : lv_has ls 5 [(0, .ref x0), (1, .int (nI t)), (2, .int (nI key)), (3, .ref o0)] := hl
  refine lv_aload_n hx hb d_LW_delete_0 rfl (lv_at hl 3 rfl) ?_
  refine lv_iconst (v := nI 0) hx hb d_LW_delete_1 (by decide) ?_
  refine lv_aload_n hx hb d_LW_delete_2 rfl (lv_at hl 0 rfl) ?_
  refine lv_iload_n hx hb d_LW_delete_3 rfl (lv_at hl 1 rfl) ?_
  refine lv_iload_n hx hb d_LW_delete_4 rfl (lv_at hl 2 rfl) ?_
  refine mh_callT (mh_sV (rest := [.int (nI 0), .ref o0]) (av := [.int (nI t), .int (nI key)]) K0 hX r0 rfl e_MH_delete l_LW_29 k392 k393 rfl rfl d_LW_delete_5) (c_MH_delete_2 hl0 hR2 hG ht hk hd) K0 hOK hml hl.1 e_MH_delete hX hS d_LW_delete_5 (Nat.le_of_ble_eq_true rfl) (Nat.le_of_ble_eq_true rfl) (Nat.le_of_ble_eq_true rfl) (Nat.le_of_ble_eq_true rfl) (Nat.le_of_ble_eq_true rfl) (fun q w1 H locs hq hw hX hS => ?_)
  obtain ⟨hC, hFC⟩ := hw
  refine mh_catch K0 hOK hX hq (E := "java/lang/IllegalStateException") rfl hT (pre := [(0, 10, 13, 13)]) (x := (0, 10, 17, 15)) (suf := [(0, 10, 21, 27)]) rfl (List.forall_mem_cons.mpr ⟨⟨"java/lang/IllegalArgumentException", by decide, k137, by decide⟩, fun _ h => absurd h List.not_mem_nil⟩) (by decide) (by decide) (by decide) k138 ?_
  refine W.eq (g2 := F0 m 17 ls [.ref q]) rfl ?_
  refine lv_astore (lv' := [(4, .ref q), (0, .ref x0), (1, .int (nI t)), (2, .int (nI key)), (3, .ref o0)]) hx hb d_LW_delete_17 hl (by decide) rfl (fun ls hl => ?_)
  refine lv_iconst (v := nI 2) hx hb d_LW_delete_19 (by decide) ?_
  exact mh_iret K0 hr rfl hlocks hX hS (⟨rfl, hC, ⟨ov, (hFC 90 0 (by omega) (by omega)).trans hov, fun _ h => by cases h⟩, fun k i h1 h2 => hFC k i (by omega) (by omega)⟩) (Nat.le_of_ble_eq_true rfl) (Nat.le_of_ble_eq_true rfl) d_LW_delete_20
set_option maxHeartbeats 4000000 in
set_option maxRecDepth 100000 in
theorem c_LW_part_2 {l : Launch} {b : Nat} {dC : Nat → ClassId} {dI : Nat → Nat → Nat} {dA : Nat → ClassId} {zs : Nat → Nat} {w : mh_w} (hl0 : l.stackTraces = false) {x0 : Nat} {g : st_G} (hR : rC dA zs w x0 g) (hG : sg_ok g) {o0 : Nat} {ov : Nat → Int64} (hov : w 90 0 = some (o0, .inl (dA 1, 1, .inr (.inl ov)))) {t : Nat} (ht : t < 16) {low high q9 : Nat} (h1 : low ≤ high) (h2 : high < 256) (h3 : q9 < 4) (hd : sg_dr g t = none) : mh_Met l b dC dI dA zs y_LW_part (mh_rm 9 20 1000) [.ref x0, .int (nI t), .int (nI low), .int (nI high), .int (nI q9), .ref o0] w (mh_V (some (.int (nI 2))) (lW dA zs w x0 o0 false (2, 0, g))) := by
  have hR2 := hR
  obtain ⟨aL, aS, aD, aV, sv, dr, vw, lg, hP⟩ := hR
  have r0 := hP.1
  refine mh_ofW (cc := b_LW_part) (n := 7) (ret := (some .int)) (hs := [(0, 13, 16, 13), (0, 13, 20, 15), (0, 13, 24, 27)]) (by decide) k406 ?_
  intro p e s m below meth c hx hb hr hml hown hts hlocks hnm hT hOK hadm
  have K0 : mh_K0 p s m ([.ref x0, .int (nI t), .int (nI low), .int (nI high), .int (nI q9), .ref o0]).toArray c "MeldHostLaw" b_LW_part dC dI dA := ⟨hx, hb, hown, hts, hOK.1, hOK.2.1⟩
  have hX := hOK.2.2.2.2
  have hb0 := hOK.2.2.2.1
  have hS : va_S (mh_A b) s.heap s.heap [] := va_S.rf
  have hl := lv_entry ([.ref x0, .int (nI t), .int (nI low), .int (nI high), .int (nI q9), .ref o0]) (n := 7) (Nat.le_of_ble_eq_true rfl)
  rw [lg_entry_eq]
  generalize (lg_sl ([.ref x0, .int (nI t), .int (nI low), .int (nI high), .int (nI q9), .ref o0]) ++ List.replicate (7 - (lg_sl ([.ref x0, .int (nI t), .int (nI low), .int (nI high), .int (nI q9), .ref o0])).length) Slot.unset).toArray = ls at hl ⊢
  have hl : lv_has ls 7 [(0, .ref x0), (1, .int (nI t)), (2, .int (nI low)), (3, .int (nI high)), (4, .int (nI q9)), (5, .ref o0)] := hl
  refine lv_aload hx hb d_LW_part_0 (lv_at hl 5 rfl) ?_
  refine lv_iconst (v := nI 0) hx hb d_LW_part_2 (by decide) ?_
  refine lv_aload_n hx hb d_LW_part_3 rfl (lv_at hl 0 rfl) ?_
  refine lv_iload_n hx hb d_LW_part_4 rfl (lv_at hl 1 rfl) ?_
  refine lv_iload_n hx hb d_LW_part_5 rfl (lv_at hl 2 rfl) ?_
  refine lv_iload_n hx hb d_LW_part_6 rfl (lv_at hl 3 rfl) ?_
  refine lv_iload hx hb d_LW_part_7 (lv_at hl 4 rfl) ?_
  refine mh_callT (mh_sV (rest := [.int (nI 0), .ref o0]) (av := [.int (nI t), .int (nI low), .int (nI high), .int (nI q9)]) K0 hX r0 rfl e_MH_part l_LW_33 k408 k409 rfl rfl d_LW_part_9) (c_MH_part_2 hl0 hR2 hG ht h1 h2 h3 hd) K0 hOK hml hl.1 e_MH_part hX hS d_LW_part_9 (Nat.le_of_ble_eq_true rfl) (Nat.le_of_ble_eq_true rfl) (Nat.le_of_ble_eq_true rfl) (Nat.le_of_ble_eq_true rfl) (Nat.le_of_ble_eq_true rfl) (fun q w1 H locs hq hw hX hS => ?_)
  obtain ⟨hC, hFC⟩ := hw
  refine mh_catch K0 hOK hX hq (E := "java/lang/IllegalStateException") rfl hT (pre := [(0, 13, 16, 13)]) (x := (0, 13, 20, 15)) (suf := [(0, 13, 24, 27)]) rfl (List.forall_mem_cons.mpr ⟨⟨"java/lang/IllegalArgumentException", by decide, k137, by decide⟩, fun _ h => absurd h List.not_mem_nil⟩) (by decide) (by decide) (by decide) k138 ?_
  refine W.eq (g2 := F0 m 20 ls [.ref q]) rfl ?_
  refine lv_astore (lv' := [(6, .ref q), (0, .ref x0), (1, .int (nI t)), (2, .int (nI low)), (3, .int (nI high)), (4, .int (nI q9)), (5, .ref o0)]) hx hb d_LW_part_20 hl (by decide) rfl (fun ls hl => ?_)
  refine lv_iconst (v := nI 2) hx hb d_LW_part_22 (by decide) ?_
  exact mh_iret K0 hr rfl hlocks hX hS (⟨rfl, hC, ⟨ov, (hFC 90 0 (by omega) (by omega)).trans hov, fun _ h => by cases h⟩, fun k i h1 h2 => hFC k i (by omega) (by omega)⟩) (Nat.le_of_ble_eq_true rfl) (Nat.le_of_ble_eq_true rfl) d_LW_part_23
set_option maxHeartbeats 4000000 in
set_option maxRecDepth 100000 in
theorem c_LW_commit_2 {l : Launch} {b : Nat} {dC : Nat → ClassId} {dI : Nat → Nat → Nat} {dA : Nat → ClassId} {zs : Nat → Nat} {w : mh_w} (hl0 : l.stackTraces = false) {x0 : Nat} {g : st_G} (hR : rC dA zs w x0 g) (hG : sg_ok g) {o0 : Nat} {ov : Nat → Int64} (hov : w 90 0 = some (o0, .inl (dA 1, 1, .inr (.inl ov)))) {t : Nat} (ht : t < 16) (hd : sg_dr g t = none) : mh_Met l b dC dI dA zs y_LW_commit (mh_rm 9 20 1000) [.ref x0, .int (nI t), .ref o0] w (mh_V (some (.int (nI 2))) (lW dA zs w x0 o0 false (2, 0, g))) := by
  have hR2 := hR
  obtain ⟨aL, aS, aD, aV, sv, dr, vw, lg, hP⟩ := hR
  have r0 := hP.1
  refine mh_ofW (cc := b_LW_commit) (n := 4) (ret := (some .int)) (hs := [(0, 9, 12, 13), (0, 9, 15, 15), (0, 9, 18, 27)]) (by decide) k442 ?_
  intro p e s m below meth c hx hb hr hml hown hts hlocks hnm hT hOK hadm
  have K0 : mh_K0 p s m ([.ref x0, .int (nI t), .ref o0]).toArray c "MeldHostLaw" b_LW_commit dC dI dA := ⟨hx, hb, hown, hts, hOK.1, hOK.2.1⟩
  have hX := hOK.2.2.2.2
  have hb0 := hOK.2.2.2.1
  have hS : va_S (mh_A b) s.heap s.heap [] := va_S.rf
  have hl := lv_entry ([.ref x0, .int (nI t), .ref o0]) (n := 4) (Nat.le_of_ble_eq_true rfl)
  rw [lg_entry_eq]
  generalize (lg_sl ([.ref x0, .int (nI t), .ref o0]) ++ List.replicate (4 - (lg_sl ([.ref x0, .int (nI t), .ref o0])).length) Slot.unset).toArray = ls at hl ⊢
  have hl : lv_has ls 4 [(0, .ref x0), (1, .int (nI t)), (2, .ref o0)] := hl
  refine lv_aload_n hx hb d_LW_commit_0 rfl (lv_at hl 2 rfl) ?_
  refine lv_iconst (v := nI 0) hx hb d_LW_commit_1 (by decide) ?_
  refine lv_aload_n hx hb d_LW_commit_2 rfl (lv_at hl 0 rfl) ?_
  refine lv_iload_n hx hb d_LW_commit_3 rfl (lv_at hl 1 rfl) ?_
  refine mh_callT (mh_sV (rest := [.int (nI 0), .ref o0]) (av := [.int (nI t)]) K0 hX r0 rfl e_MH_commit l_LW_37 k444 k445 rfl rfl d_LW_commit_4) (c_MH_commit_2 hl0 hR2 hG ht hd) K0 hOK hml hl.1 e_MH_commit hX hS d_LW_commit_4 (Nat.le_of_ble_eq_true rfl) (Nat.le_of_ble_eq_true rfl) (Nat.le_of_ble_eq_true rfl) (Nat.le_of_ble_eq_true rfl) (Nat.le_of_ble_eq_true rfl) (fun q w1 H locs hq hw hX hS => ?_)
  obtain ⟨hC, hFC⟩ := hw
  refine mh_catch K0 hOK hX hq (E := "java/lang/IllegalStateException") rfl hT (pre := [(0, 9, 12, 13)]) (x := (0, 9, 15, 15)) (suf := [(0, 9, 18, 27)]) rfl (List.forall_mem_cons.mpr ⟨⟨"java/lang/IllegalArgumentException", by decide, k137, by decide⟩, fun _ h => absurd h List.not_mem_nil⟩) (by decide) (by decide) (by decide) k138 ?_
  refine W.eq (g2 := F0 m 15 ls [.ref q]) rfl ?_
  refine lv_astore_n (lv' := [(3, .ref q), (0, .ref x0), (1, .int (nI t)), (2, .ref o0)]) hx hb d_LW_commit_15 rfl hl (by decide) rfl (fun ls hl => ?_)
  refine lv_iconst (v := nI 2) hx hb d_LW_commit_16 (by decide) ?_
  exact mh_iret K0 hr rfl hlocks hX hS (⟨rfl, hC, ⟨ov, (hFC 90 0 (by omega) (by omega)).trans hov, fun _ h => by cases h⟩, fun k i h1 h2 => hFC k i (by omega) (by omega)⟩) (Nat.le_of_ble_eq_true rfl) (Nat.le_of_ble_eq_true rfl) d_LW_commit_17
set_option maxHeartbeats 4000000 in
set_option maxRecDepth 100000 in
theorem c_LW_abort_2 {l : Launch} {b : Nat} {dC : Nat → ClassId} {dI : Nat → Nat → Nat} {dA : Nat → ClassId} {zs : Nat → Nat} {w : mh_w} (hl0 : l.stackTraces = false) {x0 : Nat} {g : st_G} (hR : rC dA zs w x0 g) (hG : sg_ok g) {o0 : Nat} {ov : Nat → Int64} (hov : w 90 0 = some (o0, .inl (dA 1, 1, .inr (.inl ov)))) {t : Nat} (ht : t < 16) (hd : sg_dr g t = none) : mh_Met l b dC dI dA zs y_LW_abort (mh_rm 9 20 1000) [.ref x0, .int (nI t)] w (mh_V (some (.int (nI 2))) (lW dA zs w x0 o0 true (2, 0, g))) := by
  have hR2 := hR
  obtain ⟨aL, aS, aD, aV, sv, dr, vw, lg, hP⟩ := hR
  have r0 := hP.1
  refine mh_ofW (cc := b_LW_abort) (n := 3) (ret := (some .int)) (hs := [(0, 5, 8, 13), (0, 5, 11, 15)]) (by decide) k536 ?_
  intro p e s m below meth c hx hb hr hml hown hts hlocks hnm hT hOK hadm
  have K0 : mh_K0 p s m ([.ref x0, .int (nI t)]).toArray c "MeldHostLaw" b_LW_abort dC dI dA := ⟨hx, hb, hown, hts, hOK.1, hOK.2.1⟩
  have hX := hOK.2.2.2.2
  have hb0 := hOK.2.2.2.1
  have hS : va_S (mh_A b) s.heap s.heap [] := va_S.rf
  have hl := lv_entry ([.ref x0, .int (nI t)]) (n := 3) (Nat.le_of_ble_eq_true rfl)
  rw [lg_entry_eq]
  generalize (lg_sl ([.ref x0, .int (nI t)]) ++ List.replicate (3 - (lg_sl ([.ref x0, .int (nI t)])).length) Slot.unset).toArray = ls at hl ⊢
  have hl : lv_has ls 3 [(0, .ref x0), (1, .int (nI t))] := hl
  refine lv_aload_n hx hb d_LW_abort_0 rfl (lv_at hl 0 rfl) ?_
  refine lv_iload_n hx hb d_LW_abort_1 rfl (lv_at hl 1 rfl) ?_
  refine mh_callT (mh_sV (rest := []) (av := [.int (nI t)]) K0 hX r0 rfl e_MH_abort l_LW_41 k538 k539 rfl rfl d_LW_abort_2) (c_MH_abort_2 hl0 hR2 hG ht hd) K0 hOK hml hl.1 e_MH_abort hX hS d_LW_abort_2 (Nat.le_of_ble_eq_true rfl) (Nat.le_of_ble_eq_true rfl) (Nat.le_of_ble_eq_true rfl) (Nat.le_of_ble_eq_true rfl) (Nat.le_of_ble_eq_true rfl) (fun q w1 H locs hq hw hX hS => ?_)
  obtain ⟨hC, hFC⟩ := hw
  refine mh_catch K0 hOK hX hq (E := "java/lang/IllegalStateException") rfl hT (pre := [(0, 5, 8, 13)]) (x := (0, 5, 11, 15)) (suf := []) rfl (List.forall_mem_cons.mpr ⟨⟨"java/lang/IllegalArgumentException", by decide, k137, by decide⟩, fun _ h => absurd h List.not_mem_nil⟩) (by decide) (by decide) (by decide) k138 ?_
  refine W.eq (g2 := F0 m 11 ls [.ref q]) rfl ?_
  refine lv_astore_n (lv' := [(2, .ref q), (0, .ref x0), (1, .int (nI t))]) hx hb d_LW_abort_11 rfl hl (by decide) rfl (fun ls hl => ?_)
  refine lv_iconst (v := nI 2) hx hb d_LW_abort_12 (by decide) ?_
  exact mh_iret K0 hr rfl hlocks hX hS (⟨rfl, hC, ⟨ov, (hFC 90 0 (by omega) (by omega)).trans hov, fun _ h => by cases h⟩, fun k i h1 h2 => hFC k i (by omega) (by omega)⟩) (Nat.le_of_ble_eq_true rfl) (Nat.le_of_ble_eq_true rfl) d_LW_abort_13
set_option maxHeartbeats 4000000 in
set_option maxRecDepth 100000 in
theorem c_LW_begin_2 {l : Launch} {b : Nat} {dC : Nat → ClassId} {dI : Nat → Nat → Nat} {dA : Nat → ClassId} {zs : Nat → Nat} {w : mh_w} (hl0 : l.stackTraces = false) {x0 : Nat} {g : st_G} (hR : rC dA zs w x0 g) (hG : sg_ok g) {o0 : Nat} {ov : Nat → Int64} (hov : w 90 0 = some (o0, .inl (dA 1, 1, .inr (.inl ov)))) {t : Nat} (ht : t < 16) {u : Nat} (hu : u < 4) {lv : Nat} (hlv : lv < 2) {x : st_I} (hd : sg_dr g t = some x) : mh_Met l b dC dI dA zs y_LW_begin (mh_rm 9 20 1000) [.ref x0, .int (nI t), .int (nI u), .int (nI lv)] w (mh_V (some (.int (nI 2))) (lW dA zs w x0 o0 true (2, 0, g))) := by
  have hR2 := hR
  obtain ⟨aL, aS, aD, aV, sv, dr, vw, lg, hP⟩ := hR
  have r0 := hP.1
  refine mh_ofW (cc := b_LW_begin) (n := 5) (ret := (some .int)) (hs := [(0, 7, 10, 13), (0, 7, 14, 15)]) (by decide) k136 ?_
  intro p e s m below meth c hx hb hr hml hown hts hlocks hnm hT hOK hadm
  have K0 : mh_K0 p s m ([.ref x0, .int (nI t), .int (nI u), .int (nI lv)]).toArray c "MeldHostLaw" b_LW_begin dC dI dA := ⟨hx, hb, hown, hts, hOK.1, hOK.2.1⟩
  have hX := hOK.2.2.2.2
  have hb0 := hOK.2.2.2.1
  have hS : va_S (mh_A b) s.heap s.heap [] := va_S.rf
  have hl := lv_entry ([.ref x0, .int (nI t), .int (nI u), .int (nI lv)]) (n := 5) (Nat.le_of_ble_eq_true rfl)
  rw [lg_entry_eq]
  generalize (lg_sl ([.ref x0, .int (nI t), .int (nI u), .int (nI lv)]) ++ List.replicate (5 - (lg_sl ([.ref x0, .int (nI t), .int (nI u), .int (nI lv)])).length) Slot.unset).toArray = ls at hl ⊢
  have hl : lv_has ls 5 [(0, .ref x0), (1, .int (nI t)), (2, .int (nI u)), (3, .int (nI lv))] := hl
  refine lv_aload_n hx hb d_LW_begin_0 rfl (lv_at hl 0 rfl) ?_
  refine lv_iload_n hx hb d_LW_begin_1 rfl (lv_at hl 1 rfl) ?_
  refine lv_iload_n hx hb d_LW_begin_2 rfl (lv_at hl 2 rfl) ?_
  refine lv_iload_n hx hb d_LW_begin_3 rfl (lv_at hl 3 rfl) ?_
  refine mh_callT (mh_sV (rest := []) (av := [.int (nI t), .int (nI u), .int (nI lv)]) K0 hX r0 rfl e_MH_begin l_LW_7 k140 k141 rfl rfl d_LW_begin_4) (c_MH_begin_2 hl0 hR2 hG ht hu hlv hd) K0 hOK hml hl.1 e_MH_begin hX hS d_LW_begin_4 (Nat.le_of_ble_eq_true rfl) (Nat.le_of_ble_eq_true rfl) (Nat.le_of_ble_eq_true rfl) (Nat.le_of_ble_eq_true rfl) (Nat.le_of_ble_eq_true rfl) (fun q w1 H locs hq hw hX hS => ?_)
  obtain ⟨hC, hFC⟩ := hw
  refine mh_catch K0 hOK hX hq (E := "java/lang/IllegalStateException") rfl hT (pre := [(0, 7, 10, 13)]) (x := (0, 7, 14, 15)) (suf := []) rfl (List.forall_mem_cons.mpr ⟨⟨"java/lang/IllegalArgumentException", by decide, k137, by decide⟩, fun _ h => absurd h List.not_mem_nil⟩) (by decide) (by decide) (by decide) k138 ?_
  refine W.eq (g2 := F0 m 14 ls [.ref q]) rfl ?_
  refine lv_astore (lv' := [(4, .ref q), (0, .ref x0), (1, .int (nI t)), (2, .int (nI u)), (3, .int (nI lv))]) hx hb d_LW_begin_14 hl (by decide) rfl (fun ls hl => ?_)
  refine lv_iconst (v := nI 2) hx hb d_LW_begin_16 (by decide) ?_
  exact mh_iret K0 hr rfl hlocks hX hS (⟨rfl, hC, ⟨ov, (hFC 90 0 (by omega) (by omega)).trans hov, fun _ h => by cases h⟩, fun k i h1 h2 => hFC k i (by omega) (by omega)⟩) (Nat.le_of_ble_eq_true rfl) (Nat.le_of_ble_eq_true rfl) d_LW_begin_17
set_option maxHeartbeats 4000000 in
set_option maxRecDepth 100000 in
theorem c_LW_begin_0 {l : Launch} {b : Nat} {dC : Nat → ClassId} {dI : Nat → Nat → Nat} {dA : Nat → ClassId} {zs : Nat → Nat} {w : mh_w} {x0 : Nat} {g : st_G} (hR : rC dA zs w x0 g) (hG : sg_ok g) {o0 : Nat} {ov : Nat → Int64} (hov : w 90 0 = some (o0, .inl (dA 1, 1, .inr (.inl ov)))) {t : Nat} (ht : t < 16) {u : Nat} (hu : u < 4) {lv : Nat} (hlv : lv < 2) (hd : sg_dr g t = none) : mh_Met l b dC dI dA zs y_LW_begin (mh_rm 9 20 1000) [.ref x0, .int (nI t), .int (nI u), .int (nI lv)] w (mh_V (some (.int (nI 0))) (lW dA zs w x0 o0 true (0, 0, (g.1, g.2.1, va_up (sg_dr g) t (some (st_new u (sg_at g u) lv)), g.2.2.2)))) := by
  have hR2 := hR
  obtain ⟨aL, aS, aD, aV, sv, dr, vw, lg, hP⟩ := hR
  have r0 := hP.1
  refine mh_ofW (cc := b_LW_begin) (n := 5) (ret := (some .int)) (hs := [(0, 7, 10, 13), (0, 7, 14, 15)]) (by decide) k136 ?_
  intro p e s m below meth c hx hb hr hml hown hts hlocks hnm hT hOK hadm
  have K0 : mh_K0 p s m ([.ref x0, .int (nI t), .int (nI u), .int (nI lv)]).toArray c "MeldHostLaw" b_LW_begin dC dI dA := ⟨hx, hb, hown, hts, hOK.1, hOK.2.1⟩
  have hX := hOK.2.2.2.2
  have hb0 := hOK.2.2.2.1
  have hS : va_S (mh_A b) s.heap s.heap [] := va_S.rf
  have hl := lv_entry ([.ref x0, .int (nI t), .int (nI u), .int (nI lv)]) (n := 5) (Nat.le_of_ble_eq_true rfl)
  rw [lg_entry_eq]
  generalize (lg_sl ([.ref x0, .int (nI t), .int (nI u), .int (nI lv)]) ++ List.replicate (5 - (lg_sl ([.ref x0, .int (nI t), .int (nI u), .int (nI lv)])).length) Slot.unset).toArray = ls at hl ⊢
  have hl : lv_has ls 5 [(0, .ref x0), (1, .int (nI t)), (2, .int (nI u)), (3, .int (nI lv))] := hl
  refine lv_aload_n hx hb d_LW_begin_0 rfl (lv_at hl 0 rfl) ?_
  refine lv_iload_n hx hb d_LW_begin_1 rfl (lv_at hl 1 rfl) ?_
  refine lv_iload_n hx hb d_LW_begin_2 rfl (lv_at hl 2 rfl) ?_
  refine lv_iload_n hx hb d_LW_begin_3 rfl (lv_at hl 3 rfl) ?_
  refine mh_callV (mh_sV (rest := []) (av := [.int (nI t), .int (nI u), .int (nI lv)]) K0 hX r0 rfl e_MH_begin l_LW_7 k140 k141 rfl rfl d_LW_begin_4) (c_MH_begin_0 hR2 hG ht hu hlv hd) K0 hOK hml hl.1 e_MH_begin hX hS d_LW_begin_4 (Nat.le_of_ble_eq_true rfl) (Nat.le_of_ble_eq_true rfl) (Nat.le_of_ble_eq_true rfl) (Nat.le_of_ble_eq_true rfl) (Nat.le_of_ble_eq_true rfl) (fun w1 H locs ⟨hC, hFC⟩ hX hS => ?_)
  refine W.eq (g2 := F0 m 7 ls []) rfl ?_
  refine lv_goto (tgt := 18) hx hb d_LW_begin_7 (by decide) ?_
  refine lv_iconst (v := nI 0) hx hb d_LW_begin_18 (by decide) ?_
  exact mh_iret K0 hr rfl hlocks hX hS (⟨rfl, hC, ⟨ov, ((hFC 90 0 (by omega) (by omega)).trans hov), fun h => by cases h⟩, fun k i h1 h2 => hFC k i (by omega) (by omega)⟩) (Nat.le_of_ble_eq_true rfl) (Nat.le_of_ble_eq_true rfl) d_LW_begin_19
set_option maxHeartbeats 4000000 in
set_option maxRecDepth 100000 in
theorem c_LW_get_0 {l : Launch} {b : Nat} {dC : Nat → ClassId} {dI : Nat → Nat → Nat} {dA : Nat → ClassId} {zs : Nat → Nat} {w : mh_w} {x0 : Nat} {g : st_G} (hR : rC dA zs w x0 g) (hG : sg_ok g) {o0 : Nat} {ov : Nat → Int64} (hov : w 90 0 = some (o0, .inl (dA 1, 1, .inr (.inl ov)))) {t : Nat} (ht : t < 16) {key : Nat} (hk : key < 256) {x : st_I} (hd : sg_dr g t = some x) {v : Int64} (hv : st_vw (sg_lg g) x key = some v) : mh_Met l b dC dI dA zs y_LW_get (mh_rm 9 20 1000) [.ref x0, .int (nI t), .int (nI key), .ref o0] w (mh_V (some (.int (nI 0))) (lW dA zs w x0 o0 false (0, v, (g.1, g.2.1, va_up (sg_dr g) t (some (st_get x key)), g.2.2.2)))) := by
  have hR2 := hR
  obtain ⟨aL, aS, aD, aV, sv, dr, vw, lg, hP⟩ := hR
  have r0 := hP.1
  refine mh_ofW (cc := b_LW_get) (n := 5) (ret := (some .int)) (hs := [(0, 9, 12, 13), (0, 9, 16, 15), (0, 9, 20, 21)]) (by decide) k295 ?_
  intro p e s m below meth c hx hb hr hml hown hts hlocks hnm hT hOK hadm
  have K0 : mh_K0 p s m ([.ref x0, .int (nI t), .int (nI key), .ref o0]).toArray c "MeldHostLaw" b_LW_get dC dI dA := ⟨hx, hb, hown, hts, hOK.1, hOK.2.1⟩
  have hX := hOK.2.2.2.2
  have hb0 := hOK.2.2.2.1
  have hS : va_S (mh_A b) s.heap s.heap [] := va_S.rf
  have hl := lv_entry ([.ref x0, .int (nI t), .int (nI key), .ref o0]) (n := 5) (Nat.le_of_ble_eq_true rfl)
  rw [lg_entry_eq]
  generalize (lg_sl ([.ref x0, .int (nI t), .int (nI key), .ref o0]) ++ List.replicate (5 - (lg_sl ([.ref x0, .int (nI t), .int (nI key), .ref o0])).length) Slot.unset).toArray = ls at hl ⊢
  have hl : lv_has ls 5 [(0, .ref x0), (1, .int (nI t)), (2, .int (nI key)), (3, .ref o0)] := hl
  refine lv_aload_n hx hb d_LW_get_0 rfl (lv_at hl 3 rfl) ?_
  refine lv_iconst (v := nI 0) hx hb d_LW_get_1 (by decide) ?_
  refine lv_aload_n hx hb d_LW_get_2 rfl (lv_at hl 0 rfl) ?_
  refine lv_iload_n hx hb d_LW_get_3 rfl (lv_at hl 1 rfl) ?_
  refine lv_iload_n hx hb d_LW_get_4 rfl (lv_at hl 2 rfl) ?_
  refine mh_callV (mh_sV (rest := [.int (nI 0), .ref o0]) (av := [.int (nI t), .int (nI key)]) K0 hX r0 rfl e_MH_get l_LW_17 k298 k299 rfl rfl d_LW_get_5) (c_MH_get_0 hR2 hG ht hk hd hv) K0 hOK hml hl.1 e_MH_get hX hS d_LW_get_5 (Nat.le_of_ble_eq_true rfl) (Nat.le_of_ble_eq_true rfl) (Nat.le_of_ble_eq_true rfl) (Nat.le_of_ble_eq_true rfl) (Nat.le_of_ble_eq_true rfl) (fun w1 H locs ⟨hC, hFC⟩ hX hS => ?_)
  refine W.eq (g2 := F0 m 8 ls [.long v, .int (nI 0), .ref o0]) rfl ?_
  refine mh_lastN K0 hX hS ((hFC 90 0 (by omega) (by omega)).trans hov) (by omega) (by omega) d_LW_get_8 (fun H locs hX hS => ?_)
  have fs146 := mh_self hX
  refine lv_goto (tgt := 24) hx hb d_LW_get_9 (by decide) ?_
  refine lv_iconst (v := nI 0) hx hb d_LW_get_24 (by decide) ?_
  exact mh_iret K0 hr rfl hlocks hX hS (⟨rfl, hC.c (fun k i hk => mh_set_ne _ _ _ _ (by omega)), ⟨_, fs146, fun _ _ => pk_uLs⟩, fun k i h1 h2 => (mh_set_ne _ _ _ _ (by omega)).trans (hFC k i (by omega) (by omega))⟩) (Nat.le_of_ble_eq_true rfl) (Nat.le_of_ble_eq_true rfl) d_LW_get_25
set_option maxHeartbeats 4000000 in
set_option maxRecDepth 100000 in
theorem c_LW_get_3 {l : Launch} {b : Nat} {dC : Nat → ClassId} {dI : Nat → Nat → Nat} {dA : Nat → ClassId} {zs : Nat → Nat} {w : mh_w} (hl0 : l.stackTraces = false) {x0 : Nat} {g : st_G} (hR : rC dA zs w x0 g) (hG : sg_ok g) {o0 : Nat} {ov : Nat → Int64} (hov : w 90 0 = some (o0, .inl (dA 1, 1, .inr (.inl ov)))) {t : Nat} (ht : t < 16) {key : Nat} (hk : key < 256) {x : st_I} (hd : sg_dr g t = some x) (hv : st_vw (sg_lg g) x key = none) : mh_Met l b dC dI dA zs y_LW_get (mh_rm 9 20 1000) [.ref x0, .int (nI t), .int (nI key), .ref o0] w (mh_V (some (.int (nI 3))) (lW dA zs w x0 o0 false (3, 0, (g.1, g.2.1, va_up (sg_dr g) t (some (st_get x key)), g.2.2.2)))) := by
  have hR2 := hR
  obtain ⟨aL, aS, aD, aV, sv, dr, vw, lg, hP⟩ := hR
  have r0 := hP.1
  refine mh_ofW (cc := b_LW_get) (n := 5) (ret := (some .int)) (hs := [(0, 9, 12, 13), (0, 9, 16, 15), (0, 9, 20, 21)]) (by decide) k295 ?_
  intro p e s m below meth c hx hb hr hml hown hts hlocks hnm hT hOK hadm
  have K0 : mh_K0 p s m ([.ref x0, .int (nI t), .int (nI key), .ref o0]).toArray c "MeldHostLaw" b_LW_get dC dI dA := ⟨hx, hb, hown, hts, hOK.1, hOK.2.1⟩
  have hX := hOK.2.2.2.2
  have hb0 := hOK.2.2.2.1
  have hS : va_S (mh_A b) s.heap s.heap [] := va_S.rf
  have hl := lv_entry ([.ref x0, .int (nI t), .int (nI key), .ref o0]) (n := 5) (Nat.le_of_ble_eq_true rfl)
  rw [lg_entry_eq]
  generalize (lg_sl ([.ref x0, .int (nI t), .int (nI key), .ref o0]) ++ List.replicate (5 - (lg_sl ([.ref x0, .int (nI t), .int (nI key), .ref o0])).length) Slot.unset).toArray = ls at hl ⊢
  have hl : lv_has ls 5 [(0, .ref x0), (1, .int (nI t)), (2, .int (nI key)), (3, .ref o0)] := hl
  refine lv_aload_n hx hb d_LW_get_0 rfl (lv_at hl 3 rfl) ?_
  refine lv_iconst (v := nI 0) hx hb d_LW_get_1 (by decide) ?_
  refine lv_aload_n hx hb d_LW_get_2 rfl (lv_at hl 0 rfl) ?_
  refine lv_iload_n hx hb d_LW_get_3 rfl (lv_at hl 1 rfl) ?_
  refine lv_iload_n hx hb d_LW_get_4 rfl (lv_at hl 2 rfl) ?_
  refine mh_callT (mh_sV (rest := [.int (nI 0), .ref o0]) (av := [.int (nI t), .int (nI key)]) K0 hX r0 rfl e_MH_get l_LW_17 k298 k299 rfl rfl d_LW_get_5) (c_MH_get_3 hl0 hR2 hG ht hk hd hv) K0 hOK hml hl.1 e_MH_get hX hS d_LW_get_5 (Nat.le_of_ble_eq_true rfl) (Nat.le_of_ble_eq_true rfl) (Nat.le_of_ble_eq_true rfl) (Nat.le_of_ble_eq_true rfl) (Nat.le_of_ble_eq_true rfl) (fun q w1 H locs hq hw hX hS => ?_)
  obtain ⟨hC, hFC⟩ := hw
  refine mh_catch K0 hOK hX hq (E := "java/lang/UnsupportedOperationException") rfl hT (pre := [(0, 9, 12, 13), (0, 9, 16, 15)]) (x := (0, 9, 20, 21)) (suf := []) rfl (List.forall_mem_cons.mpr ⟨⟨"java/lang/IllegalArgumentException", by decide, k137, by decide⟩, List.forall_mem_cons.mpr ⟨⟨"java/lang/IllegalStateException", by decide, k138, by decide⟩, fun _ h => absurd h List.not_mem_nil⟩⟩) (by decide) (by decide) (by decide) k296 ?_
  refine W.eq (g2 := F0 m 20 ls [.ref q]) rfl ?_
  refine lv_astore (lv' := [(4, .ref q), (0, .ref x0), (1, .int (nI t)), (2, .int (nI key)), (3, .ref o0)]) hx hb d_LW_get_20 hl (by decide) rfl (fun ls hl => ?_)
  refine lv_iconst (v := nI 3) hx hb d_LW_get_22 (by decide) ?_
  exact mh_iret K0 hr rfl hlocks hX hS (⟨rfl, hC, ⟨ov, (hFC 90 0 (by omega) (by omega)).trans hov, fun _ h => by cases h⟩, fun k i h1 h2 => hFC k i (by omega) (by omega)⟩) (Nat.le_of_ble_eq_true rfl) (Nat.le_of_ble_eq_true rfl) d_LW_get_23
set_option maxHeartbeats 4000000 in
set_option maxRecDepth 100000 in
theorem c_LW_put_0 {l : Launch} {b : Nat} {dC : Nat → ClassId} {dI : Nat → Nat → Nat} {dA : Nat → ClassId} {zs : Nat → Nat} {w : mh_w} {x0 : Nat} {g : st_G} (hR : rC dA zs w x0 g) (hG : sg_ok g) {o0 : Nat} {ov : Nat → Int64} (hov : w 90 0 = some (o0, .inl (dA 1, 1, .inr (.inl ov)))) {t : Nat} (ht : t < 16) {key : Nat} (hk : key < 256) {x : st_I} (hd : sg_dr g t = some x) {v : Int64} (h8 : (st_pl (iv_wk x) key (iv_nw x)) < 8) : mh_Met l b dC dI dA zs y_LW_put (mh_rm 9 20 1000) [.ref x0, .int (nI t), .int (nI key), .long v, .ref o0] w (mh_V (some (.int (nI 0))) (lW dA zs w x0 o0 false (0, lN (iv_nw (st_wr x key (some v))), (g.1, g.2.1, va_up (sg_dr g) t (some (st_wr x key (some v))), g.2.2.2)))) := by
  have hR2 := hR
  obtain ⟨aL, aS, aD, aV, sv, dr, vw, lg, hP⟩ := hR
  have r0 := hP.1
  refine mh_ofW (cc := b_LW_put) (n := 7) (ret := (some .int)) (hs := [(0, 12, 15, 13), (0, 12, 19, 15), (0, 12, 23, 27)]) (by decide) k347 ?_
  intro p e s m below meth c hx hb hr hml hown hts hlocks hnm hT hOK hadm
  have K0 : mh_K0 p s m ([.ref x0, .int (nI t), .int (nI key), .long v, .ref o0]).toArray c "MeldHostLaw" b_LW_put dC dI dA := ⟨hx, hb, hown, hts, hOK.1, hOK.2.1⟩
  have hX := hOK.2.2.2.2
  have hb0 := hOK.2.2.2.1
  have hS : va_S (mh_A b) s.heap s.heap [] := va_S.rf
  have hl := lv_entry ([.ref x0, .int (nI t), .int (nI key), .long v, .ref o0]) (n := 7) (Nat.le_of_ble_eq_true rfl)
  rw [lg_entry_eq]
  generalize (lg_sl ([.ref x0, .int (nI t), .int (nI key), .long v, .ref o0]) ++ List.replicate (7 - (lg_sl ([.ref x0, .int (nI t), .int (nI key), .long v, .ref o0])).length) Slot.unset).toArray = ls at hl ⊢
  have hl : lv_has ls 7 [(0, .ref x0), (1, .int (nI t)), (2, .int (nI key)), (3, .long v), (5, .ref o0)] := hl
  refine lv_aload hx hb d_LW_put_0 (lv_at hl 4 rfl) ?_
  refine lv_iconst (v := nI 0) hx hb d_LW_put_2 (by decide) ?_
  refine lv_aload_n hx hb d_LW_put_3 rfl (lv_at hl 0 rfl) ?_
  refine lv_iload_n hx hb d_LW_put_4 rfl (lv_at hl 1 rfl) ?_
  refine lv_iload_n hx hb d_LW_put_5 rfl (lv_at hl 2 rfl) ?_
  refine lv_lload_n hx hb d_LW_put_6 rfl (lv_at hl 3 rfl) ?_
  refine mh_callV (mh_sV (rest := [.int (nI 0), .ref o0]) (av := [.int (nI t), .int (nI key), .long v]) K0 hX r0 rfl e_MH_put l_LW_23 k350 k351 rfl rfl d_LW_put_7) (c_MH_put_0 hR2 hG ht hk hd h8) K0 hOK hml hl.1 e_MH_put hX hS d_LW_put_7 (Nat.le_of_ble_eq_true rfl) (Nat.le_of_ble_eq_true rfl) (Nat.le_of_ble_eq_true rfl) (Nat.le_of_ble_eq_true rfl) (Nat.le_of_ble_eq_true rfl) (fun w1 H locs ⟨hC, hFC⟩ hX hS => ?_)
  refine W.eq (g2 := F0 m 10 ls [.int (nI (iv_nw (st_wr x key (some v)))), .int (nI 0), .ref o0]) rfl ?_
  refine lv_i2l hx hb d_LW_put_10 rfl ?_
  refine mh_lastN K0 hX hS ((hFC 90 0 (by omega) (by omega)).trans hov) (by omega) (by omega) d_LW_put_11 (fun H locs hX hS => ?_)
  have fs147 := mh_self hX
  refine lv_goto (tgt := 27) hx hb d_LW_put_12 (by decide) ?_
  refine lv_iconst (v := nI 0) hx hb d_LW_put_27 (by decide) ?_
  exact mh_iret K0 hr rfl hlocks hX hS (⟨rfl, hC.c (fun k i hk => mh_set_ne _ _ _ _ (by omega)), ⟨_, fs147, fun _ _ => pk_uLs.trans (nI_l (by have := (st_wr_ok (v := (some v)) (hG.2.2.2.2 t x ht hd) hk h8).2.2.2.2.1; omega))⟩, fun k i h1 h2 => (mh_set_ne _ _ _ _ (by omega)).trans (hFC k i (by omega) (by omega))⟩) (Nat.le_of_ble_eq_true rfl) (Nat.le_of_ble_eq_true rfl) d_LW_put_28
set_option maxHeartbeats 4000000 in
set_option maxRecDepth 100000 in
theorem c_LW_put_3 {l : Launch} {b : Nat} {dC : Nat → ClassId} {dI : Nat → Nat → Nat} {dA : Nat → ClassId} {zs : Nat → Nat} {w : mh_w} (hl0 : l.stackTraces = false) {x0 : Nat} {g : st_G} (hR : rC dA zs w x0 g) (hG : sg_ok g) {o0 : Nat} {ov : Nat → Int64} (hov : w 90 0 = some (o0, .inl (dA 1, 1, .inr (.inl ov)))) {t : Nat} (ht : t < 16) {key : Nat} (hk : key < 256) {x : st_I} (hd : sg_dr g t = some x) {v : Int64} (h8 : ¬ (st_pl (iv_wk x) key (iv_nw x)) < 8) : mh_Met l b dC dI dA zs y_LW_put (mh_rm 9 20 1000) [.ref x0, .int (nI t), .int (nI key), .long v, .ref o0] w (mh_V (some (.int (nI 3))) (lW dA zs w x0 o0 false (3, 0, g))) := by
  have hR2 := hR
  obtain ⟨aL, aS, aD, aV, sv, dr, vw, lg, hP⟩ := hR
  have r0 := hP.1
  refine mh_ofW (cc := b_LW_put) (n := 7) (ret := (some .int)) (hs := [(0, 12, 15, 13), (0, 12, 19, 15), (0, 12, 23, 27)]) (by decide) k347 ?_
  intro p e s m below meth c hx hb hr hml hown hts hlocks hnm hT hOK hadm
  have K0 : mh_K0 p s m ([.ref x0, .int (nI t), .int (nI key), .long v, .ref o0]).toArray c "MeldHostLaw" b_LW_put dC dI dA := ⟨hx, hb, hown, hts, hOK.1, hOK.2.1⟩
  have hX := hOK.2.2.2.2
  have hb0 := hOK.2.2.2.1
  have hS : va_S (mh_A b) s.heap s.heap [] := va_S.rf
  have hl := lv_entry ([.ref x0, .int (nI t), .int (nI key), .long v, .ref o0]) (n := 7) (Nat.le_of_ble_eq_true rfl)
  rw [lg_entry_eq]
  generalize (lg_sl ([.ref x0, .int (nI t), .int (nI key), .long v, .ref o0]) ++ List.replicate (7 - (lg_sl ([.ref x0, .int (nI t), .int (nI key), .long v, .ref o0])).length) Slot.unset).toArray = ls at hl ⊢
  have hl : lv_has ls 7 [(0, .ref x0), (1, .int (nI t)), (2, .int (nI key)), (3, .long v), (5, .ref o0)] := hl
  refine lv_aload hx hb d_LW_put_0 (lv_at hl 4 rfl) ?_
  refine lv_iconst (v := nI 0) hx hb d_LW_put_2 (by decide) ?_
  refine lv_aload_n hx hb d_LW_put_3 rfl (lv_at hl 0 rfl) ?_
  refine lv_iload_n hx hb d_LW_put_4 rfl (lv_at hl 1 rfl) ?_
  refine lv_iload_n hx hb d_LW_put_5 rfl (lv_at hl 2 rfl) ?_
  refine lv_lload_n hx hb d_LW_put_6 rfl (lv_at hl 3 rfl) ?_
  refine mh_callT (mh_sV (rest := [.int (nI 0), .ref o0]) (av := [.int (nI t), .int (nI key), .long v]) K0 hX r0 rfl e_MH_put l_LW_23 k350 k351 rfl rfl d_LW_put_7) (c_MH_put_3 hl0 hR2 hG ht hk hd h8) K0 hOK hml hl.1 e_MH_put hX hS d_LW_put_7 (Nat.le_of_ble_eq_true rfl) (Nat.le_of_ble_eq_true rfl) (Nat.le_of_ble_eq_true rfl) (Nat.le_of_ble_eq_true rfl) (Nat.le_of_ble_eq_true rfl) (fun q w1 H locs hq hw hX hS => ?_)
  obtain ⟨hC, hFC⟩ := hw
  refine mh_catch K0 hOK hX hq (E := "java/lang/IndexOutOfBoundsException") rfl hT (pre := [(0, 12, 15, 13), (0, 12, 19, 15)]) (x := (0, 12, 23, 27)) (suf := []) rfl (List.forall_mem_cons.mpr ⟨⟨"java/lang/IllegalArgumentException", by decide, k137, by decide⟩, List.forall_mem_cons.mpr ⟨⟨"java/lang/IllegalStateException", by decide, k138, by decide⟩, fun _ h => absurd h List.not_mem_nil⟩⟩) (by decide) (by decide) (by decide) k348 ?_
  refine W.eq (g2 := F0 m 23 ls [.ref q]) rfl ?_
  refine lv_astore (lv' := [(6, .ref q), (0, .ref x0), (1, .int (nI t)), (2, .int (nI key)), (3, .long v), (5, .ref o0)]) hx hb d_LW_put_23 hl (by decide) rfl (fun ls hl => ?_)
  refine lv_iconst (v := nI 3) hx hb d_LW_put_25 (by decide) ?_
  exact mh_iret K0 hr rfl hlocks hX hS (⟨rfl, hC, ⟨ov, (hFC 90 0 (by omega) (by omega)).trans hov, fun _ h => by cases h⟩, fun k i h1 h2 => hFC k i (by omega) (by omega)⟩) (Nat.le_of_ble_eq_true rfl) (Nat.le_of_ble_eq_true rfl) d_LW_put_26
set_option maxHeartbeats 4000000 in
set_option maxRecDepth 100000 in
theorem c_LW_delete_0 {l : Launch} {b : Nat} {dC : Nat → ClassId} {dI : Nat → Nat → Nat} {dA : Nat → ClassId} {zs : Nat → Nat} {w : mh_w} {x0 : Nat} {g : st_G} (hR : rC dA zs w x0 g) (hG : sg_ok g) {o0 : Nat} {ov : Nat → Int64} (hov : w 90 0 = some (o0, .inl (dA 1, 1, .inr (.inl ov)))) {t : Nat} (ht : t < 16) {key : Nat} (hk : key < 256) {x : st_I} (hd : sg_dr g t = some x) (h8 : (st_pl (iv_wk x) key (iv_nw x)) < 8) : mh_Met l b dC dI dA zs y_LW_delete (mh_rm 9 20 1000) [.ref x0, .int (nI t), .int (nI key), .ref o0] w (mh_V (some (.int (nI 0))) (lW dA zs w x0 o0 false (0, lN (iv_nw (st_wr x key (none : Option Int64))), (g.1, g.2.1, va_up (sg_dr g) t (some (st_wr x key (none : Option Int64))), g.2.2.2)))) := by
  have hR2 := hR
  obtain ⟨aL, aS, aD, aV, sv, dr, vw, lg, hP⟩ := hR
  have r0 := hP.1
  refine mh_ofW (cc := b_LW_delete) (n := 5) (ret := (some .int)) (hs := [(0, 10, 13, 13), (0, 10, 17, 15), (0, 10, 21, 27)]) (by decide) k390 ?_
  intro p e s m below meth c hx hb hr hml hown hts hlocks hnm hT hOK hadm
  have K0 : mh_K0 p s m ([.ref x0, .int (nI t), .int (nI key), .ref o0]).toArray c "MeldHostLaw" b_LW_delete dC dI dA := ⟨hx, hb, hown, hts, hOK.1, hOK.2.1⟩
  have hX := hOK.2.2.2.2
  have hb0 := hOK.2.2.2.1
  have hS : va_S (mh_A b) s.heap s.heap [] := va_S.rf
  have hl := lv_entry ([.ref x0, .int (nI t), .int (nI key), .ref o0]) (n := 5) (Nat.le_of_ble_eq_true rfl)
  rw [lg_entry_eq]
  generalize (lg_sl ([.ref x0, .int (nI t), .int (nI key), .ref o0]) ++ List.replicate (5 - (lg_sl ([.ref x0, .int (nI t), .int (nI key), .ref o0])).length) Slot.unset).toArray = ls at hl ⊢
  have hl : lv_has ls 5 [(0, .ref x0), (1, .int (nI t)), (2, .int (nI key)), (3, .ref o0)] := hl
  refine lv_aload_n hx hb d_LW_delete_0 rfl (lv_at hl 3 rfl) ?_
  refine lv_iconst (v := nI 0) hx hb d_LW_delete_1 (by decide) ?_
  refine lv_aload_n hx hb d_LW_delete_2 rfl (lv_at hl 0 rfl) ?_
  refine lv_iload_n hx hb d_LW_delete_3 rfl (lv_at hl 1 rfl) ?_
  refine lv_iload_n hx hb d_LW_delete_4 rfl (lv_at hl 2 rfl) ?_
  refine mh_callV (mh_sV (rest := [.int (nI 0), .ref o0]) (av := [.int (nI t), .int (nI key)]) K0 hX r0 rfl e_MH_delete l_LW_29 k392 k393 rfl rfl d_LW_delete_5) (c_MH_delete_0 hR2 hG ht hk hd h8) K0 hOK hml hl.1 e_MH_delete hX hS d_LW_delete_5 (Nat.le_of_ble_eq_true rfl) (Nat.le_of_ble_eq_true rfl) (Nat.le_of_ble_eq_true rfl) (Nat.le_of_ble_eq_true rfl) (Nat.le_of_ble_eq_true rfl) (fun w1 H locs ⟨hC, hFC⟩ hX hS => ?_)
  refine W.eq (g2 := F0 m 8 ls [.int (nI (iv_nw (st_wr x key (none : Option Int64)))), .int (nI 0), .ref o0]) rfl ?_
  refine lv_i2l hx hb d_LW_delete_8 rfl ?_
  refine mh_lastN K0 hX hS ((hFC 90 0 (by omega) (by omega)).trans hov) (by omega) (by omega) d_LW_delete_9 (fun H locs hX hS => ?_)
  have fs148 := mh_self hX
  refine lv_goto (tgt := 25) hx hb d_LW_delete_10 (by decide) ?_
  refine lv_iconst (v := nI 0) hx hb d_LW_delete_25 (by decide) ?_
  exact mh_iret K0 hr rfl hlocks hX hS (⟨rfl, hC.c (fun k i hk => mh_set_ne _ _ _ _ (by omega)), ⟨_, fs148, fun _ _ => pk_uLs.trans (nI_l (by have := (st_wr_ok (v := (none : Option Int64)) (hG.2.2.2.2 t x ht hd) hk h8).2.2.2.2.1; omega))⟩, fun k i h1 h2 => (mh_set_ne _ _ _ _ (by omega)).trans (hFC k i (by omega) (by omega))⟩) (Nat.le_of_ble_eq_true rfl) (Nat.le_of_ble_eq_true rfl) d_LW_delete_26
set_option maxHeartbeats 4000000 in
set_option maxRecDepth 100000 in
theorem c_LW_delete_3 {l : Launch} {b : Nat} {dC : Nat → ClassId} {dI : Nat → Nat → Nat} {dA : Nat → ClassId} {zs : Nat → Nat} {w : mh_w} (hl0 : l.stackTraces = false) {x0 : Nat} {g : st_G} (hR : rC dA zs w x0 g) (hG : sg_ok g) {o0 : Nat} {ov : Nat → Int64} (hov : w 90 0 = some (o0, .inl (dA 1, 1, .inr (.inl ov)))) {t : Nat} (ht : t < 16) {key : Nat} (hk : key < 256) {x : st_I} (hd : sg_dr g t = some x) (h8 : ¬ (st_pl (iv_wk x) key (iv_nw x)) < 8) : mh_Met l b dC dI dA zs y_LW_delete (mh_rm 9 20 1000) [.ref x0, .int (nI t), .int (nI key), .ref o0] w (mh_V (some (.int (nI 3))) (lW dA zs w x0 o0 false (3, 0, g))) := by
  have hR2 := hR
  obtain ⟨aL, aS, aD, aV, sv, dr, vw, lg, hP⟩ := hR
  have r0 := hP.1
  refine mh_ofW (cc := b_LW_delete) (n := 5) (ret := (some .int)) (hs := [(0, 10, 13, 13), (0, 10, 17, 15), (0, 10, 21, 27)]) (by decide) k390 ?_
  intro p e s m below meth c hx hb hr hml hown hts hlocks hnm hT hOK hadm
  have K0 : mh_K0 p s m ([.ref x0, .int (nI t), .int (nI key), .ref o0]).toArray c "MeldHostLaw" b_LW_delete dC dI dA := ⟨hx, hb, hown, hts, hOK.1, hOK.2.1⟩
  have hX := hOK.2.2.2.2
  have hb0 := hOK.2.2.2.1
  have hS : va_S (mh_A b) s.heap s.heap [] := va_S.rf
  have hl := lv_entry ([.ref x0, .int (nI t), .int (nI key), .ref o0]) (n := 5) (Nat.le_of_ble_eq_true rfl)
  rw [lg_entry_eq]
  generalize (lg_sl ([.ref x0, .int (nI t), .int (nI key), .ref o0]) ++ List.replicate (5 - (lg_sl ([.ref x0, .int (nI t), .int (nI key), .ref o0])).length) Slot.unset).toArray = ls at hl ⊢
  have hl : lv_has ls 5 [(0, .ref x0), (1, .int (nI t)), (2, .int (nI key)), (3, .ref o0)] := hl
  refine lv_aload_n hx hb d_LW_delete_0 rfl (lv_at hl 3 rfl) ?_
  refine lv_iconst (v := nI 0) hx hb d_LW_delete_1 (by decide) ?_
  refine lv_aload_n hx hb d_LW_delete_2 rfl (lv_at hl 0 rfl) ?_
  refine lv_iload_n hx hb d_LW_delete_3 rfl (lv_at hl 1 rfl) ?_
  refine lv_iload_n hx hb d_LW_delete_4 rfl (lv_at hl 2 rfl) ?_
  refine mh_callT (mh_sV (rest := [.int (nI 0), .ref o0]) (av := [.int (nI t), .int (nI key)]) K0 hX r0 rfl e_MH_delete l_LW_29 k392 k393 rfl rfl d_LW_delete_5) (c_MH_delete_3 hl0 hR2 hG ht hk hd h8) K0 hOK hml hl.1 e_MH_delete hX hS d_LW_delete_5 (Nat.le_of_ble_eq_true rfl) (Nat.le_of_ble_eq_true rfl) (Nat.le_of_ble_eq_true rfl) (Nat.le_of_ble_eq_true rfl) (Nat.le_of_ble_eq_true rfl) (fun q w1 H locs hq hw hX hS => ?_)
  obtain ⟨hC, hFC⟩ := hw
  refine mh_catch K0 hOK hX hq (E := "java/lang/IndexOutOfBoundsException") rfl hT (pre := [(0, 10, 13, 13), (0, 10, 17, 15)]) (x := (0, 10, 21, 27)) (suf := []) rfl (List.forall_mem_cons.mpr ⟨⟨"java/lang/IllegalArgumentException", by decide, k137, by decide⟩, List.forall_mem_cons.mpr ⟨⟨"java/lang/IllegalStateException", by decide, k138, by decide⟩, fun _ h => absurd h List.not_mem_nil⟩⟩) (by decide) (by decide) (by decide) k348 ?_
  refine W.eq (g2 := F0 m 21 ls [.ref q]) rfl ?_
  refine lv_astore (lv' := [(4, .ref q), (0, .ref x0), (1, .int (nI t)), (2, .int (nI key)), (3, .ref o0)]) hx hb d_LW_delete_21 hl (by decide) rfl (fun ls hl => ?_)
  refine lv_iconst (v := nI 3) hx hb d_LW_delete_23 (by decide) ?_
  exact mh_iret K0 hr rfl hlocks hX hS (⟨rfl, hC, ⟨ov, (hFC 90 0 (by omega) (by omega)).trans hov, fun _ h => by cases h⟩, fun k i h1 h2 => hFC k i (by omega) (by omega)⟩) (Nat.le_of_ble_eq_true rfl) (Nat.le_of_ble_eq_true rfl) d_LW_delete_24
set_option maxHeartbeats 4000000 in
set_option maxRecDepth 100000 in
theorem c_LW_part_0 {l : Launch} {b : Nat} {dC : Nat → ClassId} {dI : Nat → Nat → Nat} {dA : Nat → ClassId} {zs : Nat → Nat} {w : mh_w} {x0 : Nat} {g : st_G} (hR : rC dA zs w x0 g) (hG : sg_ok g) {o0 : Nat} {ov : Nat → Int64} (hov : w 90 0 = some (o0, .inl (dA 1, 1, .inr (.inl ov)))) {t : Nat} (ht : t < 16) {low high q9 : Nat} (h1 : low ≤ high) (h2 : high < 256) (h3 : q9 < 4) {x : st_I} (hd : sg_dr g t = some x) (h8 : iv_np x < 8) : mh_Met l b dC dI dA zs y_LW_part (mh_rm 9 20 1000) [.ref x0, .int (nI t), .int (nI low), .int (nI high), .int (nI q9), .ref o0] w (mh_V (some (.int (nI 0))) (lW dA zs w x0 o0 false (0, tl_a (st_vw (sg_lg g) x) low (high + 1 - low) (nI q9), (g.1, g.2.1, va_up (sg_dr g) t (some (st_prt x low high)), g.2.2.2)))) := by
  have hR2 := hR
  obtain ⟨aL, aS, aD, aV, sv, dr, vw, lg, hP⟩ := hR
  have r0 := hP.1
  refine mh_ofW (cc := b_LW_part) (n := 7) (ret := (some .int)) (hs := [(0, 13, 16, 13), (0, 13, 20, 15), (0, 13, 24, 27)]) (by decide) k406 ?_
  intro p e s m below meth c hx hb hr hml hown hts hlocks hnm hT hOK hadm
  have K0 : mh_K0 p s m ([.ref x0, .int (nI t), .int (nI low), .int (nI high), .int (nI q9), .ref o0]).toArray c "MeldHostLaw" b_LW_part dC dI dA := ⟨hx, hb, hown, hts, hOK.1, hOK.2.1⟩
  have hX := hOK.2.2.2.2
  have hb0 := hOK.2.2.2.1
  have hS : va_S (mh_A b) s.heap s.heap [] := va_S.rf
  have hl := lv_entry ([.ref x0, .int (nI t), .int (nI low), .int (nI high), .int (nI q9), .ref o0]) (n := 7) (Nat.le_of_ble_eq_true rfl)
  rw [lg_entry_eq]
  generalize (lg_sl ([.ref x0, .int (nI t), .int (nI low), .int (nI high), .int (nI q9), .ref o0]) ++ List.replicate (7 - (lg_sl ([.ref x0, .int (nI t), .int (nI low), .int (nI high), .int (nI q9), .ref o0])).length) Slot.unset).toArray = ls at hl ⊢
  have hl : lv_has ls 7 [(0, .ref x0), (1, .int (nI t)), (2, .int (nI low)), (3, .int (nI high)), (4, .int (nI q9)), (5, .ref o0)] := hl
  refine lv_aload hx hb d_LW_part_0 (lv_at hl 5 rfl) ?_
  refine lv_iconst (v := nI 0) hx hb d_LW_part_2 (by decide) ?_
  refine lv_aload_n hx hb d_LW_part_3 rfl (lv_at hl 0 rfl) ?_
  refine lv_iload_n hx hb d_LW_part_4 rfl (lv_at hl 1 rfl) ?_
  refine lv_iload_n hx hb d_LW_part_5 rfl (lv_at hl 2 rfl) ?_
  refine lv_iload_n hx hb d_LW_part_6 rfl (lv_at hl 3 rfl) ?_
  refine lv_iload hx hb d_LW_part_7 (lv_at hl 4 rfl) ?_
  refine mh_callV (mh_sV (rest := [.int (nI 0), .ref o0]) (av := [.int (nI t), .int (nI low), .int (nI high), .int (nI q9)]) K0 hX r0 rfl e_MH_part l_LW_33 k408 k409 rfl rfl d_LW_part_9) (c_MH_part_0 hR2 hG ht h1 h2 h3 hd h8) K0 hOK hml hl.1 e_MH_part hX hS d_LW_part_9 (Nat.le_of_ble_eq_true rfl) (Nat.le_of_ble_eq_true rfl) (Nat.le_of_ble_eq_true rfl) (Nat.le_of_ble_eq_true rfl) (Nat.le_of_ble_eq_true rfl) (fun w1 H locs ⟨hC, hFC⟩ hX hS => ?_)
  refine W.eq (g2 := F0 m 12 ls [.long (tl_a (st_vw (sg_lg g) x) low (high + 1 - low) (nI q9)), .int (nI 0), .ref o0]) rfl ?_
  refine mh_lastN K0 hX hS ((hFC 90 0 (by omega) (by omega)).trans hov) (by omega) (by omega) d_LW_part_12 (fun H locs hX hS => ?_)
  have fs149 := mh_self hX
  refine lv_goto (tgt := 28) hx hb d_LW_part_13 (by decide) ?_
  refine lv_iconst (v := nI 0) hx hb d_LW_part_28 (by decide) ?_
  exact mh_iret K0 hr rfl hlocks hX hS (⟨rfl, hC.c (fun k i hk => mh_set_ne _ _ _ _ (by omega)), ⟨_, fs149, fun _ _ => pk_uLs⟩, fun k i h1 h2 => (mh_set_ne _ _ _ _ (by omega)).trans (hFC k i (by omega) (by omega))⟩) (Nat.le_of_ble_eq_true rfl) (Nat.le_of_ble_eq_true rfl) d_LW_part_29
set_option maxHeartbeats 4000000 in
set_option maxRecDepth 100000 in
theorem c_LW_part_3 {l : Launch} {b : Nat} {dC : Nat → ClassId} {dI : Nat → Nat → Nat} {dA : Nat → ClassId} {zs : Nat → Nat} {w : mh_w} (hl0 : l.stackTraces = false) {x0 : Nat} {g : st_G} (hR : rC dA zs w x0 g) (hG : sg_ok g) {o0 : Nat} {ov : Nat → Int64} (hov : w 90 0 = some (o0, .inl (dA 1, 1, .inr (.inl ov)))) {t : Nat} (ht : t < 16) {low high q9 : Nat} (h1 : low ≤ high) (h2 : high < 256) (h3 : q9 < 4) {x : st_I} (hd : sg_dr g t = some x) (h8 : ¬ iv_np x < 8) : mh_Met l b dC dI dA zs y_LW_part (mh_rm 9 20 1000) [.ref x0, .int (nI t), .int (nI low), .int (nI high), .int (nI q9), .ref o0] w (mh_V (some (.int (nI 3))) (lW dA zs w x0 o0 false (3, 0, g))) := by
  have hR2 := hR
  obtain ⟨aL, aS, aD, aV, sv, dr, vw, lg, hP⟩ := hR
  have r0 := hP.1
  refine mh_ofW (cc := b_LW_part) (n := 7) (ret := (some .int)) (hs := [(0, 13, 16, 13), (0, 13, 20, 15), (0, 13, 24, 27)]) (by decide) k406 ?_
  intro p e s m below meth c hx hb hr hml hown hts hlocks hnm hT hOK hadm
  have K0 : mh_K0 p s m ([.ref x0, .int (nI t), .int (nI low), .int (nI high), .int (nI q9), .ref o0]).toArray c "MeldHostLaw" b_LW_part dC dI dA := ⟨hx, hb, hown, hts, hOK.1, hOK.2.1⟩
  have hX := hOK.2.2.2.2
  have hb0 := hOK.2.2.2.1
  have hS : va_S (mh_A b) s.heap s.heap [] := va_S.rf
  have hl := lv_entry ([.ref x0, .int (nI t), .int (nI low), .int (nI high), .int (nI q9), .ref o0]) (n := 7) (Nat.le_of_ble_eq_true rfl)
  rw [lg_entry_eq]
  generalize (lg_sl ([.ref x0, .int (nI t), .int (nI low), .int (nI high), .int (nI q9), .ref o0]) ++ List.replicate (7 - (lg_sl ([.ref x0, .int (nI t), .int (nI low), .int (nI high), .int (nI q9), .ref o0])).length) Slot.unset).toArray = ls at hl ⊢
  have hl : lv_has ls 7 [(0, .ref x0), (1, .int (nI t)), (2, .int (nI low)), (3, .int (nI high)), (4, .int (nI q9)), (5, .ref o0)] := hl
  refine lv_aload hx hb d_LW_part_0 (lv_at hl 5 rfl) ?_
  refine lv_iconst (v := nI 0) hx hb d_LW_part_2 (by decide) ?_
  refine lv_aload_n hx hb d_LW_part_3 rfl (lv_at hl 0 rfl) ?_
  refine lv_iload_n hx hb d_LW_part_4 rfl (lv_at hl 1 rfl) ?_
  refine lv_iload_n hx hb d_LW_part_5 rfl (lv_at hl 2 rfl) ?_
  refine lv_iload_n hx hb d_LW_part_6 rfl (lv_at hl 3 rfl) ?_
  refine lv_iload hx hb d_LW_part_7 (lv_at hl 4 rfl) ?_
  refine mh_callT (mh_sV (rest := [.int (nI 0), .ref o0]) (av := [.int (nI t), .int (nI low), .int (nI high), .int (nI q9)]) K0 hX r0 rfl e_MH_part l_LW_33 k408 k409 rfl rfl d_LW_part_9) (c_MH_part_3 hl0 hR2 hG ht h1 h2 h3 hd h8) K0 hOK hml hl.1 e_MH_part hX hS d_LW_part_9 (Nat.le_of_ble_eq_true rfl) (Nat.le_of_ble_eq_true rfl) (Nat.le_of_ble_eq_true rfl) (Nat.le_of_ble_eq_true rfl) (Nat.le_of_ble_eq_true rfl) (fun q w1 H locs hq hw hX hS => ?_)
  obtain ⟨hC, hFC⟩ := hw
  refine mh_catch K0 hOK hX hq (E := "java/lang/IndexOutOfBoundsException") rfl hT (pre := [(0, 13, 16, 13), (0, 13, 20, 15)]) (x := (0, 13, 24, 27)) (suf := []) rfl (List.forall_mem_cons.mpr ⟨⟨"java/lang/IllegalArgumentException", by decide, k137, by decide⟩, List.forall_mem_cons.mpr ⟨⟨"java/lang/IllegalStateException", by decide, k138, by decide⟩, fun _ h => absurd h List.not_mem_nil⟩⟩) (by decide) (by decide) (by decide) k348 ?_
  refine W.eq (g2 := F0 m 24 ls [.ref q]) rfl ?_
  refine lv_astore (lv' := [(6, .ref q), (0, .ref x0), (1, .int (nI t)), (2, .int (nI low)), (3, .int (nI high)), (4, .int (nI q9)), (5, .ref o0)]) hx hb d_LW_part_24 hl (by decide) rfl (fun ls hl => ?_)
  refine lv_iconst (v := nI 3) hx hb d_LW_part_26 (by decide) ?_
  exact mh_iret K0 hr rfl hlocks hX hS (⟨rfl, hC, ⟨ov, (hFC 90 0 (by omega) (by omega)).trans hov, fun _ h => by cases h⟩, fun k i h1 h2 => hFC k i (by omega) (by omega)⟩) (Nat.le_of_ble_eq_true rfl) (Nat.le_of_ble_eq_true rfl) d_LW_part_27
set_option maxHeartbeats 4000000 in
set_option maxRecDepth 100000 in
theorem c_LW_abort_0 {l : Launch} {b : Nat} {dC : Nat → ClassId} {dI : Nat → Nat → Nat} {dA : Nat → ClassId} {zs : Nat → Nat} {w : mh_w} {x0 : Nat} {g : st_G} (hR : rC dA zs w x0 g) (hG : sg_ok g) {o0 : Nat} {ov : Nat → Int64} (hov : w 90 0 = some (o0, .inl (dA 1, 1, .inr (.inl ov)))) {t : Nat} (ht : t < 16) {x : st_I} (hd : sg_dr g t = some x) : mh_Met l b dC dI dA zs y_LW_abort (mh_rm 9 20 1000) [.ref x0, .int (nI t)] w (mh_V (some (.int (nI 0))) (lW dA zs w x0 o0 true (0, 0, (g.1, g.2.1, va_up (sg_dr g) t none, g.2.2.2)))) := by
  have hR2 := hR
  obtain ⟨aL, aS, aD, aV, sv, dr, vw, lg, hP⟩ := hR
  have r0 := hP.1
  refine mh_ofW (cc := b_LW_abort) (n := 3) (ret := (some .int)) (hs := [(0, 5, 8, 13), (0, 5, 11, 15)]) (by decide) k536 ?_
  intro p e s m below meth c hx hb hr hml hown hts hlocks hnm hT hOK hadm
  have K0 : mh_K0 p s m ([.ref x0, .int (nI t)]).toArray c "MeldHostLaw" b_LW_abort dC dI dA := ⟨hx, hb, hown, hts, hOK.1, hOK.2.1⟩
  have hX := hOK.2.2.2.2
  have hb0 := hOK.2.2.2.1
  have hS : va_S (mh_A b) s.heap s.heap [] := va_S.rf
  have hl := lv_entry ([.ref x0, .int (nI t)]) (n := 3) (Nat.le_of_ble_eq_true rfl)
  rw [lg_entry_eq]
  generalize (lg_sl ([.ref x0, .int (nI t)]) ++ List.replicate (3 - (lg_sl ([.ref x0, .int (nI t)])).length) Slot.unset).toArray = ls at hl ⊢
  have hl : lv_has ls 3 [(0, .ref x0), (1, .int (nI t))] := hl
  refine lv_aload_n hx hb d_LW_abort_0 rfl (lv_at hl 0 rfl) ?_
  refine lv_iload_n hx hb d_LW_abort_1 rfl (lv_at hl 1 rfl) ?_
  refine mh_callV (mh_sV (rest := []) (av := [.int (nI t)]) K0 hX r0 rfl e_MH_abort l_LW_41 k538 k539 rfl rfl d_LW_abort_2) (c_MH_abort_0 hR2 hG ht hd) K0 hOK hml hl.1 e_MH_abort hX hS d_LW_abort_2 (Nat.le_of_ble_eq_true rfl) (Nat.le_of_ble_eq_true rfl) (Nat.le_of_ble_eq_true rfl) (Nat.le_of_ble_eq_true rfl) (Nat.le_of_ble_eq_true rfl) (fun w1 H locs ⟨hC, hFC⟩ hX hS => ?_)
  refine W.eq (g2 := F0 m 5 ls []) rfl ?_
  refine lv_goto (tgt := 14) hx hb d_LW_abort_5 (by decide) ?_
  refine lv_iconst (v := nI 0) hx hb d_LW_abort_14 (by decide) ?_
  exact mh_iret K0 hr rfl hlocks hX hS (⟨rfl, hC, ⟨ov, ((hFC 90 0 (by omega) (by omega)).trans hov), fun h => by cases h⟩, fun k i h1 h2 => hFC k i (by omega) (by omega)⟩) (Nat.le_of_ble_eq_true rfl) (Nat.le_of_ble_eq_true rfl) d_LW_abort_15
set_option maxHeartbeats 4000000 in
set_option maxRecDepth 100000 in
theorem c_LW_commit_00 {l : Launch} {b : Nat} {dC : Nat → ClassId} {dI : Nat → Nat → Nat} {dA : Nat → ClassId} {zs : Nat → Nat} {w : mh_w} {x0 : Nat} {g : st_G} (hR : rC dA zs w x0 g) (hG : sg_ok g) {o0 : Nat} {ov : Nat → Int64} (hov : w 90 0 = some (o0, .inl (dA 1, 1, .inr (.inl ov)))) {t : Nat} (ht : t < 16) {x : st_I} (hd : sg_dr g t = some x) (h0 : iv_nw x = 0) : mh_Met l b dC dI dA zs y_LW_commit (mh_rm 9 20 1000) [.ref x0, .int (nI t), .ref o0] w (mh_V (some (.int (nI 0))) (lW dA zs w x0 o0 false (0, -1, (g.1, g.2.1, va_up (sg_dr g) t none, g.2.2.2)))) := by
  have hR2 := hR
  obtain ⟨aL, aS, aD, aV, sv, dr, vw, lg, hP⟩ := hR
  have r0 := hP.1
  refine mh_ofW (cc := b_LW_commit) (n := 4) (ret := (some .int)) (hs := [(0, 9, 12, 13), (0, 9, 15, 15), (0, 9, 18, 27)]) (by decide) k442 ?_
  intro p e s m below meth c hx hb hr hml hown hts hlocks hnm hT hOK hadm
  have K0 : mh_K0 p s m ([.ref x0, .int (nI t), .ref o0]).toArray c "MeldHostLaw" b_LW_commit dC dI dA := ⟨hx, hb, hown, hts, hOK.1, hOK.2.1⟩
  have hX := hOK.2.2.2.2
  have hb0 := hOK.2.2.2.1
  have hS : va_S (mh_A b) s.heap s.heap [] := va_S.rf
  have hl := lv_entry ([.ref x0, .int (nI t), .ref o0]) (n := 4) (Nat.le_of_ble_eq_true rfl)
  rw [lg_entry_eq]
  generalize (lg_sl ([.ref x0, .int (nI t), .ref o0]) ++ List.replicate (4 - (lg_sl ([.ref x0, .int (nI t), .ref o0])).length) Slot.unset).toArray = ls at hl ⊢
  have hl : lv_has ls 4 [(0, .ref x0), (1, .int (nI t)), (2, .ref o0)] := hl
  refine lv_aload_n hx hb d_LW_commit_0 rfl (lv_at hl 2 rfl) ?_
  refine lv_iconst (v := nI 0) hx hb d_LW_commit_1 (by decide) ?_
  refine lv_aload_n hx hb d_LW_commit_2 rfl (lv_at hl 0 rfl) ?_
  refine lv_iload_n hx hb d_LW_commit_3 rfl (lv_at hl 1 rfl) ?_
  refine mh_callV (mh_sV (rest := [.int (nI 0), .ref o0]) (av := [.int (nI t)]) K0 hX r0 rfl e_MH_commit l_LW_37 k444 k445 rfl rfl d_LW_commit_4) (c_MH_commit_00 hR2 hG ht hd h0) K0 hOK hml hl.1 e_MH_commit hX hS d_LW_commit_4 (Nat.le_of_ble_eq_true rfl) (Nat.le_of_ble_eq_true rfl) (Nat.le_of_ble_eq_true rfl) (Nat.le_of_ble_eq_true rfl) (Nat.le_of_ble_eq_true rfl) (fun w1 H locs ⟨hC, hFC⟩ hX hS => ?_)
  refine W.eq (g2 := F0 m 7 ls [.int (-1), .int (nI 0), .ref o0]) rfl ?_
  refine lv_i2l hx hb d_LW_commit_7 rfl ?_
  refine mh_lastN K0 hX hS ((hFC 90 0 (by omega) (by omega)).trans hov) (by omega) (by omega) d_LW_commit_8 (fun H locs hX hS => ?_)
  have fs150 := mh_self hX
  refine lv_goto (tgt := 21) hx hb d_LW_commit_9 (by decide) ?_
  refine lv_iconst (v := nI 0) hx hb d_LW_commit_21 (by decide) ?_
  exact mh_iret K0 hr rfl hlocks hX hS (⟨rfl, hC.c (fun k i hk => mh_set_ne _ _ _ _ (by omega)), ⟨_, fs150, fun _ _ => pk_uLs.trans mh_m1⟩, fun k i h1 h2 => (mh_set_ne _ _ _ _ (by omega)).trans (hFC k i (by omega) (by omega))⟩) (Nat.le_of_ble_eq_true rfl) (Nat.le_of_ble_eq_true rfl) d_LW_commit_22
set_option maxHeartbeats 4000000 in
set_option maxRecDepth 100000 in
theorem c_LW_commit_3 {l : Launch} {b : Nat} {dC : Nat → ClassId} {dI : Nat → Nat → Nat} {dA : Nat → ClassId} {zs : Nat → Nat} {w : mh_w} (hl0 : l.stackTraces = false) {x0 : Nat} {g : st_G} (hR : rC dA zs w x0 g) (hG : sg_ok g) {o0 : Nat} {ov : Nat → Int64} (hov : w 90 0 = some (o0, .inl (dA 1, 1, .inr (.inl ov)))) {t : Nat} (ht : t < 16) {x : st_I} (hd : sg_dr g t = some x) (h0 : ¬ iv_nw x = 0) (hn : ¬ sg_n g < 400) : mh_Met l b dC dI dA zs y_LW_commit (mh_rm 9 20 1000) [.ref x0, .int (nI t), .ref o0] w (mh_V (some (.int (nI 3))) (lW dA zs w x0 o0 false (3, 0, g))) := by
  have hR2 := hR
  obtain ⟨aL, aS, aD, aV, sv, dr, vw, lg, hP⟩ := hR
  have r0 := hP.1
  refine mh_ofW (cc := b_LW_commit) (n := 4) (ret := (some .int)) (hs := [(0, 9, 12, 13), (0, 9, 15, 15), (0, 9, 18, 27)]) (by decide) k442 ?_
  intro p e s m below meth c hx hb hr hml hown hts hlocks hnm hT hOK hadm
  have K0 : mh_K0 p s m ([.ref x0, .int (nI t), .ref o0]).toArray c "MeldHostLaw" b_LW_commit dC dI dA := ⟨hx, hb, hown, hts, hOK.1, hOK.2.1⟩
  have hX := hOK.2.2.2.2
  have hb0 := hOK.2.2.2.1
  have hS : va_S (mh_A b) s.heap s.heap [] := va_S.rf
  have hl := lv_entry ([.ref x0, .int (nI t), .ref o0]) (n := 4) (Nat.le_of_ble_eq_true rfl)
  rw [lg_entry_eq]
  generalize (lg_sl ([.ref x0, .int (nI t), .ref o0]) ++ List.replicate (4 - (lg_sl ([.ref x0, .int (nI t), .ref o0])).length) Slot.unset).toArray = ls at hl ⊢
  have hl : lv_has ls 4 [(0, .ref x0), (1, .int (nI t)), (2, .ref o0)] := hl
  refine lv_aload_n hx hb d_LW_commit_0 rfl (lv_at hl 2 rfl) ?_
  refine lv_iconst (v := nI 0) hx hb d_LW_commit_1 (by decide) ?_
  refine lv_aload_n hx hb d_LW_commit_2 rfl (lv_at hl 0 rfl) ?_
  refine lv_iload_n hx hb d_LW_commit_3 rfl (lv_at hl 1 rfl) ?_
  refine mh_callT (mh_sV (rest := [.int (nI 0), .ref o0]) (av := [.int (nI t)]) K0 hX r0 rfl e_MH_commit l_LW_37 k444 k445 rfl rfl d_LW_commit_4) (c_MH_commit_3 hl0 hR2 hG ht hd h0 hn) K0 hOK hml hl.1 e_MH_commit hX hS d_LW_commit_4 (Nat.le_of_ble_eq_true rfl) (Nat.le_of_ble_eq_true rfl) (Nat.le_of_ble_eq_true rfl) (Nat.le_of_ble_eq_true rfl) (Nat.le_of_ble_eq_true rfl) (fun q w1 H locs hq hw hX hS => ?_)
  obtain ⟨hC, hFC⟩ := hw
  refine mh_catch K0 hOK hX hq (E := "java/lang/IndexOutOfBoundsException") rfl hT (pre := [(0, 9, 12, 13), (0, 9, 15, 15)]) (x := (0, 9, 18, 27)) (suf := []) rfl (List.forall_mem_cons.mpr ⟨⟨"java/lang/IllegalArgumentException", by decide, k137, by decide⟩, List.forall_mem_cons.mpr ⟨⟨"java/lang/IllegalStateException", by decide, k138, by decide⟩, fun _ h => absurd h List.not_mem_nil⟩⟩) (by decide) (by decide) (by decide) k348 ?_
  refine W.eq (g2 := F0 m 18 ls [.ref q]) rfl ?_
  refine lv_astore_n (lv' := [(3, .ref q), (0, .ref x0), (1, .int (nI t)), (2, .ref o0)]) hx hb d_LW_commit_18 rfl hl (by decide) rfl (fun ls hl => ?_)
  refine lv_iconst (v := nI 3) hx hb d_LW_commit_19 (by decide) ?_
  exact mh_iret K0 hr rfl hlocks hX hS (⟨rfl, hC, ⟨ov, (hFC 90 0 (by omega) (by omega)).trans hov, fun _ h => by cases h⟩, fun k i h1 h2 => hFC k i (by omega) (by omega)⟩) (Nat.le_of_ble_eq_true rfl) (Nat.le_of_ble_eq_true rfl) d_LW_commit_20
set_option maxHeartbeats 4000000 in
set_option maxRecDepth 100000 in
theorem c_LW_commit_0 {l : Launch} {b : Nat} {dC : Nat → ClassId} {dI : Nat → Nat → Nat} {dA : Nat → ClassId} {zs : Nat → Nat} {w : mh_w} {x0 : Nat} {g : st_G} (hR : rC dA zs w x0 g) (hG : sg_ok g) {o0 : Nat} {ov : Nat → Int64} (hov : w 90 0 = some (o0, .inl (dA 1, 1, .inr (.inl ov)))) {t : Nat} (ht : t < 16) {x : st_I} (hd : sg_dr g t = some x) (h0 : ¬ iv_nw x = 0) (hn : sg_n g < 400) : mh_Met l b dC dI dA zs y_LW_commit (mh_rm 9 20 1000) [.ref x0, .int (nI t), .ref o0] w (mh_V (some (.int (nI 0))) (lW dA zs w x0 o0 false (0, lN (sg_n g), ((sg_n g + 1, va_up (sg_lg g) (sg_n g) (st_lgd g x)), g.2.1, va_up (sg_dr g) t none, g.2.2.2)))) := by
  have hR2 := hR
  obtain ⟨aL, aS, aD, aV, sv, dr, vw, lg, hP⟩ := hR
  have r0 := hP.1
  refine mh_ofW (cc := b_LW_commit) (n := 4) (ret := (some .int)) (hs := [(0, 9, 12, 13), (0, 9, 15, 15), (0, 9, 18, 27)]) (by decide) k442 ?_
  intro p e s m below meth c hx hb hr hml hown hts hlocks hnm hT hOK hadm
  have K0 : mh_K0 p s m ([.ref x0, .int (nI t), .ref o0]).toArray c "MeldHostLaw" b_LW_commit dC dI dA := ⟨hx, hb, hown, hts, hOK.1, hOK.2.1⟩
  have hX := hOK.2.2.2.2
  have hb0 := hOK.2.2.2.1
  have hS : va_S (mh_A b) s.heap s.heap [] := va_S.rf
  have hl := lv_entry ([.ref x0, .int (nI t), .ref o0]) (n := 4) (Nat.le_of_ble_eq_true rfl)
  rw [lg_entry_eq]
  generalize (lg_sl ([.ref x0, .int (nI t), .ref o0]) ++ List.replicate (4 - (lg_sl ([.ref x0, .int (nI t), .ref o0])).length) Slot.unset).toArray = ls at hl ⊢
  have hl : lv_has ls 4 [(0, .ref x0), (1, .int (nI t)), (2, .ref o0)] := hl
  refine lv_aload_n hx hb d_LW_commit_0 rfl (lv_at hl 2 rfl) ?_
  refine lv_iconst (v := nI 0) hx hb d_LW_commit_1 (by decide) ?_
  refine lv_aload_n hx hb d_LW_commit_2 rfl (lv_at hl 0 rfl) ?_
  refine lv_iload_n hx hb d_LW_commit_3 rfl (lv_at hl 1 rfl) ?_
  refine mh_callV (mh_sV (rest := [.int (nI 0), .ref o0]) (av := [.int (nI t)]) K0 hX r0 rfl e_MH_commit l_LW_37 k444 k445 rfl rfl d_LW_commit_4) (c_MH_commit_0 hR2 hG ht hd h0 hn) K0 hOK hml hl.1 e_MH_commit hX hS d_LW_commit_4 (Nat.le_of_ble_eq_true rfl) (Nat.le_of_ble_eq_true rfl) (Nat.le_of_ble_eq_true rfl) (Nat.le_of_ble_eq_true rfl) (Nat.le_of_ble_eq_true rfl) (fun w1 H locs ⟨hC, hFC⟩ hX hS => ?_)
  refine W.eq (g2 := F0 m 7 ls [.int (nI (sg_n g)), .int (nI 0), .ref o0]) rfl ?_
  refine lv_i2l hx hb d_LW_commit_7 rfl ?_
  refine mh_lastN K0 hX hS ((hFC 90 0 (by omega) (by omega)).trans hov) (by omega) (by omega) d_LW_commit_8 (fun H locs hX hS => ?_)
  have fs151 := mh_self hX
  refine lv_goto (tgt := 21) hx hb d_LW_commit_9 (by decide) ?_
  refine lv_iconst (v := nI 0) hx hb d_LW_commit_21 (by decide) ?_
  exact mh_iret K0 hr rfl hlocks hX hS (⟨rfl, hC.c (fun k i hk => mh_set_ne _ _ _ _ (by omega)), ⟨_, fs151, fun _ _ => pk_uLs.trans (nI_l (by omega))⟩, fun k i h1 h2 => (mh_set_ne _ _ _ _ (by omega)).trans (hFC k i (by omega) (by omega))⟩) (Nat.le_of_ble_eq_true rfl) (Nat.le_of_ble_eq_true rfl) d_LW_commit_22
set_option maxHeartbeats 4000000 in
set_option maxRecDepth 100000 in
theorem c_LW_advance_0 {l : Launch} {b : Nat} {dC : Nat → ClassId} {dI : Nat → Nat → Nat} {dA : Nat → ClassId} {zs : Nat → Nat} {w : mh_w} {x0 : Nat} {g : st_G} (hR : rC dA zs w x0 g) (hG : sg_ok g) {o0 : Nat} {ov : Nat → Int64} (hov : w 90 0 = some (o0, .inl (dA 1, 1, .inr (.inl ov)))) {u : Nat} (hu : u < 4) {k9 : Nat} (hk9 : k9 < 401) : mh_Met l b dC dI dA zs y_LW_advance (mh_rm 9 20 1000) [.ref x0, .int (nI u), .int (nI k9), .ref o0] w (mh_V (some (.int (nI 0))) (lW dA zs w x0 o0 false (0, lN (min k9 (sg_n g - sg_at g u)), (g.1, va_up (sg_at g) u (sg_at g u + (min k9 (sg_n g - sg_at g u))), g.2.2)))) := by
  have hR2 := hR
  obtain ⟨aL, aS, aD, aV, sv, dr, vw, lg, hP⟩ := hR
  have r0 := hP.1
  refine mh_ofW (cc := b_LW_advance) (n := 5) (ret := (some .int)) (hs := [(0, 10, 13, 13)]) (by decide) k543 ?_
  intro p e s m below meth c hx hb hr hml hown hts hlocks hnm hT hOK hadm
  have K0 : mh_K0 p s m ([.ref x0, .int (nI u), .int (nI k9), .ref o0]).toArray c "MeldHostLaw" b_LW_advance dC dI dA := ⟨hx, hb, hown, hts, hOK.1, hOK.2.1⟩
  have hX := hOK.2.2.2.2
  have hb0 := hOK.2.2.2.1
  have hS : va_S (mh_A b) s.heap s.heap [] := va_S.rf
  have hl := lv_entry ([.ref x0, .int (nI u), .int (nI k9), .ref o0]) (n := 5) (Nat.le_of_ble_eq_true rfl)
  rw [lg_entry_eq]
  generalize (lg_sl ([.ref x0, .int (nI u), .int (nI k9), .ref o0]) ++ List.replicate (5 - (lg_sl ([.ref x0, .int (nI u), .int (nI k9), .ref o0])).length) Slot.unset).toArray = ls at hl ⊢
  have hl : lv_has ls 5 [(0, .ref x0), (1, .int (nI u)), (2, .int (nI k9)), (3, .ref o0)] := hl
  refine lv_aload_n hx hb d_LW_advance_0 rfl (lv_at hl 3 rfl) ?_
  refine lv_iconst (v := nI 0) hx hb d_LW_advance_1 (by decide) ?_
  refine lv_aload_n hx hb d_LW_advance_2 rfl (lv_at hl 0 rfl) ?_
  refine lv_iload_n hx hb d_LW_advance_3 rfl (lv_at hl 1 rfl) ?_
  refine lv_iload_n hx hb d_LW_advance_4 rfl (lv_at hl 2 rfl) ?_
  refine mh_callV (mh_sV (rest := [.int (nI 0), .ref o0]) (av := [.int (nI u), .int (nI k9)]) K0 hX r0 rfl e_MH_advance l_LW_45 k545 k546 rfl rfl d_LW_advance_5) (c_MH_advance_0 hR2 hG hu hk9) K0 hOK hml hl.1 e_MH_advance hX hS d_LW_advance_5 (Nat.le_of_ble_eq_true rfl) (Nat.le_of_ble_eq_true rfl) (Nat.le_of_ble_eq_true rfl) (Nat.le_of_ble_eq_true rfl) (Nat.le_of_ble_eq_true rfl) (fun w1 H locs ⟨hC, hFC⟩ hX hS => ?_)
  refine W.eq (g2 := F0 m 8 ls [.int (nI (min k9 (sg_n g - sg_at g u))), .int (nI 0), .ref o0]) rfl ?_
  refine lv_i2l hx hb d_LW_advance_8 rfl ?_
  refine mh_lastN K0 hX hS ((hFC 90 0 (by omega) (by omega)).trans hov) (by omega) (by omega) d_LW_advance_9 (fun H locs hX hS => ?_)
  have fs152 := mh_self hX
  refine lv_goto (tgt := 17) hx hb d_LW_advance_10 (by decide) ?_
  refine lv_iconst (v := nI 0) hx hb d_LW_advance_17 (by decide) ?_
  exact mh_iret K0 hr rfl hlocks hX hS (⟨rfl, hC.c (fun k i hk => mh_set_ne _ _ _ _ (by omega)), ⟨_, fs152, fun _ _ => pk_uLs.trans (nI_l (by omega))⟩, fun k i h1 h2 => (mh_set_ne _ _ _ _ (by omega)).trans (hFC k i (by omega) (by omega))⟩) (Nat.le_of_ble_eq_true rfl) (Nat.le_of_ble_eq_true rfl) d_LW_advance_18
set_option maxHeartbeats 4000000 in
set_option maxRecDepth 100000 in
theorem c_LW_restart_0 {l : Launch} {b : Nat} {dC : Nat → ClassId} {dI : Nat → Nat → Nat} {dA : Nat → ClassId} {zs : Nat → Nat} {w : mh_w} {x0 : Nat} {g : st_G} (hR : rC dA zs w x0 g) (hG : sg_ok g) {o0 : Nat} {ov : Nat → Int64} (hov : w 90 0 = some (o0, .inl (dA 1, 1, .inr (.inl ov)))) {u : Nat} (hu : u < 4) (h4 : sg_rs g < 4) : mh_Met l b dC dI dA zs y_LW_restart (mh_rm 9 20 1000) [.ref x0, .int (nI u)] w (mh_V (some (.int (nI 0))) (lW dA zs w x0 o0 true (0, 0, (g.1, va_up (sg_at g) u 0, (fun t => match sg_dr g t with | some x => if iv_sv x = u then none else some x | none => none), sg_rs g + 1)))) := by
  have hR2 := hR
  obtain ⟨aL, aS, aD, aV, sv, dr, vw, lg, hP⟩ := hR
  have r0 := hP.1
  refine mh_ofW (cc := b_LW_restart) (n := 3) (ret := (some .int)) (hs := [(0, 5, 8, 13), (0, 5, 11, 15)]) (by decide) k565 ?_
  intro p e s m below meth c hx hb hr hml hown hts hlocks hnm hT hOK hadm
  have K0 : mh_K0 p s m ([.ref x0, .int (nI u)]).toArray c "MeldHostLaw" b_LW_restart dC dI dA := ⟨hx, hb, hown, hts, hOK.1, hOK.2.1⟩
  have hX := hOK.2.2.2.2
  have hb0 := hOK.2.2.2.1
  have hS : va_S (mh_A b) s.heap s.heap [] := va_S.rf
  have hl := lv_entry ([.ref x0, .int (nI u)]) (n := 3) (Nat.le_of_ble_eq_true rfl)
  rw [lg_entry_eq]
  generalize (lg_sl ([.ref x0, .int (nI u)]) ++ List.replicate (3 - (lg_sl ([.ref x0, .int (nI u)])).length) Slot.unset).toArray = ls at hl ⊢
  have hl : lv_has ls 3 [(0, .ref x0), (1, .int (nI u))] := hl
  refine lv_aload_n hx hb d_LW_restart_0 rfl (lv_at hl 0 rfl) ?_
  refine lv_iload_n hx hb d_LW_restart_1 rfl (lv_at hl 1 rfl) ?_
  refine mh_callV (mh_sV (rest := []) (av := [.int (nI u)]) K0 hX r0 rfl e_MH_restart l_LW_48 k567 k568 rfl rfl d_LW_restart_2) (c_MH_restart_0 hR2 hG hu h4) K0 hOK hml hl.1 e_MH_restart hX hS d_LW_restart_2 (Nat.le_of_ble_eq_true rfl) (Nat.le_of_ble_eq_true rfl) (Nat.le_of_ble_eq_true rfl) (Nat.le_of_ble_eq_true rfl) (Nat.le_of_ble_eq_true rfl) (fun w1 H locs ⟨hC, hFC⟩ hX hS => ?_)
  refine W.eq (g2 := F0 m 5 ls []) rfl ?_
  refine lv_goto (tgt := 14) hx hb d_LW_restart_5 (by decide) ?_
  refine lv_iconst (v := nI 0) hx hb d_LW_restart_14 (by decide) ?_
  exact mh_iret K0 hr rfl hlocks hX hS (⟨rfl, hC, ⟨ov, ((hFC 90 0 (by omega) (by omega)).trans hov), fun h => by cases h⟩, fun k i h1 h2 => hFC k i (by omega) (by omega)⟩) (Nat.le_of_ble_eq_true rfl) (Nat.le_of_ble_eq_true rfl) d_LW_restart_15
set_option maxHeartbeats 4000000 in
set_option maxRecDepth 100000 in
theorem c_LW_restart_2 {l : Launch} {b : Nat} {dC : Nat → ClassId} {dI : Nat → Nat → Nat} {dA : Nat → ClassId} {zs : Nat → Nat} {w : mh_w} (hl0 : l.stackTraces = false) {x0 : Nat} {g : st_G} (hR : rC dA zs w x0 g) (hG : sg_ok g) {o0 : Nat} {ov : Nat → Int64} (hov : w 90 0 = some (o0, .inl (dA 1, 1, .inr (.inl ov)))) {u : Nat} (hu : u < 4) (h4 : ¬ sg_rs g < 4) : mh_Met l b dC dI dA zs y_LW_restart (mh_rm 9 20 1000) [.ref x0, .int (nI u)] w (mh_V (some (.int (nI 2))) (lW dA zs w x0 o0 true (2, 0, g))) := by
  have hR2 := hR
  obtain ⟨aL, aS, aD, aV, sv, dr, vw, lg, hP⟩ := hR
  have r0 := hP.1
  refine mh_ofW (cc := b_LW_restart) (n := 3) (ret := (some .int)) (hs := [(0, 5, 8, 13), (0, 5, 11, 15)]) (by decide) k565 ?_
  intro p e s m below meth c hx hb hr hml hown hts hlocks hnm hT hOK hadm
  have K0 : mh_K0 p s m ([.ref x0, .int (nI u)]).toArray c "MeldHostLaw" b_LW_restart dC dI dA := ⟨hx, hb, hown, hts, hOK.1, hOK.2.1⟩
  have hX := hOK.2.2.2.2
  have hb0 := hOK.2.2.2.1
  have hS : va_S (mh_A b) s.heap s.heap [] := va_S.rf
  have hl := lv_entry ([.ref x0, .int (nI u)]) (n := 3) (Nat.le_of_ble_eq_true rfl)
  rw [lg_entry_eq]
  generalize (lg_sl ([.ref x0, .int (nI u)]) ++ List.replicate (3 - (lg_sl ([.ref x0, .int (nI u)])).length) Slot.unset).toArray = ls at hl ⊢
  have hl : lv_has ls 3 [(0, .ref x0), (1, .int (nI u))] := hl
  refine lv_aload_n hx hb d_LW_restart_0 rfl (lv_at hl 0 rfl) ?_
  refine lv_iload_n hx hb d_LW_restart_1 rfl (lv_at hl 1 rfl) ?_
  refine mh_callT (mh_sV (rest := []) (av := [.int (nI u)]) K0 hX r0 rfl e_MH_restart l_LW_48 k567 k568 rfl rfl d_LW_restart_2) (c_MH_restart_2 hl0 hR2 hG hu h4) K0 hOK hml hl.1 e_MH_restart hX hS d_LW_restart_2 (Nat.le_of_ble_eq_true rfl) (Nat.le_of_ble_eq_true rfl) (Nat.le_of_ble_eq_true rfl) (Nat.le_of_ble_eq_true rfl) (Nat.le_of_ble_eq_true rfl) (fun q w1 H locs hq hw hX hS => ?_)
  obtain ⟨hC, hFC⟩ := hw
  refine mh_catch K0 hOK hX hq (E := "java/lang/IllegalStateException") rfl hT (pre := [(0, 5, 8, 13)]) (x := (0, 5, 11, 15)) (suf := []) rfl (List.forall_mem_cons.mpr ⟨⟨"java/lang/IllegalArgumentException", by decide, k137, by decide⟩, fun _ h => absurd h List.not_mem_nil⟩) (by decide) (by decide) (by decide) k138 ?_
  refine W.eq (g2 := F0 m 11 ls [.ref q]) rfl ?_
  refine lv_astore_n (lv' := [(2, .ref q), (0, .ref x0), (1, .int (nI u))]) hx hb d_LW_restart_11 rfl hl (by decide) rfl (fun ls hl => ?_)
  refine lv_iconst (v := nI 2) hx hb d_LW_restart_12 (by decide) ?_
  exact mh_iret K0 hr rfl hlocks hX hS (⟨rfl, hC, ⟨ov, (hFC 90 0 (by omega) (by omega)).trans hov, fun _ h => by cases h⟩, fun k i h1 h2 => hFC k i (by omega) (by omega)⟩) (Nat.le_of_ble_eq_true rfl) (Nat.le_of_ble_eq_true rfl) d_LW_restart_13
set_option maxHeartbeats 4000000 in
set_option maxRecDepth 100000 in
theorem c_LW_state_0 {l : Launch} {b : Nat} {dC : Nat → ClassId} {dI : Nat → Nat → Nat} {dA : Nat → ClassId} {zs : Nat → Nat} {w : mh_w} {x0 : Nat} {g : st_G} (hR : rC dA zs w x0 g) (hG : sg_ok g) {o0 : Nat} {ov : Nat → Int64} (hov : w 90 0 = some (o0, .inl (dA 1, 1, .inr (.inl ov)))) {u : Nat} (hu : u < 4) {key : Nat} (hk : key < 256) {v : Int64} (hv : (st_st (sg_lg g) (sg_at g u)) key = some v) : mh_Met l b dC dI dA zs y_LW_state (mh_rm 9 20 1000) [.ref x0, .int (nI u), .int (nI key), .ref o0] w (mh_V (some (.int (nI 0))) (lW dA zs w x0 o0 false (0, v, g))) := by
  have hR2 := hR
  obtain ⟨aL, aS, aD, aV, sv, dr, vw, lg, hP⟩ := hR
  have r0 := hP.1
  refine mh_ofW (cc := b_LW_state) (n := 5) (ret := (some .int)) (hs := [(0, 9, 12, 13), (0, 9, 16, 21)]) (by decide) k588 ?_
  intro p e s m below meth c hx hb hr hml hown hts hlocks hnm hT hOK hadm
  have K0 : mh_K0 p s m ([.ref x0, .int (nI u), .int (nI key), .ref o0]).toArray c "MeldHostLaw" b_LW_state dC dI dA := ⟨hx, hb, hown, hts, hOK.1, hOK.2.1⟩
  have hX := hOK.2.2.2.2
  have hb0 := hOK.2.2.2.1
  have hS : va_S (mh_A b) s.heap s.heap [] := va_S.rf
  have hl := lv_entry ([.ref x0, .int (nI u), .int (nI key), .ref o0]) (n := 5) (Nat.le_of_ble_eq_true rfl)
  rw [lg_entry_eq]
  generalize (lg_sl ([.ref x0, .int (nI u), .int (nI key), .ref o0]) ++ List.replicate (5 - (lg_sl ([.ref x0, .int (nI u), .int (nI key), .ref o0])).length) Slot.unset).toArray = ls at hl ⊢
  have hl : lv_has ls 5 [(0, .ref x0), (1, .int (nI u)), (2, .int (nI key)), (3, .ref o0)] := hl
  refine lv_aload_n hx hb d_LW_state_0 rfl (lv_at hl 3 rfl) ?_
  refine lv_iconst (v := nI 0) hx hb d_LW_state_1 (by decide) ?_
  refine lv_aload_n hx hb d_LW_state_2 rfl (lv_at hl 0 rfl) ?_
  refine lv_iload_n hx hb d_LW_state_3 rfl (lv_at hl 1 rfl) ?_
  refine lv_iload_n hx hb d_LW_state_4 rfl (lv_at hl 2 rfl) ?_
  refine mh_callV (mh_sV (rest := [.int (nI 0), .ref o0]) (av := [.int (nI u), .int (nI key)]) K0 hX r0 rfl e_MH_state l_LW_51 k590 k591 rfl rfl d_LW_state_5) (c_MH_state_0 hR2 hG hu hk hv) K0 hOK hml hl.1 e_MH_state hX hS d_LW_state_5 (Nat.le_of_ble_eq_true rfl) (Nat.le_of_ble_eq_true rfl) (Nat.le_of_ble_eq_true rfl) (Nat.le_of_ble_eq_true rfl) (Nat.le_of_ble_eq_true rfl) (fun w1 H locs ⟨hC, hFC⟩ hX hS => ?_)
  refine W.eq (g2 := F0 m 8 ls [.long v, .int (nI 0), .ref o0]) rfl ?_
  refine mh_lastN K0 hX hS ((hFC 90 0 (by omega) (by omega)).trans hov) (by omega) (by omega) d_LW_state_8 (fun H locs hX hS => ?_)
  have fs153 := mh_self hX
  refine lv_goto (tgt := 20) hx hb d_LW_state_9 (by decide) ?_
  refine lv_iconst (v := nI 0) hx hb d_LW_state_20 (by decide) ?_
  exact mh_iret K0 hr rfl hlocks hX hS (⟨rfl, hC.c (fun k i hk => mh_set_ne _ _ _ _ (by omega)), ⟨_, fs153, fun _ _ => pk_uLs⟩, fun k i h1 h2 => (mh_set_ne _ _ _ _ (by omega)).trans (hFC k i (by omega) (by omega))⟩) (Nat.le_of_ble_eq_true rfl) (Nat.le_of_ble_eq_true rfl) d_LW_state_21
set_option maxHeartbeats 4000000 in
set_option maxRecDepth 100000 in
theorem c_LW_state_2 {l : Launch} {b : Nat} {dC : Nat → ClassId} {dI : Nat → Nat → Nat} {dA : Nat → ClassId} {zs : Nat → Nat} {w : mh_w} (hl0 : l.stackTraces = false) {x0 : Nat} {g : st_G} (hR : rC dA zs w x0 g) (hG : sg_ok g) {o0 : Nat} {ov : Nat → Int64} (hov : w 90 0 = some (o0, .inl (dA 1, 1, .inr (.inl ov)))) {u : Nat} (hu : u < 4) {key : Nat} (hk : key < 256) (hv : (st_st (sg_lg g) (sg_at g u)) key = none) : mh_Met l b dC dI dA zs y_LW_state (mh_rm 9 20 1000) [.ref x0, .int (nI u), .int (nI key), .ref o0] w (mh_V (some (.int (nI 2))) (lW dA zs w x0 o0 false (2, 0, g))) := by
  have hR2 := hR
  obtain ⟨aL, aS, aD, aV, sv, dr, vw, lg, hP⟩ := hR
  have r0 := hP.1
  refine mh_ofW (cc := b_LW_state) (n := 5) (ret := (some .int)) (hs := [(0, 9, 12, 13), (0, 9, 16, 21)]) (by decide) k588 ?_
  intro p e s m below meth c hx hb hr hml hown hts hlocks hnm hT hOK hadm
  have K0 : mh_K0 p s m ([.ref x0, .int (nI u), .int (nI key), .ref o0]).toArray c "MeldHostLaw" b_LW_state dC dI dA := ⟨hx, hb, hown, hts, hOK.1, hOK.2.1⟩
  have hX := hOK.2.2.2.2
  have hb0 := hOK.2.2.2.1
  have hS : va_S (mh_A b) s.heap s.heap [] := va_S.rf
  have hl := lv_entry ([.ref x0, .int (nI u), .int (nI key), .ref o0]) (n := 5) (Nat.le_of_ble_eq_true rfl)
  rw [lg_entry_eq]
  generalize (lg_sl ([.ref x0, .int (nI u), .int (nI key), .ref o0]) ++ List.replicate (5 - (lg_sl ([.ref x0, .int (nI u), .int (nI key), .ref o0])).length) Slot.unset).toArray = ls at hl ⊢
  have hl : lv_has ls 5 [(0, .ref x0), (1, .int (nI u)), (2, .int (nI key)), (3, .ref o0)] := hl
  refine lv_aload_n hx hb d_LW_state_0 rfl (lv_at hl 3 rfl) ?_
  refine lv_iconst (v := nI 0) hx hb d_LW_state_1 (by decide) ?_
  refine lv_aload_n hx hb d_LW_state_2 rfl (lv_at hl 0 rfl) ?_
  refine lv_iload_n hx hb d_LW_state_3 rfl (lv_at hl 1 rfl) ?_
  refine lv_iload_n hx hb d_LW_state_4 rfl (lv_at hl 2 rfl) ?_
  refine mh_callT (mh_sV (rest := [.int (nI 0), .ref o0]) (av := [.int (nI u), .int (nI key)]) K0 hX r0 rfl e_MH_state l_LW_51 k590 k591 rfl rfl d_LW_state_5) (c_MH_state_2 hl0 hR2 hG hu hk hv) K0 hOK hml hl.1 e_MH_state hX hS d_LW_state_5 (Nat.le_of_ble_eq_true rfl) (Nat.le_of_ble_eq_true rfl) (Nat.le_of_ble_eq_true rfl) (Nat.le_of_ble_eq_true rfl) (Nat.le_of_ble_eq_true rfl) (fun q w1 H locs hq hw hX hS => ?_)
  obtain ⟨hC, hFC⟩ := hw
  refine mh_catch K0 hOK hX hq (E := "java/lang/UnsupportedOperationException") rfl hT (pre := [(0, 9, 12, 13)]) (x := (0, 9, 16, 21)) (suf := []) rfl (List.forall_mem_cons.mpr ⟨⟨"java/lang/IllegalArgumentException", by decide, k137, by decide⟩, fun _ h => absurd h List.not_mem_nil⟩) (by decide) (by decide) (by decide) k296 ?_
  refine W.eq (g2 := F0 m 16 ls [.ref q]) rfl ?_
  refine lv_astore (lv' := [(4, .ref q), (0, .ref x0), (1, .int (nI u)), (2, .int (nI key)), (3, .ref o0)]) hx hb d_LW_state_16 hl (by decide) rfl (fun ls hl => ?_)
  refine lv_iconst (v := nI 2) hx hb d_LW_state_18 (by decide) ?_
  exact mh_iret K0 hr rfl hlocks hX hS (⟨rfl, hC, ⟨ov, (hFC 90 0 (by omega) (by omega)).trans hov, fun _ h => by cases h⟩, fun k i h1 h2 => hFC k i (by omega) (by omega)⟩) (Nat.le_of_ble_eq_true rfl) (Nat.le_of_ble_eq_true rfl) d_LW_state_19
set_option maxHeartbeats 4000000 in
set_option maxRecDepth 100000 in
theorem c_LW_look_0 {l : Launch} {b : Nat} {dC : Nat → ClassId} {dI : Nat → Nat → Nat} {dA : Nat → ClassId} {zs : Nat → Nat} {w : mh_w} {x0 : Nat} {g : st_G} (hR : rC dA zs w x0 g) (hG : sg_ok g) {o0 : Nat} {ov : Nat → Int64} (hov : w 90 0 = some (o0, .inl (dA 1, 1, .inr (.inl ov)))) {u : Nat} (hu : u < 4) {low high q9 : Nat} (h1 : low ≤ high) (h2 : high < 256) (h3 : q9 < 4) : mh_Met l b dC dI dA zs y_LW_look (mh_rm 9 20 1000) [.ref x0, .int (nI u), .int (nI low), .int (nI high), .int (nI q9), .ref o0] w (mh_V (some (.int (nI 0))) (lW dA zs w x0 o0 false (0, tl_a (st_st (sg_lg g) (sg_at g u)) low (high + 1 - low) (nI q9), g))) := by
  have hR2 := hR
  obtain ⟨aL, aS, aD, aV, sv, dr, vw, lg, hP⟩ := hR
  have r0 := hP.1
  refine mh_ofW (cc := b_LW_look) (n := 7) (ret := (some .int)) (hs := [(0, 13, 16, 13)]) (by decide) k595 ?_
  intro p e s m below meth c hx hb hr hml hown hts hlocks hnm hT hOK hadm
  have K0 : mh_K0 p s m ([.ref x0, .int (nI u), .int (nI low), .int (nI high), .int (nI q9), .ref o0]).toArray c "MeldHostLaw" b_LW_look dC dI dA := ⟨hx, hb, hown, hts, hOK.1, hOK.2.1⟩
  have hX := hOK.2.2.2.2
  have hb0 := hOK.2.2.2.1
  have hS : va_S (mh_A b) s.heap s.heap [] := va_S.rf
  have hl := lv_entry ([.ref x0, .int (nI u), .int (nI low), .int (nI high), .int (nI q9), .ref o0]) (n := 7) (Nat.le_of_ble_eq_true rfl)
  rw [lg_entry_eq]
  generalize (lg_sl ([.ref x0, .int (nI u), .int (nI low), .int (nI high), .int (nI q9), .ref o0]) ++ List.replicate (7 - (lg_sl ([.ref x0, .int (nI u), .int (nI low), .int (nI high), .int (nI q9), .ref o0])).length) Slot.unset).toArray = ls at hl ⊢
  have hl : lv_has ls 7 [(0, .ref x0), (1, .int (nI u)), (2, .int (nI low)), (3, .int (nI high)), (4, .int (nI q9)), (5, .ref o0)] := hl
  refine lv_aload hx hb d_LW_look_0 (lv_at hl 5 rfl) ?_
  refine lv_iconst (v := nI 0) hx hb d_LW_look_2 (by decide) ?_
  refine lv_aload_n hx hb d_LW_look_3 rfl (lv_at hl 0 rfl) ?_
  refine lv_iload_n hx hb d_LW_look_4 rfl (lv_at hl 1 rfl) ?_
  refine lv_iload_n hx hb d_LW_look_5 rfl (lv_at hl 2 rfl) ?_
  refine lv_iload_n hx hb d_LW_look_6 rfl (lv_at hl 3 rfl) ?_
  refine lv_iload hx hb d_LW_look_7 (lv_at hl 4 rfl) ?_
  refine mh_callV (mh_sV (rest := [.int (nI 0), .ref o0]) (av := [.int (nI u), .int (nI low), .int (nI high), .int (nI q9)]) K0 hX r0 rfl e_MH_look l_LW_54 k597 k598 rfl rfl d_LW_look_9) (c_MH_look_0 hR2 hG hu h1 h2 h3) K0 hOK hml hl.1 e_MH_look hX hS d_LW_look_9 (Nat.le_of_ble_eq_true rfl) (Nat.le_of_ble_eq_true rfl) (Nat.le_of_ble_eq_true rfl) (Nat.le_of_ble_eq_true rfl) (Nat.le_of_ble_eq_true rfl) (fun w1 H locs ⟨hC, hFC⟩ hX hS => ?_)
  refine W.eq (g2 := F0 m 12 ls [.long (tl_a (st_st (sg_lg g) (sg_at g u)) low (high + 1 - low) (nI q9)), .int (nI 0), .ref o0]) rfl ?_
  refine mh_lastN K0 hX hS ((hFC 90 0 (by omega) (by omega)).trans hov) (by omega) (by omega) d_LW_look_12 (fun H locs hX hS => ?_)
  have fs154 := mh_self hX
  refine lv_goto (tgt := 20) hx hb d_LW_look_13 (by decide) ?_
  refine lv_iconst (v := nI 0) hx hb d_LW_look_20 (by decide) ?_
  exact mh_iret K0 hr rfl hlocks hX hS (⟨rfl, hC.c (fun k i hk => mh_set_ne _ _ _ _ (by omega)), ⟨_, fs154, fun _ _ => pk_uLs⟩, fun k i h1 h2 => (mh_set_ne _ _ _ _ (by omega)).trans (hFC k i (by omega) (by omega))⟩) (Nat.le_of_ble_eq_true rfl) (Nat.le_of_ble_eq_true rfl) d_LW_look_21
set_option maxHeartbeats 4000000 in
set_option maxRecDepth 100000 in
theorem c_LW_verdict_0 {l : Launch} {b : Nat} {dC : Nat → ClassId} {dI : Nat → Nat → Nat} {dA : Nat → ClassId} {zs : Nat → Nat} {w : mh_w} {x0 : Nat} {g : st_G} (hR : rC dA zs w x0 g) (hG : sg_ok g) {o0 : Nat} {ov : Nat → Int64} (hov : w 90 0 = some (o0, .inl (dA 1, 1, .inr (.inl ov)))) {u : Nat} (hu : u < 4) {j : Nat} (hj : j < sg_n g) : mh_Met l b dC dI dA zs y_LW_verdict (mh_rm 9 20 1000) [.ref x0, .int (nI u), .int (nI j), .ref o0] w (mh_V (some (.int (nI 0))) (lW dA zs w x0 o0 false (0, (if sg_at g u ≤ j then 0 else if iv_gd (sg_lg g j) = true then 1 else 2), g))) := by
  have hR2 := hR
  obtain ⟨aL, aS, aD, aV, sv, dr, vw, lg, hP⟩ := hR
  have r0 := hP.1
  refine mh_ofW (cc := b_LW_verdict) (n := 5) (ret := (some .int)) (hs := [(0, 10, 13, 13), (0, 10, 17, 27)]) (by decide) k602 ?_
  intro p e s m below meth c hx hb hr hml hown hts hlocks hnm hT hOK hadm
  have K0 : mh_K0 p s m ([.ref x0, .int (nI u), .int (nI j), .ref o0]).toArray c "MeldHostLaw" b_LW_verdict dC dI dA := ⟨hx, hb, hown, hts, hOK.1, hOK.2.1⟩
  have hX := hOK.2.2.2.2
  have hb0 := hOK.2.2.2.1
  have hS : va_S (mh_A b) s.heap s.heap [] := va_S.rf
  have hl := lv_entry ([.ref x0, .int (nI u), .int (nI j), .ref o0]) (n := 5) (Nat.le_of_ble_eq_true rfl)
  rw [lg_entry_eq]
  generalize (lg_sl ([.ref x0, .int (nI u), .int (nI j), .ref o0]) ++ List.replicate (5 - (lg_sl ([.ref x0, .int (nI u), .int (nI j), .ref o0])).length) Slot.unset).toArray = ls at hl ⊢
  have hl : lv_has ls 5 [(0, .ref x0), (1, .int (nI u)), (2, .int (nI j)), (3, .ref o0)] := hl
  refine lv_aload_n hx hb d_LW_verdict_0 rfl (lv_at hl 3 rfl) ?_
  refine lv_iconst (v := nI 0) hx hb d_LW_verdict_1 (by decide) ?_
  refine lv_aload_n hx hb d_LW_verdict_2 rfl (lv_at hl 0 rfl) ?_
  refine lv_iload_n hx hb d_LW_verdict_3 rfl (lv_at hl 1 rfl) ?_
  refine lv_iload_n hx hb d_LW_verdict_4 rfl (lv_at hl 2 rfl) ?_
  refine mh_callV (mh_sV (rest := [.int (nI 0), .ref o0]) (av := [.int (nI u), .int (nI j)]) K0 hX r0 rfl e_MH_verdict l_LW_57 k604 k605 rfl rfl d_LW_verdict_5) (c_MH_verdict_0 hR2 hG hu hj) K0 hOK hml hl.1 e_MH_verdict hX hS d_LW_verdict_5 (Nat.le_of_ble_eq_true rfl) (Nat.le_of_ble_eq_true rfl) (Nat.le_of_ble_eq_true rfl) (Nat.le_of_ble_eq_true rfl) (Nat.le_of_ble_eq_true rfl) (fun w1 H locs ⟨hC, hFC⟩ hX hS => ?_)
  refine W.eq (g2 := F0 m 8 ls [.int (if sg_at g u ≤ j then 0 else if iv_gd (sg_lg g j) = true then 1 else 2), .int (nI 0), .ref o0]) rfl ?_
  refine lv_i2l hx hb d_LW_verdict_8 rfl ?_
  refine mh_lastN K0 hX hS ((hFC 90 0 (by omega) (by omega)).trans hov) (by omega) (by omega) d_LW_verdict_9 (fun H locs hX hS => ?_)
  have fs155 := mh_self hX
  refine lv_goto (tgt := 21) hx hb d_LW_verdict_10 (by decide) ?_
  refine lv_iconst (v := nI 0) hx hb d_LW_verdict_21 (by decide) ?_
  exact mh_iret K0 hr rfl hlocks hX hS (⟨rfl, hC.c (fun k i hk => mh_set_ne _ _ _ _ (by omega)), ⟨_, fs155, fun _ _ => pk_uLs.trans (by split; (· rfl); split <;> rfl)⟩, fun k i h1 h2 => (mh_set_ne _ _ _ _ (by omega)).trans (hFC k i (by omega) (by omega))⟩) (Nat.le_of_ble_eq_true rfl) (Nat.le_of_ble_eq_true rfl) d_LW_verdict_22
set_option maxHeartbeats 4000000 in
set_option maxRecDepth 100000 in
theorem c_LW_verdict_2 {l : Launch} {b : Nat} {dC : Nat → ClassId} {dI : Nat → Nat → Nat} {dA : Nat → ClassId} {zs : Nat → Nat} {w : mh_w} (hl0 : l.stackTraces = false) {x0 : Nat} {g : st_G} (hR : rC dA zs w x0 g) (hG : sg_ok g) {o0 : Nat} {ov : Nat → Int64} (hov : w 90 0 = some (o0, .inl (dA 1, 1, .inr (.inl ov)))) {u : Nat} (hu : u < 4) {v : Int32} (hv : st_in v (sg_n g) = false) : mh_Met l b dC dI dA zs y_LW_verdict (mh_rm 9 20 1000) [.ref x0, .int (nI u), .int v, .ref o0] w (mh_V (some (.int (nI 2))) (lW dA zs w x0 o0 false (2, 0, g))) := by
  have hR2 := hR
  obtain ⟨aL, aS, aD, aV, sv, dr, vw, lg, hP⟩ := hR
  have r0 := hP.1
  refine mh_ofW (cc := b_LW_verdict) (n := 5) (ret := (some .int)) (hs := [(0, 10, 13, 13), (0, 10, 17, 27)]) (by decide) k602 ?_
  intro p e s m below meth c hx hb hr hml hown hts hlocks hnm hT hOK hadm
  have K0 : mh_K0 p s m ([.ref x0, .int (nI u), .int v, .ref o0]).toArray c "MeldHostLaw" b_LW_verdict dC dI dA := ⟨hx, hb, hown, hts, hOK.1, hOK.2.1⟩
  have hX := hOK.2.2.2.2
  have hb0 := hOK.2.2.2.1
  have hS : va_S (mh_A b) s.heap s.heap [] := va_S.rf
  have hl := lv_entry ([.ref x0, .int (nI u), .int v, .ref o0]) (n := 5) (Nat.le_of_ble_eq_true rfl)
  rw [lg_entry_eq]
  generalize (lg_sl ([.ref x0, .int (nI u), .int v, .ref o0]) ++ List.replicate (5 - (lg_sl ([.ref x0, .int (nI u), .int v, .ref o0])).length) Slot.unset).toArray = ls at hl ⊢
  have hl : lv_has ls 5 [(0, .ref x0), (1, .int (nI u)), (2, .int v), (3, .ref o0)] := hl
  refine lv_aload_n hx hb d_LW_verdict_0 rfl (lv_at hl 3 rfl) ?_
  refine lv_iconst (v := nI 0) hx hb d_LW_verdict_1 (by decide) ?_
  refine lv_aload_n hx hb d_LW_verdict_2 rfl (lv_at hl 0 rfl) ?_
  refine lv_iload_n hx hb d_LW_verdict_3 rfl (lv_at hl 1 rfl) ?_
  refine lv_iload_n hx hb d_LW_verdict_4 rfl (lv_at hl 2 rfl) ?_
  refine mh_callT (mh_sV (rest := [.int (nI 0), .ref o0]) (av := [.int (nI u), .int v]) K0 hX r0 rfl e_MH_verdict l_LW_57 k604 k605 rfl rfl d_LW_verdict_5) (c_MH_verdict_2 hl0 hR2 hG hu hv) K0 hOK hml hl.1 e_MH_verdict hX hS d_LW_verdict_5 (Nat.le_of_ble_eq_true rfl) (Nat.le_of_ble_eq_true rfl) (Nat.le_of_ble_eq_true rfl) (Nat.le_of_ble_eq_true rfl) (Nat.le_of_ble_eq_true rfl) (fun q w1 H locs hq hw hX hS => ?_)
  obtain ⟨hC, hFC⟩ := hw
  refine mh_catch K0 hOK hX hq (E := "java/lang/IndexOutOfBoundsException") rfl hT (pre := [(0, 10, 13, 13)]) (x := (0, 10, 17, 27)) (suf := []) rfl (List.forall_mem_cons.mpr ⟨⟨"java/lang/IllegalArgumentException", by decide, k137, by decide⟩, fun _ h => absurd h List.not_mem_nil⟩) (by decide) (by decide) (by decide) k348 ?_
  refine W.eq (g2 := F0 m 17 ls [.ref q]) rfl ?_
  refine lv_astore (lv' := [(4, .ref q), (0, .ref x0), (1, .int (nI u)), (2, .int v), (3, .ref o0)]) hx hb d_LW_verdict_17 hl (by decide) rfl (fun ls hl => ?_)
  refine lv_iconst (v := nI 2) hx hb d_LW_verdict_19 (by decide) ?_
  exact mh_iret K0 hr rfl hlocks hX hS (⟨rfl, hC, ⟨ov, (hFC 90 0 (by omega) (by omega)).trans hov, fun _ h => by cases h⟩, fun k i h1 h2 => hFC k i (by omega) (by omega)⟩) (Nat.le_of_ble_eq_true rfl) (Nat.le_of_ble_eq_true rfl) d_LW_verdict_20
set_option maxHeartbeats 4000000 in
set_option maxRecDepth 100000 in
theorem c_LW_intention_0 {l : Launch} {b : Nat} {dC : Nat → ClassId} {dI : Nat → Nat → Nat} {dA : Nat → ClassId} {zs : Nat → Nat} {w : mh_w} {x0 : Nat} {g : st_G} (hR : rC dA zs w x0 g) (hG : sg_ok g) {o0 : Nat} {ov : Nat → Int64} (hov : w 90 0 = some (o0, .inl (dA 1, 1, .inr (.inl ov)))) {j : Nat} (hj : j < sg_n g) {q9 : Nat} (h3 : q9 < 6) : mh_Met l b dC dI dA zs y_LW_intention (mh_rm 9 20 1000) [.ref x0, .int (nI j), .int (nI q9), .ref o0] w (mh_V (some (.int (nI 0))) (lW dA zs w x0 o0 false (0, lN (sp_tell (sg_lg g j) (nI q9)), g))) := by
  have hR2 := hR
  obtain ⟨aL, aS, aD, aV, sv, dr, vw, lg, hP⟩ := hR
  have r0 := hP.1
  refine mh_ofW (cc := b_LW_intention) (n := 5) (ret := (some .int)) (hs := [(0, 10, 13, 13), (0, 10, 17, 27)]) (by decide) k614 ?_
  intro p e s m below meth c hx hb hr hml hown hts hlocks hnm hT hOK hadm
  have K0 : mh_K0 p s m ([.ref x0, .int (nI j), .int (nI q9), .ref o0]).toArray c "MeldHostLaw" b_LW_intention dC dI dA := ⟨hx, hb, hown, hts, hOK.1, hOK.2.1⟩
  have hX := hOK.2.2.2.2
  have hb0 := hOK.2.2.2.1
  have hS : va_S (mh_A b) s.heap s.heap [] := va_S.rf
  have hl := lv_entry ([.ref x0, .int (nI j), .int (nI q9), .ref o0]) (n := 5) (Nat.le_of_ble_eq_true rfl)
  rw [lg_entry_eq]
  generalize (lg_sl ([.ref x0, .int (nI j), .int (nI q9), .ref o0]) ++ List.replicate (5 - (lg_sl ([.ref x0, .int (nI j), .int (nI q9), .ref o0])).length) Slot.unset).toArray = ls at hl ⊢
  have hl : lv_has ls 5 [(0, .ref x0), (1, .int (nI j)), (2, .int (nI q9)), (3, .ref o0)] := hl
  refine lv_aload_n hx hb d_LW_intention_0 rfl (lv_at hl 3 rfl) ?_
  refine lv_iconst (v := nI 0) hx hb d_LW_intention_1 (by decide) ?_
  refine lv_aload_n hx hb d_LW_intention_2 rfl (lv_at hl 0 rfl) ?_
  refine lv_iload_n hx hb d_LW_intention_3 rfl (lv_at hl 1 rfl) ?_
  refine lv_iload_n hx hb d_LW_intention_4 rfl (lv_at hl 2 rfl) ?_
  refine mh_callV (mh_sV (rest := [.int (nI 0), .ref o0]) (av := [.int (nI j), .int (nI q9)]) K0 hX r0 rfl e_MH_intention l_LW_60 k616 k617 rfl rfl d_LW_intention_5) (c_MH_intention_0 hR2 hG hj h3) K0 hOK hml hl.1 e_MH_intention hX hS d_LW_intention_5 (Nat.le_of_ble_eq_true rfl) (Nat.le_of_ble_eq_true rfl) (Nat.le_of_ble_eq_true rfl) (Nat.le_of_ble_eq_true rfl) (Nat.le_of_ble_eq_true rfl) (fun w1 H locs ⟨hC, hFC⟩ hX hS => ?_)
  refine W.eq (g2 := F0 m 8 ls [.int (nI (sp_tell (sg_lg g j) (nI q9))), .int (nI 0), .ref o0]) rfl ?_
  refine lv_i2l hx hb d_LW_intention_8 rfl ?_
  refine mh_lastN K0 hX hS ((hFC 90 0 (by omega) (by omega)).trans hov) (by omega) (by omega) d_LW_intention_9 (fun H locs hX hS => ?_)
  have fs156 := mh_self hX
  refine lv_goto (tgt := 21) hx hb d_LW_intention_10 (by decide) ?_
  refine lv_iconst (v := nI 0) hx hb d_LW_intention_21 (by decide) ?_
  exact mh_iret K0 hr rfl hlocks hX hS (⟨rfl, hC.c (fun k i hk => mh_set_ne _ _ _ _ (by omega)), ⟨_, fs156, fun _ _ => pk_uLs.trans (nI_l (sp_tell_lt (hG.2.2.2.1 j hj) (by have := hG.1; omega)))⟩, fun k i h1 h2 => (mh_set_ne _ _ _ _ (by omega)).trans (hFC k i (by omega) (by omega))⟩) (Nat.le_of_ble_eq_true rfl) (Nat.le_of_ble_eq_true rfl) d_LW_intention_22
set_option maxHeartbeats 4000000 in
set_option maxRecDepth 100000 in
theorem c_LW_intention_2 {l : Launch} {b : Nat} {dC : Nat → ClassId} {dI : Nat → Nat → Nat} {dA : Nat → ClassId} {zs : Nat → Nat} {w : mh_w} (hl0 : l.stackTraces = false) {x0 : Nat} {g : st_G} (hR : rC dA zs w x0 g) (hG : sg_ok g) {o0 : Nat} {ov : Nat → Int64} (hov : w 90 0 = some (o0, .inl (dA 1, 1, .inr (.inl ov)))) {q9 : Nat} (h3 : q9 < 6) {v : Int32} (hv : st_in v (sg_n g) = false) : mh_Met l b dC dI dA zs y_LW_intention (mh_rm 9 20 1000) [.ref x0, .int v, .int (nI q9), .ref o0] w (mh_V (some (.int (nI 2))) (lW dA zs w x0 o0 false (2, 0, g))) := by
  have hR2 := hR
  obtain ⟨aL, aS, aD, aV, sv, dr, vw, lg, hP⟩ := hR
  have r0 := hP.1
  refine mh_ofW (cc := b_LW_intention) (n := 5) (ret := (some .int)) (hs := [(0, 10, 13, 13), (0, 10, 17, 27)]) (by decide) k614 ?_
  intro p e s m below meth c hx hb hr hml hown hts hlocks hnm hT hOK hadm
  have K0 : mh_K0 p s m ([.ref x0, .int v, .int (nI q9), .ref o0]).toArray c "MeldHostLaw" b_LW_intention dC dI dA := ⟨hx, hb, hown, hts, hOK.1, hOK.2.1⟩
  have hX := hOK.2.2.2.2
  have hb0 := hOK.2.2.2.1
  have hS : va_S (mh_A b) s.heap s.heap [] := va_S.rf
  have hl := lv_entry ([.ref x0, .int v, .int (nI q9), .ref o0]) (n := 5) (Nat.le_of_ble_eq_true rfl)
  rw [lg_entry_eq]
  generalize (lg_sl ([.ref x0, .int v, .int (nI q9), .ref o0]) ++ List.replicate (5 - (lg_sl ([.ref x0, .int v, .int (nI q9), .ref o0])).length) Slot.unset).toArray = ls at hl ⊢
  have hl : lv_has ls 5 [(0, .ref x0), (1, .int v), (2, .int (nI q9)), (3, .ref o0)] := hl
  refine lv_aload_n hx hb d_LW_intention_0 rfl (lv_at hl 3 rfl) ?_
  refine lv_iconst (v := nI 0) hx hb d_LW_intention_1 (by decide) ?_
  refine lv_aload_n hx hb d_LW_intention_2 rfl (lv_at hl 0 rfl) ?_
  refine lv_iload_n hx hb d_LW_intention_3 rfl (lv_at hl 1 rfl) ?_
  refine lv_iload_n hx hb d_LW_intention_4 rfl (lv_at hl 2 rfl) ?_
  refine mh_callT (mh_sV (rest := [.int (nI 0), .ref o0]) (av := [.int v, .int (nI q9)]) K0 hX r0 rfl e_MH_intention l_LW_60 k616 k617 rfl rfl d_LW_intention_5) (c_MH_intention_2 hl0 hR2 hG h3 hv) K0 hOK hml hl.1 e_MH_intention hX hS d_LW_intention_5 (Nat.le_of_ble_eq_true rfl) (Nat.le_of_ble_eq_true rfl) (Nat.le_of_ble_eq_true rfl) (Nat.le_of_ble_eq_true rfl) (Nat.le_of_ble_eq_true rfl) (fun q w1 H locs hq hw hX hS => ?_)
  obtain ⟨hC, hFC⟩ := hw
  refine mh_catch K0 hOK hX hq (E := "java/lang/IndexOutOfBoundsException") rfl hT (pre := [(0, 10, 13, 13)]) (x := (0, 10, 17, 27)) (suf := []) rfl (List.forall_mem_cons.mpr ⟨⟨"java/lang/IllegalArgumentException", by decide, k137, by decide⟩, fun _ h => absurd h List.not_mem_nil⟩) (by decide) (by decide) (by decide) k348 ?_
  refine W.eq (g2 := F0 m 17 ls [.ref q]) rfl ?_
  refine lv_astore (lv' := [(4, .ref q), (0, .ref x0), (1, .int v), (2, .int (nI q9)), (3, .ref o0)]) hx hb d_LW_intention_17 hl (by decide) rfl (fun ls hl => ?_)
  refine lv_iconst (v := nI 2) hx hb d_LW_intention_19 (by decide) ?_
  exact mh_iret K0 hr rfl hlocks hX hS (⟨rfl, hC, ⟨ov, (hFC 90 0 (by omega) (by omega)).trans hov, fun _ h => by cases h⟩, fun k i h1 h2 => hFC k i (by omega) (by omega)⟩) (Nat.le_of_ble_eq_true rfl) (Nat.le_of_ble_eq_true rfl) d_LW_intention_20
set_option maxHeartbeats 4000000 in
set_option maxRecDepth 100000 in
theorem c_LW_count_0 {l : Launch} {b : Nat} {dC : Nat → ClassId} {dI : Nat → Nat → Nat} {dA : Nat → ClassId} {zs : Nat → Nat} {w : mh_w} {x0 : Nat} {g : st_G} (hR : rC dA zs w x0 g) (hG : sg_ok g) {o0 : Nat} {ov : Nat → Int64} (hov : w 90 0 = some (o0, .inl (dA 1, 1, .inr (.inl ov)))) {v1 v2 : Int32} : mh_Met l b dC dI dA zs y_LW_count (mh_rm 9 20 1000) [.ref x0, .int (nI 0), .int v1, .int v2, .ref o0] w (mh_V (some (.int (nI 0))) (lW dA zs w x0 o0 false (0, lN (sg_n g), g))) := by
  have hR2 := hR
  obtain ⟨aL, aS, aD, aV, sv, dr, vw, lg, hP⟩ := hR
  have r0 := hP.1
  refine mh_ofW (cc := b_LW_count) (n := 6) (ret := (some .int)) (hs := [(0, 12, 15, 13)]) (by decide) k635 ?_
  intro p e s m below meth c hx hb hr hml hown hts hlocks hnm hT hOK hadm
  have K0 : mh_K0 p s m ([.ref x0, .int (nI 0), .int v1, .int v2, .ref o0]).toArray c "MeldHostLaw" b_LW_count dC dI dA := ⟨hx, hb, hown, hts, hOK.1, hOK.2.1⟩
  have hX := hOK.2.2.2.2
  have hb0 := hOK.2.2.2.1
  have hS : va_S (mh_A b) s.heap s.heap [] := va_S.rf
  have hl := lv_entry ([.ref x0, .int (nI 0), .int v1, .int v2, .ref o0]) (n := 6) (Nat.le_of_ble_eq_true rfl)
  rw [lg_entry_eq]
  generalize (lg_sl ([.ref x0, .int (nI 0), .int v1, .int v2, .ref o0]) ++ List.replicate (6 - (lg_sl ([.ref x0, .int (nI 0), .int v1, .int v2, .ref o0])).length) Slot.unset).toArray = ls at hl ⊢
  have hl : lv_has ls 6 [(0, .ref x0), (1, .int (nI 0)), (2, .int v1), (3, .int v2), (4, .ref o0)] := hl
  refine lv_aload hx hb d_LW_count_0 (lv_at hl 4 rfl) ?_
  refine lv_iconst (v := nI 0) hx hb d_LW_count_2 (by decide) ?_
  refine lv_aload_n hx hb d_LW_count_3 rfl (lv_at hl 0 rfl) ?_
  refine lv_iload_n hx hb d_LW_count_4 rfl (lv_at hl 1 rfl) ?_
  refine lv_iload_n hx hb d_LW_count_5 rfl (lv_at hl 2 rfl) ?_
  refine lv_iload_n hx hb d_LW_count_6 rfl (lv_at hl 3 rfl) ?_
  refine mh_callV (mh_sV (rest := [.int (nI 0), .ref o0]) (av := [.int (nI 0), .int v1, .int v2]) K0 hX r0 rfl e_MH_count l_LW_63 k637 k638 rfl rfl d_LW_count_7) (c_MH_count_0 hR2 hG) K0 hOK hml hl.1 e_MH_count hX hS d_LW_count_7 (Nat.le_of_ble_eq_true rfl) (Nat.le_of_ble_eq_true rfl) (Nat.le_of_ble_eq_true rfl) (Nat.le_of_ble_eq_true rfl) (Nat.le_of_ble_eq_true rfl) (fun w1 H locs ⟨hC, hFC⟩ hX hS => ?_)
  refine W.eq (g2 := F0 m 10 ls [.int (nI (sg_n g)), .int (nI 0), .ref o0]) rfl ?_
  refine lv_i2l hx hb d_LW_count_10 rfl ?_
  refine mh_lastN K0 hX hS ((hFC 90 0 (by omega) (by omega)).trans hov) (by omega) (by omega) d_LW_count_11 (fun H locs hX hS => ?_)
  have fs157 := mh_self hX
  refine lv_goto (tgt := 19) hx hb d_LW_count_12 (by decide) ?_
  refine lv_iconst (v := nI 0) hx hb d_LW_count_19 (by decide) ?_
  exact mh_iret K0 hr rfl hlocks hX hS (⟨rfl, hC.c (fun k i hk => mh_set_ne _ _ _ _ (by omega)), ⟨_, fs157, fun _ _ => pk_uLs.trans (nI_l (by have := hG.1; omega))⟩, fun k i h1 h2 => (mh_set_ne _ _ _ _ (by omega)).trans (hFC k i (by omega) (by omega))⟩) (Nat.le_of_ble_eq_true rfl) (Nat.le_of_ble_eq_true rfl) d_LW_count_20
set_option maxHeartbeats 4000000 in
set_option maxRecDepth 100000 in
theorem c_LW_count_01 {l : Launch} {b : Nat} {dC : Nat → ClassId} {dI : Nat → Nat → Nat} {dA : Nat → ClassId} {zs : Nat → Nat} {w : mh_w} {x0 : Nat} {g : st_G} (hR : rC dA zs w x0 g) (hG : sg_ok g) {o0 : Nat} {ov : Nat → Int64} (hov : w 90 0 = some (o0, .inl (dA 1, 1, .inr (.inl ov)))) {v1 v2 : Int32} : mh_Met l b dC dI dA zs y_LW_count (mh_rm 9 20 1000) [.ref x0, .int (nI 1), .int v1, .int v2, .ref o0] w (mh_V (some (.int (nI 0))) (lW dA zs w x0 o0 false (0, lN (pb_cnt (fun t => (sg_dr g t).isSome) 16), g))) := by
  have hR2 := hR
  obtain ⟨aL, aS, aD, aV, sv, dr, vw, lg, hP⟩ := hR
  have r0 := hP.1
  refine mh_ofW (cc := b_LW_count) (n := 6) (ret := (some .int)) (hs := [(0, 12, 15, 13)]) (by decide) k635 ?_
  intro p e s m below meth c hx hb hr hml hown hts hlocks hnm hT hOK hadm
  have K0 : mh_K0 p s m ([.ref x0, .int (nI 1), .int v1, .int v2, .ref o0]).toArray c "MeldHostLaw" b_LW_count dC dI dA := ⟨hx, hb, hown, hts, hOK.1, hOK.2.1⟩
  have hX := hOK.2.2.2.2
  have hb0 := hOK.2.2.2.1
  have hS : va_S (mh_A b) s.heap s.heap [] := va_S.rf
  have hl := lv_entry ([.ref x0, .int (nI 1), .int v1, .int v2, .ref o0]) (n := 6) (Nat.le_of_ble_eq_true rfl)
  rw [lg_entry_eq]
  generalize (lg_sl ([.ref x0, .int (nI 1), .int v1, .int v2, .ref o0]) ++ List.replicate (6 - (lg_sl ([.ref x0, .int (nI 1), .int v1, .int v2, .ref o0])).length) Slot.unset).toArray = ls at hl ⊢
  have hl : lv_has ls 6 [(0, .ref x0), (1, .int (nI 1)), (2, .int v1), (3, .int v2), (4, .ref o0)] := hl
  refine lv_aload hx hb d_LW_count_0 (lv_at hl 4 rfl) ?_
  refine lv_iconst (v := nI 0) hx hb d_LW_count_2 (by decide) ?_
  refine lv_aload_n hx hb d_LW_count_3 rfl (lv_at hl 0 rfl) ?_
  refine lv_iload_n hx hb d_LW_count_4 rfl (lv_at hl 1 rfl) ?_
  refine lv_iload_n hx hb d_LW_count_5 rfl (lv_at hl 2 rfl) ?_
  refine lv_iload_n hx hb d_LW_count_6 rfl (lv_at hl 3 rfl) ?_
  refine mh_callV (mh_sV (rest := [.int (nI 0), .ref o0]) (av := [.int (nI 1), .int v1, .int v2]) K0 hX r0 rfl e_MH_count l_LW_63 k637 k638 rfl rfl d_LW_count_7) (c_MH_count_01 hR2 hG) K0 hOK hml hl.1 e_MH_count hX hS d_LW_count_7 (Nat.le_of_ble_eq_true rfl) (Nat.le_of_ble_eq_true rfl) (Nat.le_of_ble_eq_true rfl) (Nat.le_of_ble_eq_true rfl) (Nat.le_of_ble_eq_true rfl) (fun w1 H locs ⟨hC, hFC⟩ hX hS => ?_)
  refine W.eq (g2 := F0 m 10 ls [.int (nI (pb_cnt (fun t => (sg_dr g t).isSome) 16)), .int (nI 0), .ref o0]) rfl ?_
  refine lv_i2l hx hb d_LW_count_10 rfl ?_
  refine mh_lastN K0 hX hS ((hFC 90 0 (by omega) (by omega)).trans hov) (by omega) (by omega) d_LW_count_11 (fun H locs hX hS => ?_)
  have fs158 := mh_self hX
  refine lv_goto (tgt := 19) hx hb d_LW_count_12 (by decide) ?_
  refine lv_iconst (v := nI 0) hx hb d_LW_count_19 (by decide) ?_
  exact mh_iret K0 hr rfl hlocks hX hS (⟨rfl, hC.c (fun k i hk => mh_set_ne _ _ _ _ (by omega)), ⟨_, fs158, fun _ _ => pk_uLs.trans (nI_l (by have := pb_cnt_le (fun t => (sg_dr g t).isSome) 16; omega))⟩, fun k i h1 h2 => (mh_set_ne _ _ _ _ (by omega)).trans (hFC k i (by omega) (by omega))⟩) (Nat.le_of_ble_eq_true rfl) (Nat.le_of_ble_eq_true rfl) d_LW_count_20
set_option maxHeartbeats 4000000 in
set_option maxRecDepth 100000 in
theorem c_LW_count_02 {l : Launch} {b : Nat} {dC : Nat → ClassId} {dI : Nat → Nat → Nat} {dA : Nat → ClassId} {zs : Nat → Nat} {w : mh_w} {x0 : Nat} {g : st_G} (hR : rC dA zs w x0 g) (hG : sg_ok g) {o0 : Nat} {ov : Nat → Int64} (hov : w 90 0 = some (o0, .inl (dA 1, 1, .inr (.inl ov)))) {u : Nat} (hu : u < 4) {v2 : Int32} : mh_Met l b dC dI dA zs y_LW_count (mh_rm 9 20 1000) [.ref x0, .int (nI 2), .int (nI u), .int v2, .ref o0] w (mh_V (some (.int (nI 0))) (lW dA zs w x0 o0 false (0, lN (sg_at g u), g))) := by
  have hR2 := hR
  obtain ⟨aL, aS, aD, aV, sv, dr, vw, lg, hP⟩ := hR
  have r0 := hP.1
  refine mh_ofW (cc := b_LW_count) (n := 6) (ret := (some .int)) (hs := [(0, 12, 15, 13)]) (by decide) k635 ?_
  intro p e s m below meth c hx hb hr hml hown hts hlocks hnm hT hOK hadm
  have K0 : mh_K0 p s m ([.ref x0, .int (nI 2), .int (nI u), .int v2, .ref o0]).toArray c "MeldHostLaw" b_LW_count dC dI dA := ⟨hx, hb, hown, hts, hOK.1, hOK.2.1⟩
  have hX := hOK.2.2.2.2
  have hb0 := hOK.2.2.2.1
  have hS : va_S (mh_A b) s.heap s.heap [] := va_S.rf
  have hl := lv_entry ([.ref x0, .int (nI 2), .int (nI u), .int v2, .ref o0]) (n := 6) (Nat.le_of_ble_eq_true rfl)
  rw [lg_entry_eq]
  generalize (lg_sl ([.ref x0, .int (nI 2), .int (nI u), .int v2, .ref o0]) ++ List.replicate (6 - (lg_sl ([.ref x0, .int (nI 2), .int (nI u), .int v2, .ref o0])).length) Slot.unset).toArray = ls at hl ⊢
  have hl : lv_has ls 6 [(0, .ref x0), (1, .int (nI 2)), (2, .int (nI u)), (3, .int v2), (4, .ref o0)] := hl
  refine lv_aload hx hb d_LW_count_0 (lv_at hl 4 rfl) ?_
  refine lv_iconst (v := nI 0) hx hb d_LW_count_2 (by decide) ?_
  refine lv_aload_n hx hb d_LW_count_3 rfl (lv_at hl 0 rfl) ?_
  refine lv_iload_n hx hb d_LW_count_4 rfl (lv_at hl 1 rfl) ?_
  refine lv_iload_n hx hb d_LW_count_5 rfl (lv_at hl 2 rfl) ?_
  refine lv_iload_n hx hb d_LW_count_6 rfl (lv_at hl 3 rfl) ?_
  refine mh_callV (mh_sV (rest := [.int (nI 0), .ref o0]) (av := [.int (nI 2), .int (nI u), .int v2]) K0 hX r0 rfl e_MH_count l_LW_63 k637 k638 rfl rfl d_LW_count_7) (c_MH_count_02 hR2 hG hu) K0 hOK hml hl.1 e_MH_count hX hS d_LW_count_7 (Nat.le_of_ble_eq_true rfl) (Nat.le_of_ble_eq_true rfl) (Nat.le_of_ble_eq_true rfl) (Nat.le_of_ble_eq_true rfl) (Nat.le_of_ble_eq_true rfl) (fun w1 H locs ⟨hC, hFC⟩ hX hS => ?_)
  refine W.eq (g2 := F0 m 10 ls [.int (nI (sg_at g u)), .int (nI 0), .ref o0]) rfl ?_
  refine lv_i2l hx hb d_LW_count_10 rfl ?_
  refine mh_lastN K0 hX hS ((hFC 90 0 (by omega) (by omega)).trans hov) (by omega) (by omega) d_LW_count_11 (fun H locs hX hS => ?_)
  have fs159 := mh_self hX
  refine lv_goto (tgt := 19) hx hb d_LW_count_12 (by decide) ?_
  refine lv_iconst (v := nI 0) hx hb d_LW_count_19 (by decide) ?_
  exact mh_iret K0 hr rfl hlocks hX hS (⟨rfl, hC.c (fun k i hk => mh_set_ne _ _ _ _ (by omega)), ⟨_, fs159, fun _ _ => pk_uLs.trans (nI_l (by have := hG.1; have := hG.2.2.1 u hu; omega))⟩, fun k i h1 h2 => (mh_set_ne _ _ _ _ (by omega)).trans (hFC k i (by omega) (by omega))⟩) (Nat.le_of_ble_eq_true rfl) (Nat.le_of_ble_eq_true rfl) d_LW_count_20
set_option maxHeartbeats 4000000 in
set_option maxRecDepth 100000 in
theorem c_LW_count_03 {l : Launch} {b : Nat} {dC : Nat → ClassId} {dI : Nat → Nat → Nat} {dA : Nat → ClassId} {zs : Nat → Nat} {w : mh_w} {x0 : Nat} {g : st_G} (hR : rC dA zs w x0 g) (hG : sg_ok g) {o0 : Nat} {ov : Nat → Int64} (hov : w 90 0 = some (o0, .inl (dA 1, 1, .inr (.inl ov)))) {u : Nat} (hu : u < 4) {v2 : Int32} : mh_Met l b dC dI dA zs y_LW_count (mh_rm 9 20 1000) [.ref x0, .int (nI 3), .int (nI u), .int v2, .ref o0] w (mh_V (some (.int (nI 0))) (lW dA zs w x0 o0 false (0, lN (pb_cnt (fun i => iv_gd (sg_lg g i)) (sg_at g u)), g))) := by
  have hR2 := hR
  obtain ⟨aL, aS, aD, aV, sv, dr, vw, lg, hP⟩ := hR
  have r0 := hP.1
  refine mh_ofW (cc := b_LW_count) (n := 6) (ret := (some .int)) (hs := [(0, 12, 15, 13)]) (by decide) k635 ?_
  intro p e s m below meth c hx hb hr hml hown hts hlocks hnm hT hOK hadm
  have K0 : mh_K0 p s m ([.ref x0, .int (nI 3), .int (nI u), .int v2, .ref o0]).toArray c "MeldHostLaw" b_LW_count dC dI dA := ⟨hx, hb, hown, hts, hOK.1, hOK.2.1⟩
  have hX := hOK.2.2.2.2
  have hb0 := hOK.2.2.2.1
  have hS : va_S (mh_A b) s.heap s.heap [] := va_S.rf
  have hl := lv_entry ([.ref x0, .int (nI 3), .int (nI u), .int v2, .ref o0]) (n := 6) (Nat.le_of_ble_eq_true rfl)
  rw [lg_entry_eq]
  generalize (lg_sl ([.ref x0, .int (nI 3), .int (nI u), .int v2, .ref o0]) ++ List.replicate (6 - (lg_sl ([.ref x0, .int (nI 3), .int (nI u), .int v2, .ref o0])).length) Slot.unset).toArray = ls at hl ⊢
  have hl : lv_has ls 6 [(0, .ref x0), (1, .int (nI 3)), (2, .int (nI u)), (3, .int v2), (4, .ref o0)] := hl
  refine lv_aload hx hb d_LW_count_0 (lv_at hl 4 rfl) ?_
  refine lv_iconst (v := nI 0) hx hb d_LW_count_2 (by decide) ?_
  refine lv_aload_n hx hb d_LW_count_3 rfl (lv_at hl 0 rfl) ?_
  refine lv_iload_n hx hb d_LW_count_4 rfl (lv_at hl 1 rfl) ?_
  refine lv_iload_n hx hb d_LW_count_5 rfl (lv_at hl 2 rfl) ?_
  refine lv_iload_n hx hb d_LW_count_6 rfl (lv_at hl 3 rfl) ?_
  refine mh_callV (mh_sV (rest := [.int (nI 0), .ref o0]) (av := [.int (nI 3), .int (nI u), .int v2]) K0 hX r0 rfl e_MH_count l_LW_63 k637 k638 rfl rfl d_LW_count_7) (c_MH_count_03 hR2 hG hu) K0 hOK hml hl.1 e_MH_count hX hS d_LW_count_7 (Nat.le_of_ble_eq_true rfl) (Nat.le_of_ble_eq_true rfl) (Nat.le_of_ble_eq_true rfl) (Nat.le_of_ble_eq_true rfl) (Nat.le_of_ble_eq_true rfl) (fun w1 H locs ⟨hC, hFC⟩ hX hS => ?_)
  refine W.eq (g2 := F0 m 10 ls [.int (nI (pb_cnt (fun i => iv_gd (sg_lg g i)) (sg_at g u))), .int (nI 0), .ref o0]) rfl ?_
  refine lv_i2l hx hb d_LW_count_10 rfl ?_
  refine mh_lastN K0 hX hS ((hFC 90 0 (by omega) (by omega)).trans hov) (by omega) (by omega) d_LW_count_11 (fun H locs hX hS => ?_)
  have fs160 := mh_self hX
  refine lv_goto (tgt := 19) hx hb d_LW_count_12 (by decide) ?_
  refine lv_iconst (v := nI 0) hx hb d_LW_count_19 (by decide) ?_
  exact mh_iret K0 hr rfl hlocks hX hS (⟨rfl, hC.c (fun k i hk => mh_set_ne _ _ _ _ (by omega)), ⟨_, fs160, fun _ _ => pk_uLs.trans (nI_l (by have := hG.1; have := hG.2.2.1 u hu; have := pb_cnt_le (fun i => iv_gd (sg_lg g i)) (sg_at g u); omega))⟩, fun k i h1 h2 => (mh_set_ne _ _ _ _ (by omega)).trans (hFC k i (by omega) (by omega))⟩) (Nat.le_of_ble_eq_true rfl) (Nat.le_of_ble_eq_true rfl) d_LW_count_20
set_option maxHeartbeats 4000000 in
set_option maxRecDepth 100000 in
theorem c_LW_count_04 {l : Launch} {b : Nat} {dC : Nat → ClassId} {dI : Nat → Nat → Nat} {dA : Nat → ClassId} {zs : Nat → Nat} {w : mh_w} {x0 : Nat} {g : st_G} (hR : rC dA zs w x0 g) (hG : sg_ok g) {o0 : Nat} {ov : Nat → Int64} (hov : w 90 0 = some (o0, .inl (dA 1, 1, .inr (.inl ov)))) {u : Nat} (hu : u < 4) {key : Nat} (hk : key < 256) : mh_Met l b dC dI dA zs y_LW_count (mh_rm 9 20 1000) [.ref x0, .int (nI 4), .int (nI u), .int (nI key), .ref o0] w (mh_V (some (.int (nI 0))) (lW dA zs w x0 o0 false (0, (st_lw (sg_lg g) key (sg_at g u)).toInt64, g))) := by
  have hR2 := hR
  obtain ⟨aL, aS, aD, aV, sv, dr, vw, lg, hP⟩ := hR
  have r0 := hP.1
  refine mh_ofW (cc := b_LW_count) (n := 6) (ret := (some .int)) (hs := [(0, 12, 15, 13)]) (by decide) k635 ?_
  intro p e s m below meth c hx hb hr hml hown hts hlocks hnm hT hOK hadm
  have K0 : mh_K0 p s m ([.ref x0, .int (nI 4), .int (nI u), .int (nI key), .ref o0]).toArray c "MeldHostLaw" b_LW_count dC dI dA := ⟨hx, hb, hown, hts, hOK.1, hOK.2.1⟩
  have hX := hOK.2.2.2.2
  have hb0 := hOK.2.2.2.1
  have hS : va_S (mh_A b) s.heap s.heap [] := va_S.rf
  have hl := lv_entry ([.ref x0, .int (nI 4), .int (nI u), .int (nI key), .ref o0]) (n := 6) (Nat.le_of_ble_eq_true rfl)
  rw [lg_entry_eq]
  generalize (lg_sl ([.ref x0, .int (nI 4), .int (nI u), .int (nI key), .ref o0]) ++ List.replicate (6 - (lg_sl ([.ref x0, .int (nI 4), .int (nI u), .int (nI key), .ref o0])).length) Slot.unset).toArray = ls at hl ⊢
  have hl : lv_has ls 6 [(0, .ref x0), (1, .int (nI 4)), (2, .int (nI u)), (3, .int (nI key)), (4, .ref o0)] := hl
  refine lv_aload hx hb d_LW_count_0 (lv_at hl 4 rfl) ?_
  refine lv_iconst (v := nI 0) hx hb d_LW_count_2 (by decide) ?_
  refine lv_aload_n hx hb d_LW_count_3 rfl (lv_at hl 0 rfl) ?_
  refine lv_iload_n hx hb d_LW_count_4 rfl (lv_at hl 1 rfl) ?_
  refine lv_iload_n hx hb d_LW_count_5 rfl (lv_at hl 2 rfl) ?_
  refine lv_iload_n hx hb d_LW_count_6 rfl (lv_at hl 3 rfl) ?_
  refine mh_callV (mh_sV (rest := [.int (nI 0), .ref o0]) (av := [.int (nI 4), .int (nI u), .int (nI key)]) K0 hX r0 rfl e_MH_count l_LW_63 k637 k638 rfl rfl d_LW_count_7) (c_MH_count_04 hR2 hG hu hk) K0 hOK hml hl.1 e_MH_count hX hS d_LW_count_7 (Nat.le_of_ble_eq_true rfl) (Nat.le_of_ble_eq_true rfl) (Nat.le_of_ble_eq_true rfl) (Nat.le_of_ble_eq_true rfl) (Nat.le_of_ble_eq_true rfl) (fun w1 H locs ⟨hC, hFC⟩ hX hS => ?_)
  refine W.eq (g2 := F0 m 10 ls [.int (st_lw (sg_lg g) key (sg_at g u)), .int (nI 0), .ref o0]) rfl ?_
  refine lv_i2l hx hb d_LW_count_10 rfl ?_
  refine mh_lastN K0 hX hS ((hFC 90 0 (by omega) (by omega)).trans hov) (by omega) (by omega) d_LW_count_11 (fun H locs hX hS => ?_)
  have fs161 := mh_self hX
  refine lv_goto (tgt := 19) hx hb d_LW_count_12 (by decide) ?_
  refine lv_iconst (v := nI 0) hx hb d_LW_count_19 (by decide) ?_
  exact mh_iret K0 hr rfl hlocks hX hS (⟨rfl, hC.c (fun k i hk => mh_set_ne _ _ _ _ (by omega)), ⟨_, fs161, fun _ _ => pk_uLs⟩, fun k i h1 h2 => (mh_set_ne _ _ _ _ (by omega)).trans (hFC k i (by omega) (by omega))⟩) (Nat.le_of_ble_eq_true rfl) (Nat.le_of_ble_eq_true rfl) d_LW_count_20
set_option maxHeartbeats 4000000 in
set_option maxRecDepth 100000 in
theorem c_LW_count_11 {l : Launch} {b : Nat} {dC : Nat → ClassId} {dI : Nat → Nat → Nat} {dA : Nat → ClassId} {zs : Nat → Nat} {w : mh_w} (hl0 : l.stackTraces = false) {x0 : Nat} {g : st_G} (hR : rC dA zs w x0 g) (hG : sg_ok g) {o0 : Nat} {ov : Nat → Int64} (hov : w 90 0 = some (o0, .inl (dA 1, 1, .inr (.inl ov)))) {q9 : Nat} (h3 : 2 ≤ q9) (h5 : q9 < 5) {v1 v2 : Int32} (hv : st_in v1 4 = false) : mh_Met l b dC dI dA zs y_LW_count (mh_rm 9 20 1000) [.ref x0, .int (nI q9), .int v1, .int v2, .ref o0] w (mh_V (some (.int (nI 1))) (lW dA zs w x0 o0 false (1, 0, g))) := by
  have hR2 := hR
  obtain ⟨aL, aS, aD, aV, sv, dr, vw, lg, hP⟩ := hR
  have r0 := hP.1
  refine mh_ofW (cc := b_LW_count) (n := 6) (ret := (some .int)) (hs := [(0, 12, 15, 13)]) (by decide) k635 ?_
  intro p e s m below meth c hx hb hr hml hown hts hlocks hnm hT hOK hadm
  have K0 : mh_K0 p s m ([.ref x0, .int (nI q9), .int v1, .int v2, .ref o0]).toArray c "MeldHostLaw" b_LW_count dC dI dA := ⟨hx, hb, hown, hts, hOK.1, hOK.2.1⟩
  have hX := hOK.2.2.2.2
  have hb0 := hOK.2.2.2.1
  have hS : va_S (mh_A b) s.heap s.heap [] := va_S.rf
  have hl := lv_entry ([.ref x0, .int (nI q9), .int v1, .int v2, .ref o0]) (n := 6) (Nat.le_of_ble_eq_true rfl)
  rw [lg_entry_eq]
  generalize (lg_sl ([.ref x0, .int (nI q9), .int v1, .int v2, .ref o0]) ++ List.replicate (6 - (lg_sl ([.ref x0, .int (nI q9), .int v1, .int v2, .ref o0])).length) Slot.unset).toArray = ls at hl ⊢
  have hl : lv_has ls 6 [(0, .ref x0), (1, .int (nI q9)), (2, .int v1), (3, .int v2), (4, .ref o0)] := hl
  refine lv_aload hx hb d_LW_count_0 (lv_at hl 4 rfl) ?_
  refine lv_iconst (v := nI 0) hx hb d_LW_count_2 (by decide) ?_
  refine lv_aload_n hx hb d_LW_count_3 rfl (lv_at hl 0 rfl) ?_
  refine lv_iload_n hx hb d_LW_count_4 rfl (lv_at hl 1 rfl) ?_
  refine lv_iload_n hx hb d_LW_count_5 rfl (lv_at hl 2 rfl) ?_
  refine lv_iload_n hx hb d_LW_count_6 rfl (lv_at hl 3 rfl) ?_
  refine mh_callT (mh_sV (rest := [.int (nI 0), .ref o0]) (av := [.int (nI q9), .int v1, .int v2]) K0 hX r0 rfl e_MH_count l_LW_63 k637 k638 rfl rfl d_LW_count_7) (c_MH_count_11 hl0 hR2 hG h3 h5 hv) K0 hOK hml hl.1 e_MH_count hX hS d_LW_count_7 (Nat.le_of_ble_eq_true rfl) (Nat.le_of_ble_eq_true rfl) (Nat.le_of_ble_eq_true rfl) (Nat.le_of_ble_eq_true rfl) (Nat.le_of_ble_eq_true rfl) (fun q w1 H locs hq hw hX hS => ?_)
  obtain ⟨hC, hFC⟩ := hw
  refine mh_catch K0 hOK hX hq (E := "java/lang/IllegalArgumentException") rfl hT (pre := []) (x := (0, 12, 15, 13)) (suf := []) rfl (fun _ h => absurd h List.not_mem_nil) (by decide) (by decide) (by decide) k137 ?_
  refine W.eq (g2 := F0 m 15 ls [.ref q]) rfl ?_
  refine lv_astore (lv' := [(5, .ref q), (0, .ref x0), (1, .int (nI q9)), (2, .int v1), (3, .int v2), (4, .ref o0)]) hx hb d_LW_count_15 hl (by decide) rfl (fun ls hl => ?_)
  refine lv_iconst (v := nI 1) hx hb d_LW_count_17 (by decide) ?_
  exact mh_iret K0 hr rfl hlocks hX hS (⟨rfl, hC, ⟨ov, (hFC 90 0 (by omega) (by omega)).trans hov, fun _ h => by cases h⟩, fun k i h1 h2 => hFC k i (by omega) (by omega)⟩) (Nat.le_of_ble_eq_true rfl) (Nat.le_of_ble_eq_true rfl) d_LW_count_18
set_option maxHeartbeats 4000000 in
set_option maxRecDepth 100000 in
theorem c_LW_count_12 {l : Launch} {b : Nat} {dC : Nat → ClassId} {dI : Nat → Nat → Nat} {dA : Nat → ClassId} {zs : Nat → Nat} {w : mh_w} (hl0 : l.stackTraces = false) {x0 : Nat} {g : st_G} (hR : rC dA zs w x0 g) (hG : sg_ok g) {o0 : Nat} {ov : Nat → Int64} (hov : w 90 0 = some (o0, .inl (dA 1, 1, .inr (.inl ov)))) {u : Nat} (hu : u < 4) {v2 : Int32} (hv : st_in v2 256 = false) : mh_Met l b dC dI dA zs y_LW_count (mh_rm 9 20 1000) [.ref x0, .int (nI 4), .int (nI u), .int v2, .ref o0] w (mh_V (some (.int (nI 1))) (lW dA zs w x0 o0 false (1, 0, g))) := by
  have hR2 := hR
  obtain ⟨aL, aS, aD, aV, sv, dr, vw, lg, hP⟩ := hR
  have r0 := hP.1
  refine mh_ofW (cc := b_LW_count) (n := 6) (ret := (some .int)) (hs := [(0, 12, 15, 13)]) (by decide) k635 ?_
  intro p e s m below meth c hx hb hr hml hown hts hlocks hnm hT hOK hadm
  have K0 : mh_K0 p s m ([.ref x0, .int (nI 4), .int (nI u), .int v2, .ref o0]).toArray c "MeldHostLaw" b_LW_count dC dI dA := ⟨hx, hb, hown, hts, hOK.1, hOK.2.1⟩
  have hX := hOK.2.2.2.2
  have hb0 := hOK.2.2.2.1
  have hS : va_S (mh_A b) s.heap s.heap [] := va_S.rf
  have hl := lv_entry ([.ref x0, .int (nI 4), .int (nI u), .int v2, .ref o0]) (n := 6) (Nat.le_of_ble_eq_true rfl)
  rw [lg_entry_eq]
  generalize (lg_sl ([.ref x0, .int (nI 4), .int (nI u), .int v2, .ref o0]) ++ List.replicate (6 - (lg_sl ([.ref x0, .int (nI 4), .int (nI u), .int v2, .ref o0])).length) Slot.unset).toArray = ls at hl ⊢
  have hl : lv_has ls 6 [(0, .ref x0), (1, .int (nI 4)), (2, .int (nI u)), (3, .int v2), (4, .ref o0)] := hl
  refine lv_aload hx hb d_LW_count_0 (lv_at hl 4 rfl) ?_
  refine lv_iconst (v := nI 0) hx hb d_LW_count_2 (by decide) ?_
  refine lv_aload_n hx hb d_LW_count_3 rfl (lv_at hl 0 rfl) ?_
  refine lv_iload_n hx hb d_LW_count_4 rfl (lv_at hl 1 rfl) ?_
  refine lv_iload_n hx hb d_LW_count_5 rfl (lv_at hl 2 rfl) ?_
  refine lv_iload_n hx hb d_LW_count_6 rfl (lv_at hl 3 rfl) ?_
  refine mh_callT (mh_sV (rest := [.int (nI 0), .ref o0]) (av := [.int (nI 4), .int (nI u), .int v2]) K0 hX r0 rfl e_MH_count l_LW_63 k637 k638 rfl rfl d_LW_count_7) (c_MH_count_12 hl0 hR2 hG hu hv) K0 hOK hml hl.1 e_MH_count hX hS d_LW_count_7 (Nat.le_of_ble_eq_true rfl) (Nat.le_of_ble_eq_true rfl) (Nat.le_of_ble_eq_true rfl) (Nat.le_of_ble_eq_true rfl) (Nat.le_of_ble_eq_true rfl) (fun q w1 H locs hq hw hX hS => ?_)
  obtain ⟨hC, hFC⟩ := hw
  refine mh_catch K0 hOK hX hq (E := "java/lang/IllegalArgumentException") rfl hT (pre := []) (x := (0, 12, 15, 13)) (suf := []) rfl (fun _ h => absurd h List.not_mem_nil) (by decide) (by decide) (by decide) k137 ?_
  refine W.eq (g2 := F0 m 15 ls [.ref q]) rfl ?_
  refine lv_astore (lv' := [(5, .ref q), (0, .ref x0), (1, .int (nI 4)), (2, .int (nI u)), (3, .int v2), (4, .ref o0)]) hx hb d_LW_count_15 hl (by decide) rfl (fun ls hl => ?_)
  refine lv_iconst (v := nI 1) hx hb d_LW_count_17 (by decide) ?_
  exact mh_iret K0 hr rfl hlocks hX hS (⟨rfl, hC, ⟨ov, (hFC 90 0 (by omega) (by omega)).trans hov, fun _ h => by cases h⟩, fun k i h1 h2 => hFC k i (by omega) (by omega)⟩) (Nat.le_of_ble_eq_true rfl) (Nat.le_of_ble_eq_true rfl) d_LW_count_18
