theorem tl_n_t {st : Nat → Option Int64} {low j : Nat} (h : (st (low + j)).isSome = true) : tl_n st low (j + 1) = tl_n st low j + 1 := by
  unfold tl_n
  rw [pb_cnt]
  simp [h]
theorem tl_n_f {st : Nat → Option Int64} {low j : Nat} (h : (st (low + j)).isSome = false) : tl_n st low (j + 1) = tl_n st low j := by
  unfold tl_n
  rw [pb_cnt]
  simp [h]
theorem tl_n_le (st : Nat → Option Int64) (low m : Nat) : tl_n st low m ≤ m := pb_cnt_le _ _
theorem tl_s_t {st : Nat → Option Int64} {low j : Nat} {v : Int64} (h : st (low + j) = some v) : tl_s st low (j + 1) = tl_s st low j + v := by rw [tl_s, h]
theorem tl_s_f {st : Nat → Option Int64} {low j : Nat} (h : (st (low + j)).isSome = false) : tl_s st low (j + 1) = tl_s st low j := by
  rw [tl_s]
  cases e : st (low + j) with
  | none => rfl
  | some v => rw [e] at h; cases h
theorem tl_l_t {st : Nat → Option Int64} {low j : Nat} (h0 : tl_l st low j = none) (h : (st (low + j)).isSome = true) : tl_l st low (j + 1) = some (low + j) := by rw [tl_l, h0]; exact if_pos h
theorem tl_l_f {st : Nat → Option Int64} {low j : Nat} (h0 : tl_l st low j = none) (h : (st (low + j)).isSome = false) : tl_l st low (j + 1) = none := by rw [tl_l, h0]; exact if_neg (by rw [h]; decide)
theorem tl_l_on {st : Nat → Option Int64} {low j k n : Nat} (h : tl_l st low j = some k) : tl_l st low (j + n) = some k := by
  induction n with
  | zero => exact h
  | succ n ih => rw [← Nat.add_assoc, tl_l, ih]
theorem tl_g_t {st : Nat → Option Int64} {low j : Nat} (h : (st (low + j)).isSome = true) : tl_g st low (j + 1) = some (low + j) := by rw [tl_g]; exact if_pos h
theorem tl_g_f {st : Nat → Option Int64} {low j : Nat} (h : (st (low + j)).isSome = false) : tl_g st low (j + 1) = tl_g st low j := by rw [tl_g]; exact if_neg (by rw [h]; decide)
theorem nI_dlt : ∀ n, n < 256 → nI n - 1 < nI n := by decide +kernel
theorem tl_a0 {st : Nat → Option Int64} {low m : Nat} : tl_a st low m (nI 0) = lN (tl_n st low m) := if_pos rfl
theorem tl_a1 {st : Nat → Option Int64} {low m : Nat} : tl_a st low m (nI 1) = tl_s st low m := rfl
theorem tl_a2 {st : Nat → Option Int64} {low m : Nat} : tl_a st low m (nI 2) = (tl_i (tl_l st low m)).toInt64 := rfl
theorem tl_a3 {st : Nat → Option Int64} {low m : Nat} : tl_a st low m (nI 3) = (tl_i (tl_g st low m)).toInt64 := rfl
theorem va_up_some {st : Nat → Option Int64} {key j : Nat} {v : Int64} : (va_up st key (some v) j).isSome = (decide (j = key) || (st j).isSome) := by
  by_cases e : j = key
  · subst e; rw [va_up_self]; simp
  · rw [va_up_ne _ _ e]; simp [e]
theorem va_up_none {st : Nat → Option Int64} {key j : Nat} : (va_up st key none j).isSome = (!decide (j = key) && (st j).isSome) := by
  by_cases e : j = key
  · subst e; rw [va_up_self]; simp
  · rw [va_up_ne _ _ e]; simp [e]
theorem d_NU_init_0 : decode b_NU_init 0 = .ok (.aload_n 0, 1) := by decide +kernel
theorem d_NU_init_1 : decode b_NU_init 1 = .ok (.invokespecial 3, 3) := by decide +kernel
theorem d_NU_init_4 : decode b_NU_init 4 = .ok (.aload_n 0, 1) := by decide +kernel
theorem d_NU_init_5 : decode b_NU_init 5 = .ok (.new 9, 3) := by decide +kernel
theorem d_NU_init_8 : decode b_NU_init 8 = .ok (.dup, 1) := by decide +kernel
theorem d_NU_init_9 : decode b_NU_init 9 = .ok (.invokespecial 11, 3) := by decide +kernel
theorem d_NU_init_12 : decode b_NU_init 12 = .ok (.putfield 12, 3) := by decide +kernel
theorem d_NU_init_15 : decode b_NU_init 15 = .ok (.aload_n 0, 1) := by decide +kernel
theorem d_NU_init_16 : decode b_NU_init 16 = .ok (.sipush 256, 3) := by decide +kernel
theorem d_NU_init_19 : decode b_NU_init 19 = .ok (.newarray .long, 2) := by decide +kernel
theorem d_NU_init_21 : decode b_NU_init 21 = .ok (.putfield 18, 3) := by decide +kernel
theorem d_NU_init_24 : decode b_NU_init 24 = .ok (.return_, 1) := by decide +kernel
theorem d_NU_give_0 : decode b_NU_give 0 = .ok (.aload_n 0, 1) := by decide +kernel
theorem d_NU_give_1 : decode b_NU_give 1 = .ok (.getfield 12, 3) := by decide +kernel
theorem d_NU_give_4 : decode b_NU_give 4 = .ok (.iload_n 1, 1) := by decide +kernel
theorem d_NU_give_5 : decode b_NU_give 5 = .ok (.invokevirtual 22, 3) := by decide +kernel
theorem d_NU_give_8 : decode b_NU_give 8 = .ok (.aload_n 0, 1) := by decide +kernel
theorem d_NU_give_9 : decode b_NU_give 9 = .ok (.getfield 18, 3) := by decide +kernel
theorem d_NU_give_12 : decode b_NU_give 12 = .ok (.iload_n 1, 1) := by decide +kernel
theorem d_NU_give_13 : decode b_NU_give 13 = .ok (.lload_n 2, 1) := by decide +kernel
theorem d_NU_give_14 : decode b_NU_give 14 = .ok (.lastore, 1) := by decide +kernel
theorem d_NU_give_15 : decode b_NU_give 15 = .ok (.return_, 1) := by decide +kernel
theorem d_NU_take_0 : decode b_NU_take 0 = .ok (.aload_n 0, 1) := by decide +kernel
theorem d_NU_take_1 : decode b_NU_take 1 = .ok (.getfield 12, 3) := by decide +kernel
theorem d_NU_take_4 : decode b_NU_take 4 = .ok (.iload_n 1, 1) := by decide +kernel
theorem d_NU_take_5 : decode b_NU_take 5 = .ok (.invokevirtual 26, 3) := by decide +kernel
theorem d_NU_take_8 : decode b_NU_take 8 = .ok (.return_, 1) := by decide +kernel
theorem d_NU_takeAll_0 : decode b_NU_takeAll 0 = .ok (.aload_n 0, 1) := by decide +kernel
theorem d_NU_takeAll_1 : decode b_NU_takeAll 1 = .ok (.getfield 12, 3) := by decide +kernel
theorem d_NU_takeAll_4 : decode b_NU_takeAll 4 = .ok (.invokevirtual 29, 3) := by decide +kernel
theorem d_NU_takeAll_7 : decode b_NU_takeAll 7 = .ok (.return_, 1) := by decide +kernel
theorem d_NU_copyFrom_0 : decode b_NU_copyFrom 0 = .ok (.aload_n 0, 1) := by decide +kernel
theorem d_NU_copyFrom_1 : decode b_NU_copyFrom 1 = .ok (.getfield 12, 3) := by decide +kernel
theorem d_NU_copyFrom_4 : decode b_NU_copyFrom 4 = .ok (.aload_n 1, 1) := by decide +kernel
theorem d_NU_copyFrom_5 : decode b_NU_copyFrom 5 = .ok (.getfield 12, 3) := by decide +kernel
theorem d_NU_copyFrom_8 : decode b_NU_copyFrom 8 = .ok (.invokevirtual 32, 3) := by decide +kernel
theorem d_NU_copyFrom_11 : decode b_NU_copyFrom 11 = .ok (.aload_n 1, 1) := by decide +kernel
theorem d_NU_copyFrom_12 : decode b_NU_copyFrom 12 = .ok (.getfield 18, 3) := by decide +kernel
theorem d_NU_copyFrom_15 : decode b_NU_copyFrom 15 = .ok (.iconst 0, 1) := by decide +kernel
theorem d_NU_copyFrom_16 : decode b_NU_copyFrom 16 = .ok (.aload_n 0, 1) := by decide +kernel
theorem d_NU_copyFrom_17 : decode b_NU_copyFrom 17 = .ok (.getfield 18, 3) := by decide +kernel
theorem d_NU_copyFrom_20 : decode b_NU_copyFrom 20 = .ok (.iconst 0, 1) := by decide +kernel
theorem d_NU_copyFrom_21 : decode b_NU_copyFrom 21 = .ok (.sipush 256, 3) := by decide +kernel
theorem d_NU_copyFrom_24 : decode b_NU_copyFrom 24 = .ok (.invokestatic 36, 3) := by decide +kernel
theorem d_NU_copyFrom_27 : decode b_NU_copyFrom 27 = .ok (.return_, 1) := by decide +kernel
theorem d_NU_howMany_0 : decode b_NU_howMany 0 = .ok (.iconst 0, 1) := by decide +kernel
theorem d_NU_howMany_1 : decode b_NU_howMany 1 = .ok (.istore_n 3, 1) := by decide +kernel
theorem d_NU_howMany_2 : decode b_NU_howMany 2 = .ok (.iload_n 1, 1) := by decide +kernel
theorem d_NU_howMany_3 : decode b_NU_howMany 3 = .ok (.istore 4, 2) := by decide +kernel
theorem d_NU_howMany_5 : decode b_NU_howMany 5 = .ok (.iload 4, 2) := by decide +kernel
theorem d_NU_howMany_7 : decode b_NU_howMany 7 = .ok (.iload_n 2, 1) := by decide +kernel
theorem d_NU_howMany_8 : decode b_NU_howMany 8 = .ok (.if_icmp .gt 24, 3) := by decide +kernel
theorem d_NU_howMany_32 : decode b_NU_howMany 32 = .ok (.iload_n 3, 1) := by decide +kernel
theorem d_NU_howMany_33 : decode b_NU_howMany 33 = .ok (.ireturn, 1) := by decide +kernel
theorem d_NU_howMany_11 : decode b_NU_howMany 11 = .ok (.aload_n 0, 1) := by decide +kernel
theorem d_NU_howMany_12 : decode b_NU_howMany 12 = .ok (.getfield 12, 3) := by decide +kernel
theorem d_NU_howMany_15 : decode b_NU_howMany 15 = .ok (.iload 4, 2) := by decide +kernel
theorem d_NU_howMany_17 : decode b_NU_howMany 17 = .ok (.invokevirtual 56, 3) := by decide +kernel
theorem d_NU_howMany_20 : decode b_NU_howMany 20 = .ok (.ifCond .eq 6, 3) := by decide +kernel
theorem d_NU_howMany_26 : decode b_NU_howMany 26 = .ok (.iinc 4 1, 3) := by decide +kernel
theorem d_NU_howMany_29 : decode b_NU_howMany 29 = .ok (.goto (-24), 3) := by decide +kernel
theorem d_NU_howMany_23 : decode b_NU_howMany 23 = .ok (.iinc 3 1, 3) := by decide +kernel
theorem d_NU_sum_0 : decode b_NU_sum 0 = .ok (.lconst 0, 1) := by decide +kernel
theorem d_NU_sum_1 : decode b_NU_sum 1 = .ok (.lstore_n 3, 1) := by decide +kernel
theorem d_NU_sum_2 : decode b_NU_sum 2 = .ok (.iload_n 1, 1) := by decide +kernel
theorem d_NU_sum_3 : decode b_NU_sum 3 = .ok (.istore 5, 2) := by decide +kernel
theorem d_NU_sum_5 : decode b_NU_sum 5 = .ok (.iload 5, 2) := by decide +kernel
theorem d_NU_sum_7 : decode b_NU_sum 7 = .ok (.iload_n 2, 1) := by decide +kernel
theorem d_NU_sum_8 : decode b_NU_sum 8 = .ok (.if_icmp .gt 31, 3) := by decide +kernel
theorem d_NU_sum_39 : decode b_NU_sum 39 = .ok (.lload_n 3, 1) := by decide +kernel
theorem d_NU_sum_40 : decode b_NU_sum 40 = .ok (.lreturn, 1) := by decide +kernel
theorem d_NU_sum_11 : decode b_NU_sum 11 = .ok (.aload_n 0, 1) := by decide +kernel
theorem d_NU_sum_12 : decode b_NU_sum 12 = .ok (.getfield 12, 3) := by decide +kernel
theorem d_NU_sum_15 : decode b_NU_sum 15 = .ok (.iload 5, 2) := by decide +kernel
theorem d_NU_sum_17 : decode b_NU_sum 17 = .ok (.invokevirtual 56, 3) := by decide +kernel
theorem d_NU_sum_20 : decode b_NU_sum 20 = .ok (.ifCond .eq 13, 3) := by decide +kernel
theorem d_NU_sum_33 : decode b_NU_sum 33 = .ok (.iinc 5 1, 3) := by decide +kernel
theorem d_NU_sum_36 : decode b_NU_sum 36 = .ok (.goto (-31), 3) := by decide +kernel
theorem d_NU_sum_23 : decode b_NU_sum 23 = .ok (.lload_n 3, 1) := by decide +kernel
theorem d_NU_sum_24 : decode b_NU_sum 24 = .ok (.aload_n 0, 1) := by decide +kernel
theorem d_NU_sum_25 : decode b_NU_sum 25 = .ok (.getfield 18, 3) := by decide +kernel
theorem d_NU_sum_28 : decode b_NU_sum 28 = .ok (.iload 5, 2) := by decide +kernel
theorem d_NU_sum_30 : decode b_NU_sum 30 = .ok (.laload, 1) := by decide +kernel
theorem d_NU_sum_31 : decode b_NU_sum 31 = .ok (.ladd, 1) := by decide +kernel
theorem d_NU_sum_32 : decode b_NU_sum 32 = .ok (.lstore_n 3, 1) := by decide +kernel
theorem d_NU_least_0 : decode b_NU_least 0 = .ok (.iload_n 1, 1) := by decide +kernel
theorem d_NU_least_1 : decode b_NU_least 1 = .ok (.istore_n 3, 1) := by decide +kernel
theorem d_NU_least_2 : decode b_NU_least 2 = .ok (.iload_n 3, 1) := by decide +kernel
theorem d_NU_least_3 : decode b_NU_least 3 = .ok (.iload_n 2, 1) := by decide +kernel
theorem d_NU_least_4 : decode b_NU_least 4 = .ok (.if_icmp .gt 22, 3) := by decide +kernel
theorem d_NU_least_26 : decode b_NU_least 26 = .ok (.iconst (-1), 1) := by decide +kernel
theorem d_NU_least_27 : decode b_NU_least 27 = .ok (.ireturn, 1) := by decide +kernel
theorem d_NU_least_7 : decode b_NU_least 7 = .ok (.aload_n 0, 1) := by decide +kernel
theorem d_NU_least_8 : decode b_NU_least 8 = .ok (.getfield 12, 3) := by decide +kernel
theorem d_NU_least_11 : decode b_NU_least 11 = .ok (.iload_n 3, 1) := by decide +kernel
theorem d_NU_least_12 : decode b_NU_least 12 = .ok (.invokevirtual 56, 3) := by decide +kernel
theorem d_NU_least_15 : decode b_NU_least 15 = .ok (.ifCond .eq 5, 3) := by decide +kernel
theorem d_NU_least_20 : decode b_NU_least 20 = .ok (.iinc 3 1, 3) := by decide +kernel
theorem d_NU_least_23 : decode b_NU_least 23 = .ok (.goto (-21), 3) := by decide +kernel
theorem d_NU_least_18 : decode b_NU_least 18 = .ok (.iload_n 3, 1) := by decide +kernel
theorem d_NU_least_19 : decode b_NU_least 19 = .ok (.ireturn, 1) := by decide +kernel
theorem d_NU_greatest_0 : decode b_NU_greatest 0 = .ok (.iload_n 2, 1) := by decide +kernel
theorem d_NU_greatest_1 : decode b_NU_greatest 1 = .ok (.istore_n 3, 1) := by decide +kernel
theorem d_NU_greatest_2 : decode b_NU_greatest 2 = .ok (.iload_n 3, 1) := by decide +kernel
theorem d_NU_greatest_3 : decode b_NU_greatest 3 = .ok (.iload_n 1, 1) := by decide +kernel
theorem d_NU_greatest_4 : decode b_NU_greatest 4 = .ok (.if_icmp .lt 22, 3) := by decide +kernel
theorem d_NU_greatest_26 : decode b_NU_greatest 26 = .ok (.iconst (-1), 1) := by decide +kernel
theorem d_NU_greatest_27 : decode b_NU_greatest 27 = .ok (.ireturn, 1) := by decide +kernel
theorem d_NU_greatest_7 : decode b_NU_greatest 7 = .ok (.aload_n 0, 1) := by decide +kernel
theorem d_NU_greatest_8 : decode b_NU_greatest 8 = .ok (.getfield 12, 3) := by decide +kernel
theorem d_NU_greatest_11 : decode b_NU_greatest 11 = .ok (.iload_n 3, 1) := by decide +kernel
theorem d_NU_greatest_12 : decode b_NU_greatest 12 = .ok (.invokevirtual 56, 3) := by decide +kernel
theorem d_NU_greatest_15 : decode b_NU_greatest 15 = .ok (.ifCond .eq 5, 3) := by decide +kernel
theorem d_NU_greatest_20 : decode b_NU_greatest 20 = .ok (.iinc 3 (-1), 3) := by decide +kernel
theorem d_NU_greatest_23 : decode b_NU_greatest 23 = .ok (.goto (-21), 3) := by decide +kernel
theorem d_NU_greatest_18 : decode b_NU_greatest 18 = .ok (.iload_n 3, 1) := by decide +kernel
theorem d_NU_greatest_19 : decode b_NU_greatest 19 = .ok (.ireturn, 1) := by decide +kernel
theorem d_NU_tell_0 : decode b_NU_tell 0 = .ok (.iload_n 3, 1) := by decide +kernel
theorem d_NU_tell_1 : decode b_NU_tell 1 = .ok (.tableswitch 50 0 2 #[27, 35, 42], 27) := by decide +kernel
theorem d_NU_tell_28 : decode b_NU_tell 28 = .ok (.aload_n 0, 1) := by decide +kernel
theorem d_NU_tell_29 : decode b_NU_tell 29 = .ok (.iload_n 1, 1) := by decide +kernel
theorem d_NU_tell_30 : decode b_NU_tell 30 = .ok (.iload_n 2, 1) := by decide +kernel
theorem d_NU_tell_31 : decode b_NU_tell 31 = .ok (.invokevirtual 42, 3) := by decide +kernel
theorem d_NU_tell_34 : decode b_NU_tell 34 = .ok (.i2l, 1) := by decide +kernel
theorem d_NU_tell_35 : decode b_NU_tell 35 = .ok (.lreturn, 1) := by decide +kernel
theorem d_NU_tell_36 : decode b_NU_tell 36 = .ok (.aload_n 0, 1) := by decide +kernel
theorem d_NU_tell_37 : decode b_NU_tell 37 = .ok (.iload_n 1, 1) := by decide +kernel
theorem d_NU_tell_38 : decode b_NU_tell 38 = .ok (.iload_n 2, 1) := by decide +kernel
theorem d_NU_tell_39 : decode b_NU_tell 39 = .ok (.invokevirtual 46, 3) := by decide +kernel
theorem d_NU_tell_42 : decode b_NU_tell 42 = .ok (.lreturn, 1) := by decide +kernel
theorem d_NU_tell_43 : decode b_NU_tell 43 = .ok (.aload_n 0, 1) := by decide +kernel
theorem d_NU_tell_44 : decode b_NU_tell 44 = .ok (.iload_n 1, 1) := by decide +kernel
theorem d_NU_tell_45 : decode b_NU_tell 45 = .ok (.iload_n 2, 1) := by decide +kernel
theorem d_NU_tell_46 : decode b_NU_tell 46 = .ok (.invokevirtual 50, 3) := by decide +kernel
theorem d_NU_tell_49 : decode b_NU_tell 49 = .ok (.i2l, 1) := by decide +kernel
theorem d_NU_tell_50 : decode b_NU_tell 50 = .ok (.lreturn, 1) := by decide +kernel
theorem d_NU_tell_51 : decode b_NU_tell 51 = .ok (.aload_n 0, 1) := by decide +kernel
theorem d_NU_tell_52 : decode b_NU_tell 52 = .ok (.iload_n 1, 1) := by decide +kernel
theorem d_NU_tell_53 : decode b_NU_tell 53 = .ok (.iload_n 2, 1) := by decide +kernel
theorem d_NU_tell_54 : decode b_NU_tell 54 = .ok (.invokevirtual 53, 3) := by decide +kernel
theorem d_NU_tell_57 : decode b_NU_tell 57 = .ok (.i2l, 1) := by decide +kernel
theorem d_NU_tell_58 : decode b_NU_tell 58 = .ok (.lreturn, 1) := by decide +kernel
set_option maxHeartbeats 4000000 in
set_option maxRecDepth 100000 in
theorem c_NU_init {l : Launch} {b : Nat} {dC : Nat → ClassId} {dI : Nat → Nat → Nat} {dA : Nat → ClassId} {zs : Nat → Nat} {w : mh_w} {k i a : Nat} (h : w k i = some (a, .inr (1, [.null, .null]))) : mh_Met l b dC dI dA zs y_NU_init (mh_rm 2 3 261) [.ref a] w (mh_V none (fun w' => rN dA w' k i a (fun _ => none) ∧ mh_F w w' k 4 i)) := by
  refine mh_ofW (cc := b_NU_init) (n := 1) (ret := none) (hs := []) (by decide) k70 ?_
  intro p e s m below meth c hx hb hr hml hown hts hlocks hnm hT hOK hadm
  have K0 : mh_K0 p s m ([.ref a]).toArray c "MeldHost$Numbers" b_NU_init dC dI dA := ⟨hx, hb, hown, hts, hOK.1, hOK.2.1⟩
  have hX := hOK.2.2.2.2
  have hb0 := hOK.2.2.2.1
  have hS : va_S (mh_A b) s.heap s.heap [] := va_S.rf
  have hl := lv_entry ([.ref a]) (n := 1) (Nat.le_of_ble_eq_true rfl)
  rw [lg_entry_eq]
  generalize (lg_sl ([.ref a]) ++ List.replicate (1 - (lg_sl ([.ref a])).length) Slot.unset).toArray = ls at hl ⊢
  have hl : lv_has ls 1 [(0, .ref a)] := hl
  refine lv_aload_n hx hb d_NU_init_0 rfl (lv_at hl 0 rfl) ?_
  refine W.objInit hx hb hown (hts _ k71) (hts _ k31) (hts _ k32) rfl (by rw [hml]; exact hl.1) rfl d_NU_init_1 (Nat.le_of_ble_eq_true rfl) (Nat.le_of_ble_eq_true rfl) ?_
  refine W.eq (g2 := F0 m 4 ls []) rfl ?_
  refine lv_aload_n hx hb d_NU_init_4 rfl (lv_at hl 0 rfl) ?_
  refine mh_new (k + 1) i K0 hX hS hb0 (ci := 0) rfl i_KS ty_KS ty_KS_ok k72 k73 k7 (fs := [.null]) (by decide) (Nat.le_of_ble_eq_true rfl) (Nat.le_of_ble_eq_true rfl) d_NU_init_5 (fun q H hX hS => ?_)
  have fs8 := mh_self hX
  refine lv_dup hx hb d_NU_init_8 rfl ?_
  refine mh_callV (mh_sI (rest := [.ref q, .ref a]) (av := []) K0 e_KS_init l_NU_11 k75 rfl rfl rfl d_NU_init_9) (c_KS_init (mh_set_eq _ _ _ _)) K0 hOK hml hl.1 e_KS_init hX hS d_NU_init_9 (Nat.le_of_ble_eq_true rfl) (Nat.le_of_ble_eq_true rfl) (Nat.le_of_ble_eq_true rfl) (Nat.le_of_ble_eq_true rfl) (Nat.le_of_ble_eq_true rfl) (fun w1 H locs ⟨hK, hF⟩ hX hS => ?_)
  refine W.eq (g2 := F0 m 12 ls [.ref q, .ref a]) rfl ?_
  refine mh_putF K0 hX hS ((hF k i (by omega)).trans (mh_kp h (by omega))) f_NU_12 p_1_0 hnm (fun C T N h => by cases h; rfl) rfl rfl (Nat.le_of_ble_eq_true rfl) d_NU_init_12 (fun C T N h => by cases h; exact k83) (fun H locs hX hS => ?_)
  have hX : mh_P (dC, dI) b (mh_set _ k i (some (a, .inr (1, [.ref q, .null])))) H := hX
  have fs9 := mh_self hX
  refine lv_aload_n hx hb d_NU_init_15 rfl (lv_at hl 0 rfl) ?_
  refine lv_sipush (v := nI 256) hx hb d_NU_init_16 (by decide) ?_
  refine mh_newa (k + 3) i 1 K0 hX hS hb0 (ty := .long) rfl rfl k82 (N' := 256) (a0 := (256, .inr (.inl (fun _ => 0)))) (fun cA => rfl) (by decide) (by decide) (by decide) (Nat.le_of_ble_eq_true rfl) (Nat.le_of_ble_eq_true rfl) d_NU_init_19 (fun q3 H hX hS => ?_)
  have fs10 := mh_self hX
  refine mh_putF K0 hX hS (mh_kp fs9 (by omega)) f_NU_18 p_1_1 hnm (fun C T N h => by cases h; rfl) rfl rfl (Nat.le_of_ble_eq_true rfl) d_NU_init_21 (fun C T N h => by cases h; exact k85) (fun H locs hX hS => ?_)
  have hX : mh_P (dC, dI) b (mh_set _ k i (some (a, .inr (1, [.ref q, .ref q3])))) H := hX
  have fs11 := mh_self hX
  exact mh_vret K0 hr hlocks hX hS (⟨rfl, ⟨q, q3, _, mh_set_eq _ _ _ _, hK.to (fun z hz => by rw [mh_set_ne _ _ _ _ (by omega), mh_set_ne _ _ _ _ (by omega), mh_set_ne _ _ _ _ (by omega)]) (fun j _ => rfl), mh_kp (mh_set_eq _ _ _ _) (by omega), fun j v _ hv => by cases hv⟩, (((mh_F.tr (k := k) (n := 4) (mh_F.rf.set (k := k + 1) (n := 1) (by omega) (by omega)) hF (by omega) (by omega) (by omega) (by omega)).set (by omega) (by omega)).set (by omega) (by omega)).set (by omega) (by omega)⟩) (Nat.le_of_ble_eq_true rfl) (Nat.le_of_ble_eq_true rfl) d_NU_init_24
set_option maxHeartbeats 4000000 in
set_option maxRecDepth 100000 in
theorem c_NU_give {l : Launch} {b : Nat} {dC : Nat → ClassId} {dI : Nat → Nat → Nat} {dA : Nat → ClassId} {zs : Nat → Nat} {w : mh_w} {k i a : Nat} {st : Nat → Option Int64} (h : rN dA w k i a st) {key : Nat} {v : Int64} (hk : key < 256) : mh_Met l b dC dI dA zs y_NU_give (mh_rm 1 0 0) [.ref a, .int (nI key), .long v] w (mh_V none (fun w' => rN dA w' k i a (va_up st key (some v)) ∧ mh_F w w' k 4 i)) := by
  obtain ⟨a1, a3, f, h0, hK, h3, hf⟩ := h
  have hK2 := hK
  obtain ⟨b1, fb, hk0, hk1, hkf⟩ := hK2
  refine mh_ofW (cc := b_NU_give) (n := 4) (ret := none) (hs := []) (by decide) k386 ?_
  intro p e s m below meth c hx hb hr hml hown hts hlocks hnm hT hOK hadm
  have K0 : mh_K0 p s m ([.ref a, .int (nI key), .long v]).toArray c "MeldHost$Numbers" b_NU_give dC dI dA := ⟨hx, hb, hown, hts, hOK.1, hOK.2.1⟩
  have hX := hOK.2.2.2.2
  have hb0 := hOK.2.2.2.1
  have hS : va_S (mh_A b) s.heap s.heap [] := va_S.rf
  have hl := lv_entry ([.ref a, .int (nI key), .long v]) (n := 4) (Nat.le_of_ble_eq_true rfl)
  rw [lg_entry_eq]
  generalize (lg_sl ([.ref a, .int (nI key), .long v]) ++ List.replicate (4 - (lg_sl ([.ref a, .int (nI key), .long v])).length) Slot.unset).toArray = ls at hl ⊢
  have hl : lv_has ls 4 [(0, .ref a), (1, .int (nI key)), (2, .long v)] := hl
  refine lv_aload_n hx hb d_NU_give_0 rfl (lv_at hl 0 rfl) ?_
  refine mh_get K0 hX h0 f_NU_12 rfl d_NU_give_1 ?_
  refine lv_iload_n hx hb d_NU_give_4 rfl (lv_at hl 1 rfl) ?_
  refine mh_callV (mh_sV (rest := []) (av := [.int (nI key)]) K0 hX hk0 rfl e_KS_add l_NU_22 k319 k320 rfl rfl d_NU_give_5) (c_KS_add hK hk) K0 hOK hml hl.1 e_KS_add hX hS d_NU_give_5 (Nat.le_of_ble_eq_true rfl) (Nat.le_of_ble_eq_true rfl) (Nat.le_of_ble_eq_true rfl) (Nat.le_of_ble_eq_true rfl) (Nat.le_of_ble_eq_true rfl) (fun w1 H locs ⟨hK1, hF⟩ hX hS => ?_)
  refine W.eq (g2 := F0 m 8 ls []) rfl ?_
  refine lv_aload_n hx hb d_NU_give_8 rfl (lv_at hl 0 rfl) ?_
  refine mh_get K0 hX ((hF k i (by omega)).trans h0) f_NU_18 rfl d_NU_give_9 ?_
  refine lv_iload_n hx hb d_NU_give_12 rfl (lv_at hl 1 rfl) ?_
  refine lv_lload_n hx hb d_NU_give_13 rfl (lv_at hl 2 rfl) ?_
  refine mh_lastN K0 hX hS ((hF (k + 3) i (by omega)).trans h3) (by omega) (by omega) d_NU_give_14 (fun H locs hX hS => ?_)
  have fs12 := mh_self hX
  exact mh_vret K0 hr hlocks hX hS (⟨rfl, ⟨a1, a3, _, mh_kp ((hF k i (by omega)).trans h0) (by omega), hK1.to (fun z hz => mh_set_ne _ _ _ _ (by omega)) (fun j _ => va_up_some.symm), mh_set_eq _ _ _ _, fun j u hj hu => by
      by_cases e : j = key
      · subst e; rw [va_up_self] at hu; cases hu; exact pk_uLs
      · rw [va_up_ne _ _ e] at hu; rw [pk_uLn e]; exact hf j u hj hu⟩, (mh_F.tr (k := k) (n := 4) hF mh_F.rf (k2 := k) (n2 := 4) (by omega) (by omega) (by omega) (by omega)).set (by omega) (by omega)⟩) (Nat.le_of_ble_eq_true rfl) (Nat.le_of_ble_eq_true rfl) d_NU_give_15
set_option maxHeartbeats 4000000 in
set_option maxRecDepth 100000 in
theorem c_NU_take {l : Launch} {b : Nat} {dC : Nat → ClassId} {dI : Nat → Nat → Nat} {dA : Nat → ClassId} {zs : Nat → Nat} {w : mh_w} {k i a : Nat} {st : Nat → Option Int64} (h : rN dA w k i a st) {key : Nat} (hk : key < 256) : mh_Met l b dC dI dA zs y_NU_take (mh_rm 1 0 0) [.ref a, .int (nI key)] w (mh_V none (fun w' => rN dA w' k i a (va_up st key none) ∧ mh_F w w' k 4 i)) := by
  obtain ⟨a1, a3, f, h0, hK, h3, hf⟩ := h
  have hK2 := hK
  obtain ⟨b1, fb, hk0, hk1, hkf⟩ := hK2
  refine mh_ofW (cc := b_NU_take) (n := 2) (ret := none) (hs := []) (by decide) k398 ?_
  intro p e s m below meth c hx hb hr hml hown hts hlocks hnm hT hOK hadm
  have K0 : mh_K0 p s m ([.ref a, .int (nI key)]).toArray c "MeldHost$Numbers" b_NU_take dC dI dA := ⟨hx, hb, hown, hts, hOK.1, hOK.2.1⟩
  have hX := hOK.2.2.2.2
  have hb0 := hOK.2.2.2.1
  have hS : va_S (mh_A b) s.heap s.heap [] := va_S.rf
  have hl := lv_entry ([.ref a, .int (nI key)]) (n := 2) (Nat.le_of_ble_eq_true rfl)
  rw [lg_entry_eq]
  generalize (lg_sl ([.ref a, .int (nI key)]) ++ List.replicate (2 - (lg_sl ([.ref a, .int (nI key)])).length) Slot.unset).toArray = ls at hl ⊢
  have hl : lv_has ls 2 [(0, .ref a), (1, .int (nI key))] := hl
  refine lv_aload_n hx hb d_NU_take_0 rfl (lv_at hl 0 rfl) ?_
  refine mh_get K0 hX h0 f_NU_12 rfl d_NU_take_1 ?_
  refine lv_iload_n hx hb d_NU_take_4 rfl (lv_at hl 1 rfl) ?_
  refine mh_callV (mh_sV (rest := []) (av := [.int (nI key)]) K0 hX hk0 rfl e_KS_drop l_NU_26 k400 k401 rfl rfl d_NU_take_5) (c_KS_drop hK hk) K0 hOK hml hl.1 e_KS_drop hX hS d_NU_take_5 (Nat.le_of_ble_eq_true rfl) (Nat.le_of_ble_eq_true rfl) (Nat.le_of_ble_eq_true rfl) (Nat.le_of_ble_eq_true rfl) (Nat.le_of_ble_eq_true rfl) (fun w1 H locs ⟨hK1, hF⟩ hX hS => ?_)
  refine W.eq (g2 := F0 m 8 ls []) rfl ?_
  exact mh_vret K0 hr hlocks hX hS (⟨rfl, ⟨a1, a3, f, (hF k i (by omega)).trans h0, hK1.to (fun z hz => rfl) (fun j _ => va_up_none.symm), (hF (k + 3) i (by omega)).trans h3, fun j u hj hu => by
      by_cases e : j = key
      · subst e; rw [va_up_self] at hu; cases hu
      · rw [va_up_ne _ _ e] at hu; exact hf j u hj hu⟩, fun k2 i2 h2 => hF k2 i2 (by omega)⟩) (Nat.le_of_ble_eq_true rfl) (Nat.le_of_ble_eq_true rfl) d_NU_take_8
set_option maxHeartbeats 4000000 in
set_option maxRecDepth 100000 in
theorem c_NU_takeAll {l : Launch} {b : Nat} {dC : Nat → ClassId} {dI : Nat → Nat → Nat} {dA : Nat → ClassId} {zs : Nat → Nat} {w : mh_w} {k i a : Nat} {st : Nat → Option Int64} (h : rN dA w k i a st) : mh_Met l b dC dI dA zs y_NU_takeAll (mh_rm 2 0 0) [.ref a] w (mh_V none (fun w' => rN dA w' k i a (fun _ => none) ∧ mh_F w w' k 4 i)) := by
  obtain ⟨a1, a3, f, h0, hK, h3, hf⟩ := h
  have hK2 := hK
  obtain ⟨b1, fb, hk0, hk1, hkf⟩ := hK2
  refine mh_ofW (cc := b_NU_takeAll) (n := 1) (ret := none) (hs := []) (by decide) k578 ?_
  intro p e s m below meth c hx hb hr hml hown hts hlocks hnm hT hOK hadm
  have K0 : mh_K0 p s m ([.ref a]).toArray c "MeldHost$Numbers" b_NU_takeAll dC dI dA := ⟨hx, hb, hown, hts, hOK.1, hOK.2.1⟩
  have hX := hOK.2.2.2.2
  have hb0 := hOK.2.2.2.1
  have hS : va_S (mh_A b) s.heap s.heap [] := va_S.rf
  have hl := lv_entry ([.ref a]) (n := 1) (Nat.le_of_ble_eq_true rfl)
  rw [lg_entry_eq]
  generalize (lg_sl ([.ref a]) ++ List.replicate (1 - (lg_sl ([.ref a])).length) Slot.unset).toArray = ls at hl ⊢
  have hl : lv_has ls 1 [(0, .ref a)] := hl
  refine lv_aload_n hx hb d_NU_takeAll_0 rfl (lv_at hl 0 rfl) ?_
  refine mh_get K0 hX h0 f_NU_12 rfl d_NU_takeAll_1 ?_
  refine mh_callV (mh_sV (rest := []) (av := []) K0 hX hk0 rfl e_KS_dropAll l_NU_29 k580 k581 rfl rfl d_NU_takeAll_4) (c_KS_dropAll hK) K0 hOK hml hl.1 e_KS_dropAll hX hS d_NU_takeAll_4 (Nat.le_of_ble_eq_true rfl) (Nat.le_of_ble_eq_true rfl) (Nat.le_of_ble_eq_true rfl) (Nat.le_of_ble_eq_true rfl) (Nat.le_of_ble_eq_true rfl) (fun w1 H locs ⟨hK1, hF⟩ hX hS => ?_)
  refine W.eq (g2 := F0 m 7 ls []) rfl ?_
  exact mh_vret K0 hr hlocks hX hS (⟨rfl, ⟨a1, a3, f, (hF k i (by omega)).trans h0, hK1, (hF (k + 3) i (by omega)).trans h3, fun j u hj hu => by cases hu⟩, fun k2 i2 h2 => hF k2 i2 (by omega)⟩) (Nat.le_of_ble_eq_true rfl) (Nat.le_of_ble_eq_true rfl) d_NU_takeAll_7
set_option maxHeartbeats 4000000 in
set_option maxRecDepth 100000 in
theorem c_NU_copyFrom {l : Launch} {b : Nat} {dC : Nat → ClassId} {dI : Nat → Nat → Nat} {dA : Nat → ClassId} {zs : Nat → Nat} {w : mh_w} {k i a : Nat} {st : Nat → Option Int64} (h : rN dA w k i a st) {k2 i2 a2 : Nat} {st2 : Nat → Option Int64} (g : rN dA w k2 i2 a2 st2) (hd : k + 4 ≤ k2 ∨ k2 + 4 ≤ k) : mh_Met l b dC dI dA zs y_NU_copyFrom (mh_rm 2 0 0) [.ref a, .ref a2] w (mh_V none (fun w' => rN dA w' k i a st2 ∧ mh_F w w' k 4 i)) := by
  obtain ⟨a1, a3, f, h0, hK, h3, hf⟩ := h
  have hK2 := hK
  obtain ⟨b1, fb, hk0, hk1, hkf⟩ := hK2
  obtain ⟨c1, c3, gf, g0, gK, g3, hgf⟩ := g
  refine mh_ofW (cc := b_NU_copyFrom) (n := 2) (ret := none) (hs := []) (by decide) k284 ?_
  intro p e s m below meth c hx hb hr hml hown hts hlocks hnm hT hOK hadm
  have K0 : mh_K0 p s m ([.ref a, .ref a2]).toArray c "MeldHost$Numbers" b_NU_copyFrom dC dI dA := ⟨hx, hb, hown, hts, hOK.1, hOK.2.1⟩
  have hX := hOK.2.2.2.2
  have hb0 := hOK.2.2.2.1
  have hS : va_S (mh_A b) s.heap s.heap [] := va_S.rf
  have hl := lv_entry ([.ref a, .ref a2]) (n := 2) (Nat.le_of_ble_eq_true rfl)
  rw [lg_entry_eq]
  generalize (lg_sl ([.ref a, .ref a2]) ++ List.replicate (2 - (lg_sl ([.ref a, .ref a2])).length) Slot.unset).toArray = ls at hl ⊢
  have hl : lv_has ls 2 [(0, .ref a), (1, .ref a2)] := hl
  refine lv_aload_n hx hb d_NU_copyFrom_0 rfl (lv_at hl 0 rfl) ?_
  refine mh_get K0 hX h0 f_NU_12 rfl d_NU_copyFrom_1 ?_
  refine lv_aload_n hx hb d_NU_copyFrom_4 rfl (lv_at hl 1 rfl) ?_
  refine mh_get K0 hX g0 f_NU_12 rfl d_NU_copyFrom_5 ?_
  refine mh_callV (mh_sV (rest := []) (av := [.ref c1]) K0 hX hk0 rfl e_KS_copyFrom l_NU_32 k286 k287 rfl rfl d_NU_copyFrom_8) (c_KS_copyFrom hK gK) K0 hOK hml hl.1 e_KS_copyFrom hX hS d_NU_copyFrom_8 (Nat.le_of_ble_eq_true rfl) (Nat.le_of_ble_eq_true rfl) (Nat.le_of_ble_eq_true rfl) (Nat.le_of_ble_eq_true rfl) (Nat.le_of_ble_eq_true rfl) (fun w1 H locs ⟨hK1, hF⟩ hX hS => ?_)
  refine W.eq (g2 := F0 m 11 ls []) rfl ?_
  refine lv_aload_n hx hb d_NU_copyFrom_11 rfl (lv_at hl 1 rfl) ?_
  refine mh_get K0 hX ((hF k2 i2 (by omega)).trans g0) f_NU_18 rfl d_NU_copyFrom_12 ?_
  refine lv_iconst (v := nI 0) hx hb d_NU_copyFrom_15 (by decide) ?_
  refine lv_aload_n hx hb d_NU_copyFrom_16 rfl (lv_at hl 0 rfl) ?_
  refine mh_get K0 hX ((hF k i (by omega)).trans h0) f_NU_18 rfl d_NU_copyFrom_17 ?_
  refine lv_iconst (v := nI 0) hx hb d_NU_copyFrom_20 (by decide) ?_
  refine lv_sipush (v := nI 256) hx hb d_NU_copyFrom_21 (by decide) ?_
  refine mh_copyl (rest := []) K0 hml hl.1 k292 k291 k290 k17 hX hS ((hF (k2 + 3) i2 (by omega)).trans g3) ((hF (k + 3) i (by omega)).trans h3) (n := 256) (by omega) (by omega) (by omega) (Nat.le_of_ble_eq_true rfl) (Nat.le_of_ble_eq_true rfl) d_NU_copyFrom_24 (fun H locs hX hS => ?_)
  have fs13 := mh_self hX
  exact mh_vret K0 hr hlocks hX hS (⟨rfl, ⟨a1, a3, _, mh_kp ((hF k i (by omega)).trans h0) (by omega), hK1.to (fun z hz => mh_set_ne _ _ _ _ (by omega)) (fun j _ => rfl), mh_set_eq _ _ _ _, fun j u hj hu => by rw [pk_cpy_in (by omega) (by omega), Nat.zero_add, Nat.sub_zero]; exact hgf j u hj hu⟩, (mh_F.tr (k := k) (n := 4) hF mh_F.rf (k2 := k) (n2 := 4) (by omega) (by omega) (by omega) (by omega)).set (by omega) (by omega)⟩) (Nat.le_of_ble_eq_true rfl) (Nat.le_of_ble_eq_true rfl) d_NU_copyFrom_27
set_option maxHeartbeats 4000000 in
set_option maxRecDepth 100000 in
theorem c_NU_howMany {l : Launch} {b : Nat} {dC : Nat → ClassId} {dI : Nat → Nat → Nat} {dA : Nat → ClassId} {zs : Nat → Nat} {w : mh_w} {k i a : Nat} {st : Nat → Option Int64} (h : rN dA w k i a st) {low high : Nat} (h1 : low ≤ high) (h2 : high < 256) : mh_Met l b dC dI dA zs y_NU_howMany (mh_rm 1 0 0) [.ref a, .int (nI low), .int (nI high)] w (mh_V (some (.int (nI (tl_n st low (high + 1 - low))))) (fun w' => w' = w)) := by
  obtain ⟨a1, a3, f, h0, hK, h3, hf⟩ := h
  have hK2 := hK
  obtain ⟨b1, fb, hk0, hk1, hkf⟩ := hK2
  refine mh_ofW (cc := b_NU_howMany) (n := 5) (ret := (some .int)) (hs := []) (by decide) k426 ?_
  intro p e s m below meth c hx hb hr hml hown hts hlocks hnm hT hOK hadm
  have K0 : mh_K0 p s m ([.ref a, .int (nI low), .int (nI high)]).toArray c "MeldHost$Numbers" b_NU_howMany dC dI dA := ⟨hx, hb, hown, hts, hOK.1, hOK.2.1⟩
  have hX := hOK.2.2.2.2
  have hb0 := hOK.2.2.2.1
  have hS : va_S (mh_A b) s.heap s.heap [] := va_S.rf
  have hl := lv_entry ([.ref a, .int (nI low), .int (nI high)]) (n := 5) (Nat.le_of_ble_eq_true rfl)
  rw [lg_entry_eq]
  generalize (lg_sl ([.ref a, .int (nI low), .int (nI high)]) ++ List.replicate (5 - (lg_sl ([.ref a, .int (nI low), .int (nI high)])).length) Slot.unset).toArray = ls at hl ⊢
  have hl : lv_has ls 5 [(0, .ref a), (1, .int (nI low)), (2, .int (nI high))] := hl
  refine lv_iconst (v := nI 0) hx hb d_NU_howMany_0 (by decide) ?_
  refine lv_istore_n (lv' := [(3, .int (nI 0)), (0, .ref a), (1, .int (nI low)), (2, .int (nI high))]) hx hb d_NU_howMany_1 rfl hl (by decide) rfl (fun ls hl => ?_)
  refine lv_iload_n hx hb d_NU_howMany_2 rfl (lv_at hl 2 rfl) ?_
  refine lv_istore (lv' := [(4, .int (nI low)), (3, .int (nI 0)), (0, .ref a), (1, .int (nI low)), (2, .int (nI high))]) hx hb d_NU_howMany_3 hl (by decide) rfl (fun ls hl => ?_)
  have LP : ∀ (n : Nat) (j : Nat) (H : Heap) (locs : List Loc) (ls : Array Slot), mh_P (dC, dI) b w H → va_S (mh_A b) s.heap H locs → lv_has ls 5 [(4, .int (nI (low + j))), (3, .int (nI (tl_n st low j))), (0, .ref a), (1, .int (nI low)), (2, .int (nI high))] → (j + n = high + 1 - low) → W p l e (mh_rm 1 0 0) s m ([.ref a, .int (nI low), .int (nI high)]).toArray below meth c H locs (0) (0) (mh_MQ below b dC dI (mh_V (some (.int (nI (tl_n st low (high + 1 - low))))) (fun w' => w' = w)) ([.ref a, .int (nI low), .int (nI high)]).toArray s 0 0) (F0 m 5 ls []) := by
    intro n
    induction n with
    | zero =>
      intro j H locs ls hX hS hl hn
      refine lv_iload hx hb d_NU_howMany_5 (lv_at hl 0 rfl) ?_
      refine lv_iload_n hx hb d_NU_howMany_7 rfl (lv_at hl 4 rfl) ?_
      refine mh_icmp_gt (tgt := 32) hx hb (by omega) (by omega) d_NU_howMany_8 (by decide) (fun _ => ?_) (fun z => absurd z (by omega))
      refine lv_iload_n hx hb d_NU_howMany_32 rfl (lv_at hl 1 rfl) ?_
      exact mh_iret K0 hr rfl hlocks hX hS (⟨by rw [show high + 1 - low = j by omega], rfl⟩) (Nat.le_of_ble_eq_true rfl) (Nat.le_of_ble_eq_true rfl) d_NU_howMany_33
    | succ n ih =>
      intro j H locs ls hX hS hl hn
      refine lv_iload hx hb d_NU_howMany_5 (lv_at hl 0 rfl) ?_
      refine lv_iload_n hx hb d_NU_howMany_7 rfl (lv_at hl 4 rfl) ?_
      refine mh_icmp_gt (tgt := 32) hx hb (by omega) (by omega) d_NU_howMany_8 (by decide) (fun z => absurd z (by omega)) (fun _ => ?_)
      refine lv_aload_n hx hb d_NU_howMany_11 rfl (lv_at hl 2 rfl) ?_
      refine mh_get K0 hX h0 f_NU_12 rfl d_NU_howMany_12 ?_
      refine lv_iload hx hb d_NU_howMany_15 (lv_at hl 0 rfl) ?_
      refine mh_callR (mh_sV (rest := []) (av := [.int (nI (low + j))]) K0 hX hk0 rfl e_KS_has l_NU_56 k326 k327 rfl rfl d_NU_howMany_17) (c_KS_has (key := low + j) hK (by omega)) K0 hOK hml hl.1 e_KS_has hX hS d_NU_howMany_17 (Nat.le_of_ble_eq_true rfl) (Nat.le_of_ble_eq_true rfl) (Nat.le_of_ble_eq_true rfl) (Nat.le_of_ble_eq_true rfl) (Nat.le_of_ble_eq_true rfl) (fun H locs hX hS => ?_)
      refine W.eq (g2 := F0 m 20 ls [.int (mh_b ((st (low + j)).isSome))]) rfl ?_
      refine mh_ifeqB (tgt := 26) hx hb d_NU_howMany_20 (by decide) (fun ct => ?_) (fun cf => ?_)
      · skip
        refine lv_iinc (v := nI ((low + j) + 1)) (k := 0) (lv' := [(4, .int (nI ((low + j) + 1))), (3, .int (nI (tl_n st low j))), (0, .ref a), (1, .int (nI low)), (2, .int (nI high))]) hx hb d_NU_howMany_26 hl rfl (mh_inc (low + j)) (by decide) rfl (fun ls hl => ?_)
        refine lv_goto (tgt := 5) hx hb d_NU_howMany_29 (by decide) ?_
        have hl : lv_has ls 5 [(4, .int (nI (low + (j + 1)))), (3, .int (nI (tl_n st low (j + 1)))), (0, .ref a), (1, .int (nI low)), (2, .int (nI high))] := by rw [tl_n_f ct]; exact hl
        exact ih (j + 1) _ _ _ hX hS hl (by omega)
      · skip
        refine lv_iinc (v := nI ((tl_n st low j) + 1)) (k := 1) (lv' := [(3, .int (nI ((tl_n st low j) + 1))), (4, .int (nI (low + j))), (0, .ref a), (1, .int (nI low)), (2, .int (nI high))]) hx hb d_NU_howMany_23 hl rfl (mh_inc (tl_n st low j)) (by decide) rfl (fun ls hl => ?_)
        refine lv_iinc (v := nI ((low + j) + 1)) (k := 1) (lv' := [(4, .int (nI ((low + j) + 1))), (3, .int (nI ((tl_n st low j) + 1))), (0, .ref a), (1, .int (nI low)), (2, .int (nI high))]) hx hb d_NU_howMany_26 hl rfl (mh_inc (low + j)) (by decide) rfl (fun ls hl => ?_)
        refine lv_goto (tgt := 5) hx hb d_NU_howMany_29 (by decide) ?_
        have hl : lv_has ls 5 [(4, .int (nI (low + (j + 1)))), (3, .int (nI (tl_n st low (j + 1)))), (0, .ref a), (1, .int (nI low)), (2, .int (nI high))] := by rw [tl_n_t cf]; exact hl
        exact ih (j + 1) _ _ _ hX hS hl (by omega)
  exact LP (high + 1 - low) 0 _ _ _ hX hS hl (by omega)
set_option maxHeartbeats 4000000 in
set_option maxRecDepth 100000 in
theorem c_NU_sum {l : Launch} {b : Nat} {dC : Nat → ClassId} {dI : Nat → Nat → Nat} {dA : Nat → ClassId} {zs : Nat → Nat} {w : mh_w} {k i a : Nat} {st : Nat → Option Int64} (h : rN dA w k i a st) {low high : Nat} (h1 : low ≤ high) (h2 : high < 256) : mh_Met l b dC dI dA zs y_NU_sum (mh_rm 1 0 0) [.ref a, .int (nI low), .int (nI high)] w (mh_V (some (.long (tl_s st low (high + 1 - low)))) (fun w' => w' = w)) := by
  obtain ⟨a1, a3, f, h0, hK, h3, hf⟩ := h
  have hK2 := hK
  obtain ⟨b1, fb, hk0, hk1, hkf⟩ := hK2
  refine mh_ofW (cc := b_NU_sum) (n := 6) (ret := (some .long)) (hs := []) (by decide) k431 ?_
  intro p e s m below meth c hx hb hr hml hown hts hlocks hnm hT hOK hadm
  have K0 : mh_K0 p s m ([.ref a, .int (nI low), .int (nI high)]).toArray c "MeldHost$Numbers" b_NU_sum dC dI dA := ⟨hx, hb, hown, hts, hOK.1, hOK.2.1⟩
  have hX := hOK.2.2.2.2
  have hb0 := hOK.2.2.2.1
  have hS : va_S (mh_A b) s.heap s.heap [] := va_S.rf
  have hl := lv_entry ([.ref a, .int (nI low), .int (nI high)]) (n := 6) (Nat.le_of_ble_eq_true rfl)
  rw [lg_entry_eq]
  generalize (lg_sl ([.ref a, .int (nI low), .int (nI high)]) ++ List.replicate (6 - (lg_sl ([.ref a, .int (nI low), .int (nI high)])).length) Slot.unset).toArray = ls at hl ⊢
  have hl : lv_has ls 6 [(0, .ref a), (1, .int (nI low)), (2, .int (nI high))] := hl
  refine lv_lconst (v := 0) hx hb d_NU_sum_0 rfl ?_
  refine lv_lstore_n (lv' := [(3, .long 0), (0, .ref a), (1, .int (nI low)), (2, .int (nI high))]) hx hb d_NU_sum_1 rfl hl (by decide) rfl (fun ls hl => ?_)
  refine lv_iload_n hx hb d_NU_sum_2 rfl (lv_at hl 2 rfl) ?_
  refine lv_istore (lv' := [(5, .int (nI low)), (3, .long 0), (0, .ref a), (1, .int (nI low)), (2, .int (nI high))]) hx hb d_NU_sum_3 hl (by decide) rfl (fun ls hl => ?_)
  have LP : ∀ (n : Nat) (j : Nat) (H : Heap) (locs : List Loc) (ls : Array Slot), mh_P (dC, dI) b w H → va_S (mh_A b) s.heap H locs → lv_has ls 6 [(5, .int (nI (low + j))), (3, .long (tl_s st low j)), (0, .ref a), (1, .int (nI low)), (2, .int (nI high))] → (j + n = high + 1 - low) → W p l e (mh_rm 1 0 0) s m ([.ref a, .int (nI low), .int (nI high)]).toArray below meth c H locs (0) (0) (mh_MQ below b dC dI (mh_V (some (.long (tl_s st low (high + 1 - low)))) (fun w' => w' = w)) ([.ref a, .int (nI low), .int (nI high)]).toArray s 0 0) (F0 m 5 ls []) := by
    intro n
    induction n with
    | zero =>
      intro j H locs ls hX hS hl hn
      refine lv_iload hx hb d_NU_sum_5 (lv_at hl 0 rfl) ?_
      refine lv_iload_n hx hb d_NU_sum_7 rfl (lv_at hl 4 rfl) ?_
      refine mh_icmp_gt (tgt := 39) hx hb (by omega) (by omega) d_NU_sum_8 (by decide) (fun _ => ?_) (fun z => absurd z (by omega))
      refine lv_lload_n hx hb d_NU_sum_39 rfl (lv_at hl 1 rfl) ?_
      exact mh_lret K0 hr hlocks hX hS (⟨by rw [show high + 1 - low = j by omega], rfl⟩) (Nat.le_of_ble_eq_true rfl) (Nat.le_of_ble_eq_true rfl) d_NU_sum_40
    | succ n ih =>
      intro j H locs ls hX hS hl hn
      refine lv_iload hx hb d_NU_sum_5 (lv_at hl 0 rfl) ?_
      refine lv_iload_n hx hb d_NU_sum_7 rfl (lv_at hl 4 rfl) ?_
      refine mh_icmp_gt (tgt := 39) hx hb (by omega) (by omega) d_NU_sum_8 (by decide) (fun z => absurd z (by omega)) (fun _ => ?_)
      refine lv_aload_n hx hb d_NU_sum_11 rfl (lv_at hl 2 rfl) ?_
      refine mh_get K0 hX h0 f_NU_12 rfl d_NU_sum_12 ?_
      refine lv_iload hx hb d_NU_sum_15 (lv_at hl 0 rfl) ?_
      refine mh_callR (mh_sV (rest := []) (av := [.int (nI (low + j))]) K0 hX hk0 rfl e_KS_has l_NU_56 k326 k327 rfl rfl d_NU_sum_17) (c_KS_has (key := low + j) hK (by omega)) K0 hOK hml hl.1 e_KS_has hX hS d_NU_sum_17 (Nat.le_of_ble_eq_true rfl) (Nat.le_of_ble_eq_true rfl) (Nat.le_of_ble_eq_true rfl) (Nat.le_of_ble_eq_true rfl) (Nat.le_of_ble_eq_true rfl) (fun H locs hX hS => ?_)
      refine W.eq (g2 := F0 m 20 ls [.int (mh_b ((st (low + j)).isSome))]) rfl ?_
      refine mh_ifeqB (tgt := 33) hx hb d_NU_sum_20 (by decide) (fun ct => ?_) (fun cf => ?_)
      · skip
        refine lv_iinc (v := nI ((low + j) + 1)) (k := 0) (lv' := [(5, .int (nI ((low + j) + 1))), (3, .long (tl_s st low j)), (0, .ref a), (1, .int (nI low)), (2, .int (nI high))]) hx hb d_NU_sum_33 hl rfl (mh_inc (low + j)) (by decide) rfl (fun ls hl => ?_)
        refine lv_goto (tgt := 5) hx hb d_NU_sum_36 (by decide) ?_
        have hl : lv_has ls 6 [(5, .int (nI (low + (j + 1)))), (3, .long (tl_s st low (j + 1))), (0, .ref a), (1, .int (nI low)), (2, .int (nI high))] := by rw [tl_s_f ct]; exact hl
        exact ih (j + 1) _ _ _ hX hS hl (by omega)
      · skip
        obtain ⟨u, hu⟩ := Option.isSome_iff_exists.mp cf
        refine lv_lload_n hx hb d_NU_sum_23 rfl (lv_at hl 1 rfl) ?_
        refine lv_aload_n hx hb d_NU_sum_24 rfl (lv_at hl 2 rfl) ?_
        refine mh_get K0 hX h0 f_NU_18 rfl d_NU_sum_25 ?_
        refine lv_iload hx hb d_NU_sum_28 (lv_at hl 0 rfl) ?_
        refine mh_laldN K0 hX h3 (by omega) (by omega) d_NU_sum_30 ?_
        refine lv_ladd hx hb d_NU_sum_31 ?_
        refine lv_lstore_n (lv' := [(3, .long ((tl_s st low j) + (f (low + j)))), (5, .int (nI (low + j))), (0, .ref a), (1, .int (nI low)), (2, .int (nI high))]) hx hb d_NU_sum_32 rfl hl (by decide) rfl (fun ls hl => ?_)
        refine lv_iinc (v := nI ((low + j) + 1)) (k := 1) (lv' := [(5, .int (nI ((low + j) + 1))), (3, .long ((tl_s st low j) + (f (low + j)))), (0, .ref a), (1, .int (nI low)), (2, .int (nI high))]) hx hb d_NU_sum_33 hl rfl (mh_inc (low + j)) (by decide) rfl (fun ls hl => ?_)
        refine lv_goto (tgt := 5) hx hb d_NU_sum_36 (by decide) ?_
        have hl : lv_has ls 6 [(5, .int (nI (low + (j + 1)))), (3, .long (tl_s st low (j + 1))), (0, .ref a), (1, .int (nI low)), (2, .int (nI high))] := by rw [tl_s_t hu, ← hf (low + j) u (by omega) hu]; exact hl
        exact ih (j + 1) _ _ _ hX hS hl (by omega)
  exact LP (high + 1 - low) 0 _ _ _ hX hS hl (by omega)
set_option maxHeartbeats 4000000 in
set_option maxRecDepth 100000 in
theorem c_NU_least {l : Launch} {b : Nat} {dC : Nat → ClassId} {dI : Nat → Nat → Nat} {dA : Nat → ClassId} {zs : Nat → Nat} {w : mh_w} {k i a : Nat} {st : Nat → Option Int64} (h : rN dA w k i a st) {low high : Nat} (h1 : low ≤ high) (h2 : high < 256) : mh_Met l b dC dI dA zs y_NU_least (mh_rm 1 0 0) [.ref a, .int (nI low), .int (nI high)] w (mh_V (some (.int (tl_i (tl_l st low (high + 1 - low))))) (fun w' => w' = w)) := by
  obtain ⟨a1, a3, f, h0, hK, h3, hf⟩ := h
  have hK2 := hK
  obtain ⟨b1, fb, hk0, hk1, hkf⟩ := hK2
  refine mh_ofW (cc := b_NU_least) (n := 4) (ret := (some .int)) (hs := []) (by decide) k435 ?_
  intro p e s m below meth c hx hb hr hml hown hts hlocks hnm hT hOK hadm
  have K0 : mh_K0 p s m ([.ref a, .int (nI low), .int (nI high)]).toArray c "MeldHost$Numbers" b_NU_least dC dI dA := ⟨hx, hb, hown, hts, hOK.1, hOK.2.1⟩
  have hX := hOK.2.2.2.2
  have hb0 := hOK.2.2.2.1
  have hS : va_S (mh_A b) s.heap s.heap [] := va_S.rf
  have hl := lv_entry ([.ref a, .int (nI low), .int (nI high)]) (n := 4) (Nat.le_of_ble_eq_true rfl)
  rw [lg_entry_eq]
  generalize (lg_sl ([.ref a, .int (nI low), .int (nI high)]) ++ List.replicate (4 - (lg_sl ([.ref a, .int (nI low), .int (nI high)])).length) Slot.unset).toArray = ls at hl ⊢
  have hl : lv_has ls 4 [(0, .ref a), (1, .int (nI low)), (2, .int (nI high))] := hl
  refine lv_iload_n hx hb d_NU_least_0 rfl (lv_at hl 1 rfl) ?_
  refine lv_istore_n (lv' := [(3, .int (nI low)), (0, .ref a), (1, .int (nI low)), (2, .int (nI high))]) hx hb d_NU_least_1 rfl hl (by decide) rfl (fun ls hl => ?_)
  have LP : ∀ (n : Nat) (j : Nat) (H : Heap) (locs : List Loc) (ls : Array Slot), mh_P (dC, dI) b w H → va_S (mh_A b) s.heap H locs → lv_has ls 4 [(3, .int (nI (low + j))), (0, .ref a), (1, .int (nI low)), (2, .int (nI high))] → (j + n = high + 1 - low) → (tl_l st low j = none) → W p l e (mh_rm 1 0 0) s m ([.ref a, .int (nI low), .int (nI high)]).toArray below meth c H locs (0) (0) (mh_MQ below b dC dI (mh_V (some (.int (tl_i (tl_l st low (high + 1 - low))))) (fun w' => w' = w)) ([.ref a, .int (nI low), .int (nI high)]).toArray s 0 0) (F0 m 2 ls []) := by
    intro n
    induction n with
    | zero =>
      intro j H locs ls hX hS hl hn hj
      refine lv_iload_n hx hb d_NU_least_2 rfl (lv_at hl 0 rfl) ?_
      refine lv_iload_n hx hb d_NU_least_3 rfl (lv_at hl 3 rfl) ?_
      refine mh_icmp_gt (tgt := 26) hx hb (by omega) (by omega) d_NU_least_4 (by decide) (fun _ => ?_) (fun z => absurd z (by omega))
      refine lv_iconst (v := (-1)) hx hb d_NU_least_26 (by decide) ?_
      exact mh_iret K0 hr rfl hlocks hX hS (⟨by rw [show high + 1 - low = j by omega, hj]; rfl, rfl⟩) (Nat.le_of_ble_eq_true rfl) (Nat.le_of_ble_eq_true rfl) d_NU_least_27
    | succ n ih =>
      intro j H locs ls hX hS hl hn hj
      refine lv_iload_n hx hb d_NU_least_2 rfl (lv_at hl 0 rfl) ?_
      refine lv_iload_n hx hb d_NU_least_3 rfl (lv_at hl 3 rfl) ?_
      refine mh_icmp_gt (tgt := 26) hx hb (by omega) (by omega) d_NU_least_4 (by decide) (fun z => absurd z (by omega)) (fun _ => ?_)
      refine lv_aload_n hx hb d_NU_least_7 rfl (lv_at hl 1 rfl) ?_
      refine mh_get K0 hX h0 f_NU_12 rfl d_NU_least_8 ?_
      refine lv_iload_n hx hb d_NU_least_11 rfl (lv_at hl 0 rfl) ?_
      refine mh_callR (mh_sV (rest := []) (av := [.int (nI (low + j))]) K0 hX hk0 rfl e_KS_has l_NU_56 k326 k327 rfl rfl d_NU_least_12) (c_KS_has (key := low + j) hK (by omega)) K0 hOK hml hl.1 e_KS_has hX hS d_NU_least_12 (Nat.le_of_ble_eq_true rfl) (Nat.le_of_ble_eq_true rfl) (Nat.le_of_ble_eq_true rfl) (Nat.le_of_ble_eq_true rfl) (Nat.le_of_ble_eq_true rfl) (fun H locs hX hS => ?_)
      refine W.eq (g2 := F0 m 15 ls [.int (mh_b ((st (low + j)).isSome))]) rfl ?_
      refine mh_ifeqB (tgt := 20) hx hb d_NU_least_15 (by decide) (fun ct => ?_) (fun cf => ?_)
      · skip
        refine lv_iinc (v := nI ((low + j) + 1)) (k := 0) (lv' := [(3, .int (nI ((low + j) + 1))), (0, .ref a), (1, .int (nI low)), (2, .int (nI high))]) hx hb d_NU_least_20 hl rfl (mh_inc (low + j)) (by decide) rfl (fun ls hl => ?_)
        refine lv_goto (tgt := 2) hx hb d_NU_least_23 (by decide) ?_
        exact ih (j + 1) _ _ _ hX hS hl (by omega) (tl_l_f hj ct)
      · skip
        refine lv_iload_n hx hb d_NU_least_18 rfl (lv_at hl 0 rfl) ?_
        exact mh_iret K0 hr rfl hlocks hX hS (⟨by rw [show high + 1 - low = j + 1 + n by omega, tl_l_on (tl_l_t hj cf)]; rfl, rfl⟩) (Nat.le_of_ble_eq_true rfl) (Nat.le_of_ble_eq_true rfl) d_NU_least_19
  exact LP (high + 1 - low) 0 _ _ _ hX hS hl (by omega) rfl
set_option maxHeartbeats 4000000 in
set_option maxRecDepth 100000 in
theorem c_NU_greatest {l : Launch} {b : Nat} {dC : Nat → ClassId} {dI : Nat → Nat → Nat} {dA : Nat → ClassId} {zs : Nat → Nat} {w : mh_w} {k i a : Nat} {st : Nat → Option Int64} (h : rN dA w k i a st) {low high : Nat} (h1 : low ≤ high) (h2 : high < 256) : mh_Met l b dC dI dA zs y_NU_greatest (mh_rm 1 0 0) [.ref a, .int (nI low), .int (nI high)] w (mh_V (some (.int (tl_i (tl_g st low (high + 1 - low))))) (fun w' => w' = w)) := by
  obtain ⟨a1, a3, f, h0, hK, h3, hf⟩ := h
  have hK2 := hK
  obtain ⟨b1, fb, hk0, hk1, hkf⟩ := hK2
  refine mh_ofW (cc := b_NU_greatest) (n := 4) (ret := (some .int)) (hs := []) (by decide) k439 ?_
  intro p e s m below meth c hx hb hr hml hown hts hlocks hnm hT hOK hadm
  have K0 : mh_K0 p s m ([.ref a, .int (nI low), .int (nI high)]).toArray c "MeldHost$Numbers" b_NU_greatest dC dI dA := ⟨hx, hb, hown, hts, hOK.1, hOK.2.1⟩
  have hX := hOK.2.2.2.2
  have hb0 := hOK.2.2.2.1
  have hS : va_S (mh_A b) s.heap s.heap [] := va_S.rf
  have hl := lv_entry ([.ref a, .int (nI low), .int (nI high)]) (n := 4) (Nat.le_of_ble_eq_true rfl)
  rw [lg_entry_eq]
  generalize (lg_sl ([.ref a, .int (nI low), .int (nI high)]) ++ List.replicate (4 - (lg_sl ([.ref a, .int (nI low), .int (nI high)])).length) Slot.unset).toArray = ls at hl ⊢
  have hl : lv_has ls 4 [(0, .ref a), (1, .int (nI low)), (2, .int (nI high))] := hl
  refine lv_iload_n hx hb d_NU_greatest_0 rfl (lv_at hl 2 rfl) ?_
  refine lv_istore_n (lv' := [(3, .int (nI high)), (0, .ref a), (1, .int (nI low)), (2, .int (nI high))]) hx hb d_NU_greatest_1 rfl hl (by decide) rfl (fun ls hl => ?_)
  have LP : ∀ (n : Nat)  (H : Heap) (locs : List Loc) (ls : Array Slot), mh_P (dC, dI) b w H → va_S (mh_A b) s.heap H locs → lv_has ls 4 [(3, .int (nI (low + n) - 1)), (0, .ref a), (1, .int (nI low)), (2, .int (nI high))] → (low + n ≤ high + 1) → (tl_g st low (high + 1 - low) = tl_g st low n) → W p l e (mh_rm 1 0 0) s m ([.ref a, .int (nI low), .int (nI high)]).toArray below meth c H locs (0) (0) (mh_MQ below b dC dI (mh_V (some (.int (tl_i (tl_g st low (high + 1 - low))))) (fun w' => w' = w)) ([.ref a, .int (nI low), .int (nI high)]).toArray s 0 0) (F0 m 2 ls []) := by
    intro n
    induction n with
    | zero =>
      intro  H locs ls hX hS hl hn hj
      refine lv_iload_n hx hb d_NU_greatest_2 rfl (lv_at hl 0 rfl) ?_
      refine lv_iload_n hx hb d_NU_greatest_3 rfl (lv_at hl 2 rfl) ?_
      refine lv_icmp_lt (tgt := 26) hx hb d_NU_greatest_4 (by decide) (fun _ => ?_) (fun z => absurd z (not_not_intro (nI_dlt low (by omega))))
      refine lv_iconst (v := (-1)) hx hb d_NU_greatest_26 (by decide) ?_
      exact mh_iret K0 hr rfl hlocks hX hS (⟨by rw [hj]; rfl, rfl⟩) (Nat.le_of_ble_eq_true rfl) (Nat.le_of_ble_eq_true rfl) d_NU_greatest_27
    | succ n ih =>
      intro  H locs ls hX hS hl hn hj
      have hl : lv_has ls 4 [(3, .int (nI (low + n))), (0, .ref a), (1, .int (nI low)), (2, .int (nI high))] := by rw [← nI_pred (low + n)]; exact hl
      refine lv_iload_n hx hb d_NU_greatest_2 rfl (lv_at hl 0 rfl) ?_
      refine lv_iload_n hx hb d_NU_greatest_3 rfl (lv_at hl 2 rfl) ?_
      refine mh_icmp_lt (tgt := 26) hx hb (by omega) (by omega) d_NU_greatest_4 (by decide) (fun z => absurd z (by omega)) (fun _ => ?_)
      refine lv_aload_n hx hb d_NU_greatest_7 rfl (lv_at hl 1 rfl) ?_
      refine mh_get K0 hX h0 f_NU_12 rfl d_NU_greatest_8 ?_
      refine lv_iload_n hx hb d_NU_greatest_11 rfl (lv_at hl 0 rfl) ?_
      refine mh_callR (mh_sV (rest := []) (av := [.int (nI (low + n))]) K0 hX hk0 rfl e_KS_has l_NU_56 k326 k327 rfl rfl d_NU_greatest_12) (c_KS_has (key := low + n) hK (by omega)) K0 hOK hml hl.1 e_KS_has hX hS d_NU_greatest_12 (Nat.le_of_ble_eq_true rfl) (Nat.le_of_ble_eq_true rfl) (Nat.le_of_ble_eq_true rfl) (Nat.le_of_ble_eq_true rfl) (Nat.le_of_ble_eq_true rfl) (fun H locs hX hS => ?_)
      refine W.eq (g2 := F0 m 15 ls [.int (mh_b ((st (low + n)).isSome))]) rfl ?_
      refine mh_ifeqB (tgt := 20) hx hb d_NU_greatest_15 (by decide) (fun ct => ?_) (fun cf => ?_)
      · skip
        refine lv_iinc (v := (nI (low + n) - 1)) (k := 0) (lv' := [(3, .int (nI (low + n) - 1)), (0, .ref a), (1, .int (nI low)), (2, .int (nI high))]) hx hb d_NU_greatest_20 hl rfl (mh_dec (nI (low + n))) (by decide) rfl (fun ls hl => ?_)
        refine lv_goto (tgt := 2) hx hb d_NU_greatest_23 (by decide) ?_
        exact ih  _ _ _ hX hS hl (by omega) (hj.trans (tl_g_f ct))
      · skip
        refine lv_iload_n hx hb d_NU_greatest_18 rfl (lv_at hl 0 rfl) ?_
        exact mh_iret K0 hr rfl hlocks hX hS (⟨by rw [hj, tl_g_t cf]; rfl, rfl⟩) (Nat.le_of_ble_eq_true rfl) (Nat.le_of_ble_eq_true rfl) d_NU_greatest_19
  have hl : lv_has ls 4 [(3, .int (nI (low + (high + 1 - low)) - 1)), (0, .ref a), (1, .int (nI low)), (2, .int (nI high))] := by rw [show low + (high + 1 - low) = high + 1 by omega, nI_pred]; exact hl
  exact LP (high + 1 - low)  _ _ _ hX hS hl (by omega) rfl
set_option maxHeartbeats 4000000 in
set_option maxRecDepth 100000 in
theorem c_NU_tell {l : Launch} {b : Nat} {dC : Nat → ClassId} {dI : Nat → Nat → Nat} {dA : Nat → ClassId} {zs : Nat → Nat} {w : mh_w} {k i a : Nat} {st : Nat → Option Int64} (h : rN dA w k i a st) {low high : Nat} (h1 : low ≤ high) (h2 : high < 256) {q : Nat} (hq : q < 4) : mh_Met l b dC dI dA zs y_NU_tell (mh_rm 2 0 0) [.ref a, .int (nI low), .int (nI high), .int (nI q)] w (mh_V (some (.long (tl_a st low (high + 1 - low) (nI q)))) (fun w' => w' = w)) := by
  have hN := h
  obtain ⟨a1, a3, f, h0, hK, h3, hf⟩ := h
  refine mh_ofW (cc := b_NU_tell) (n := 4) (ret := (some .long)) (hs := []) (by decide) k422 ?_
  intro p e s m below meth c hx hb hr hml hown hts hlocks hnm hT hOK hadm
  have K0 : mh_K0 p s m ([.ref a, .int (nI low), .int (nI high), .int (nI q)]).toArray c "MeldHost$Numbers" b_NU_tell dC dI dA := ⟨hx, hb, hown, hts, hOK.1, hOK.2.1⟩
  have hX := hOK.2.2.2.2
  have hb0 := hOK.2.2.2.1
  have hS : va_S (mh_A b) s.heap s.heap [] := va_S.rf
  have hl := lv_entry ([.ref a, .int (nI low), .int (nI high), .int (nI q)]) (n := 4) (Nat.le_of_ble_eq_true rfl)
  rw [lg_entry_eq]
  generalize (lg_sl ([.ref a, .int (nI low), .int (nI high), .int (nI q)]) ++ List.replicate (4 - (lg_sl ([.ref a, .int (nI low), .int (nI high), .int (nI q)])).length) Slot.unset).toArray = ls at hl ⊢
  have hl : lv_has ls 4 [(0, .ref a), (1, .int (nI low)), (2, .int (nI high)), (3, .int (nI q))] := hl
  refine lv_iload_n hx hb d_NU_tell_0 rfl (lv_at hl 3 rfl) ?_
  have hq4 : q = 0 ∨ q = 1 ∨ q = 2 ∨ q = 3 := by omega
  rcases hq4 with rfl | rfl | rfl | rfl
  · skip
    refine lv_tableIn (tgt := 28) hx hb d_NU_tell_1 (by decide) (by decide) (off := 27) (by decide) (by decide) ?_
    refine lv_aload_n hx hb d_NU_tell_28 rfl (lv_at hl 0 rfl) ?_
    refine lv_iload_n hx hb d_NU_tell_29 rfl (lv_at hl 1 rfl) ?_
    refine lv_iload_n hx hb d_NU_tell_30 rfl (lv_at hl 2 rfl) ?_
    refine mh_callR (mh_sV (rest := []) (av := [.int (nI low), .int (nI high)]) K0 hX h0 rfl e_NU_howMany l_NU_42 k425 kp4 rfl rfl d_NU_tell_31) (c_NU_howMany hN h1 h2) K0 hOK hml hl.1 e_NU_howMany hX hS d_NU_tell_31 (Nat.le_of_ble_eq_true rfl) (Nat.le_of_ble_eq_true rfl) (Nat.le_of_ble_eq_true rfl) (Nat.le_of_ble_eq_true rfl) (Nat.le_of_ble_eq_true rfl) (fun H locs hX hS => ?_)
    refine W.eq (g2 := F0 m 34 ls [.int (nI (tl_n st low (high + 1 - low)))]) rfl ?_
    refine lv_i2l hx hb d_NU_tell_34 rfl ?_
    have e9 := tl_n_le st low (high + 1 - low)
    exact mh_lret K0 hr hlocks hX hS (⟨by rw [tl_a0, nI_l (by omega)], rfl⟩) (Nat.le_of_ble_eq_true rfl) (Nat.le_of_ble_eq_true rfl) d_NU_tell_35
  · skip
    refine lv_tableIn (tgt := 36) hx hb d_NU_tell_1 (by decide) (by decide) (off := 35) (by decide) (by decide) ?_
    refine lv_aload_n hx hb d_NU_tell_36 rfl (lv_at hl 0 rfl) ?_
    refine lv_iload_n hx hb d_NU_tell_37 rfl (lv_at hl 1 rfl) ?_
    refine lv_iload_n hx hb d_NU_tell_38 rfl (lv_at hl 2 rfl) ?_
    refine mh_callR (mh_sV (rest := []) (av := [.int (nI low), .int (nI high)]) K0 hX h0 rfl e_NU_sum l_NU_46 k430 kp5 rfl rfl d_NU_tell_39) (c_NU_sum hN h1 h2) K0 hOK hml hl.1 e_NU_sum hX hS d_NU_tell_39 (Nat.le_of_ble_eq_true rfl) (Nat.le_of_ble_eq_true rfl) (Nat.le_of_ble_eq_true rfl) (Nat.le_of_ble_eq_true rfl) (Nat.le_of_ble_eq_true rfl) (fun H locs hX hS => ?_)
    refine W.eq (g2 := F0 m 42 ls [.long (tl_s st low (high + 1 - low))]) rfl ?_
    exact mh_lret K0 hr hlocks hX hS (⟨by rw [tl_a1], rfl⟩) (Nat.le_of_ble_eq_true rfl) (Nat.le_of_ble_eq_true rfl) d_NU_tell_42
  · skip
    refine lv_tableIn (tgt := 43) hx hb d_NU_tell_1 (by decide) (by decide) (off := 42) (by decide) (by decide) ?_
    refine lv_aload_n hx hb d_NU_tell_43 rfl (lv_at hl 0 rfl) ?_
    refine lv_iload_n hx hb d_NU_tell_44 rfl (lv_at hl 1 rfl) ?_
    refine lv_iload_n hx hb d_NU_tell_45 rfl (lv_at hl 2 rfl) ?_
    refine mh_callR (mh_sV (rest := []) (av := [.int (nI low), .int (nI high)]) K0 hX h0 rfl e_NU_least l_NU_50 k434 kp6 rfl rfl d_NU_tell_46) (c_NU_least hN h1 h2) K0 hOK hml hl.1 e_NU_least hX hS d_NU_tell_46 (Nat.le_of_ble_eq_true rfl) (Nat.le_of_ble_eq_true rfl) (Nat.le_of_ble_eq_true rfl) (Nat.le_of_ble_eq_true rfl) (Nat.le_of_ble_eq_true rfl) (fun H locs hX hS => ?_)
    refine W.eq (g2 := F0 m 49 ls [.int (tl_i (tl_l st low (high + 1 - low)))]) rfl ?_
    refine lv_i2l hx hb d_NU_tell_49 rfl ?_
    exact mh_lret K0 hr hlocks hX hS (⟨by rw [tl_a2], rfl⟩) (Nat.le_of_ble_eq_true rfl) (Nat.le_of_ble_eq_true rfl) d_NU_tell_50
  · skip
    refine lv_tableOut (tgt := 51) hx hb d_NU_tell_1 (Or.inr (by decide)) (by decide) ?_
    refine lv_aload_n hx hb d_NU_tell_51 rfl (lv_at hl 0 rfl) ?_
    refine lv_iload_n hx hb d_NU_tell_52 rfl (lv_at hl 1 rfl) ?_
    refine lv_iload_n hx hb d_NU_tell_53 rfl (lv_at hl 2 rfl) ?_
    refine mh_callR (mh_sV (rest := []) (av := [.int (nI low), .int (nI high)]) K0 hX h0 rfl e_NU_greatest l_NU_53 k438 kp7 rfl rfl d_NU_tell_54) (c_NU_greatest hN h1 h2) K0 hOK hml hl.1 e_NU_greatest hX hS d_NU_tell_54 (Nat.le_of_ble_eq_true rfl) (Nat.le_of_ble_eq_true rfl) (Nat.le_of_ble_eq_true rfl) (Nat.le_of_ble_eq_true rfl) (Nat.le_of_ble_eq_true rfl) (fun H locs hX hS => ?_)
    refine W.eq (g2 := F0 m 57 ls [.int (tl_i (tl_g st low (high + 1 - low)))]) rfl ?_
    refine lv_i2l hx hb d_NU_tell_57 rfl ?_
    exact mh_lret K0 hr hlocks hX hS (⟨by rw [tl_a3], rfl⟩) (Nat.le_of_ble_eq_true rfl) (Nat.le_of_ble_eq_true rfl) d_NU_tell_58
