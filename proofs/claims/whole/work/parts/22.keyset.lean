theorem mh_lc0 (x y : Int64) : lg_cmp x y = 0 ↔ x = y := by
  unfold lg_cmp
  by_cases h : x > y
  · rw [if_pos h]
    constructor
    · intro z; exact absurd z (by decide)
    · intro z; subst z; exact absurd h (by rw [gt_iff_lt, Int64.lt_iff_toInt_lt]; omega)
  · rw [if_neg h]
    by_cases e : x = y
    · rw [if_pos e]; exact ⟨fun _ => e, fun _ => rfl⟩
    · rw [if_neg e]; exact ⟨fun z => absurd z (by decide), fun z => absurd z e⟩
theorem d_KS_init_0 : decode b_KS_init 0 = .ok (.aload_n 0, 1) := by decide +kernel
theorem d_KS_init_1 : decode b_KS_init 1 = .ok (.invokespecial 3, 3) := by decide +kernel
theorem d_KS_init_4 : decode b_KS_init 4 = .ok (.aload_n 0, 1) := by decide +kernel
theorem d_KS_init_5 : decode b_KS_init 5 = .ok (.iconst 4, 1) := by decide +kernel
theorem d_KS_init_6 : decode b_KS_init 6 = .ok (.newarray .long, 2) := by decide +kernel
theorem d_KS_init_8 : decode b_KS_init 8 = .ok (.putfield 11, 3) := by decide +kernel
theorem d_KS_init_11 : decode b_KS_init 11 = .ok (.return_, 1) := by decide +kernel
theorem d_KS_has_0 : decode b_KS_has 0 = .ok (.aload_n 0, 1) := by decide +kernel
theorem d_KS_has_1 : decode b_KS_has 1 = .ok (.getfield 11, 3) := by decide +kernel
theorem d_KS_has_4 : decode b_KS_has 4 = .ok (.iload_n 1, 1) := by decide +kernel
theorem d_KS_has_5 : decode b_KS_has 5 = .ok (.bipush 64, 2) := by decide +kernel
theorem d_KS_has_7 : decode b_KS_has 7 = .ok (.idiv, 1) := by decide +kernel
theorem d_KS_has_8 : decode b_KS_has 8 = .ok (.laload, 1) := by decide +kernel
theorem d_KS_has_9 : decode b_KS_has 9 = .ok (.iload_n 1, 1) := by decide +kernel
theorem d_KS_has_10 : decode b_KS_has 10 = .ok (.bipush 64, 2) := by decide +kernel
theorem d_KS_has_12 : decode b_KS_has 12 = .ok (.irem, 1) := by decide +kernel
theorem d_KS_has_13 : decode b_KS_has 13 = .ok (.lushr, 1) := by decide +kernel
theorem d_KS_has_14 : decode b_KS_has 14 = .ok (.lconst 1, 1) := by decide +kernel
theorem d_KS_has_15 : decode b_KS_has 15 = .ok (.land, 1) := by decide +kernel
theorem d_KS_has_16 : decode b_KS_has 16 = .ok (.lconst 0, 1) := by decide +kernel
theorem d_KS_has_17 : decode b_KS_has 17 = .ok (.lcmp, 1) := by decide +kernel
theorem d_KS_has_18 : decode b_KS_has 18 = .ok (.ifCond .eq 7, 3) := by decide +kernel
theorem d_KS_has_25 : decode b_KS_has 25 = .ok (.iconst 0, 1) := by decide +kernel
theorem d_KS_has_26 : decode b_KS_has 26 = .ok (.ireturn, 1) := by decide +kernel
theorem d_KS_has_21 : decode b_KS_has 21 = .ok (.iconst 1, 1) := by decide +kernel
theorem d_KS_has_22 : decode b_KS_has 22 = .ok (.goto 4, 3) := by decide +kernel
theorem d_KS_add_0 : decode b_KS_add 0 = .ok (.aload_n 0, 1) := by decide +kernel
theorem d_KS_add_1 : decode b_KS_add 1 = .ok (.getfield 11, 3) := by decide +kernel
theorem d_KS_add_4 : decode b_KS_add 4 = .ok (.iload_n 1, 1) := by decide +kernel
theorem d_KS_add_5 : decode b_KS_add 5 = .ok (.bipush 64, 2) := by decide +kernel
theorem d_KS_add_7 : decode b_KS_add 7 = .ok (.idiv, 1) := by decide +kernel
theorem d_KS_add_8 : decode b_KS_add 8 = .ok (.dup2, 1) := by decide +kernel
theorem d_KS_add_9 : decode b_KS_add 9 = .ok (.laload, 1) := by decide +kernel
theorem d_KS_add_10 : decode b_KS_add 10 = .ok (.lconst 1, 1) := by decide +kernel
theorem d_KS_add_11 : decode b_KS_add 11 = .ok (.iload_n 1, 1) := by decide +kernel
theorem d_KS_add_12 : decode b_KS_add 12 = .ok (.bipush 64, 2) := by decide +kernel
theorem d_KS_add_14 : decode b_KS_add 14 = .ok (.irem, 1) := by decide +kernel
theorem d_KS_add_15 : decode b_KS_add 15 = .ok (.lshl, 1) := by decide +kernel
theorem d_KS_add_16 : decode b_KS_add 16 = .ok (.lor, 1) := by decide +kernel
theorem d_KS_add_17 : decode b_KS_add 17 = .ok (.lastore, 1) := by decide +kernel
theorem d_KS_add_18 : decode b_KS_add 18 = .ok (.return_, 1) := by decide +kernel
theorem d_KS_drop_0 : decode b_KS_drop 0 = .ok (.aload_n 0, 1) := by decide +kernel
theorem d_KS_drop_1 : decode b_KS_drop 1 = .ok (.getfield 11, 3) := by decide +kernel
theorem d_KS_drop_4 : decode b_KS_drop 4 = .ok (.iload_n 1, 1) := by decide +kernel
theorem d_KS_drop_5 : decode b_KS_drop 5 = .ok (.bipush 64, 2) := by decide +kernel
theorem d_KS_drop_7 : decode b_KS_drop 7 = .ok (.idiv, 1) := by decide +kernel
theorem d_KS_drop_8 : decode b_KS_drop 8 = .ok (.dup2, 1) := by decide +kernel
theorem d_KS_drop_9 : decode b_KS_drop 9 = .ok (.laload, 1) := by decide +kernel
theorem d_KS_drop_10 : decode b_KS_drop 10 = .ok (.lconst 1, 1) := by decide +kernel
theorem d_KS_drop_11 : decode b_KS_drop 11 = .ok (.iload_n 1, 1) := by decide +kernel
theorem d_KS_drop_12 : decode b_KS_drop 12 = .ok (.bipush 64, 2) := by decide +kernel
theorem d_KS_drop_14 : decode b_KS_drop 14 = .ok (.irem, 1) := by decide +kernel
theorem d_KS_drop_15 : decode b_KS_drop 15 = .ok (.lshl, 1) := by decide +kernel
theorem d_KS_drop_16 : decode b_KS_drop 16 = .ok (.ldc2_w 15, 3) := by decide +kernel
theorem d_KS_drop_19 : decode b_KS_drop 19 = .ok (.lxor, 1) := by decide +kernel
theorem d_KS_drop_20 : decode b_KS_drop 20 = .ok (.land, 1) := by decide +kernel
theorem d_KS_drop_21 : decode b_KS_drop 21 = .ok (.lastore, 1) := by decide +kernel
theorem d_KS_drop_22 : decode b_KS_drop 22 = .ok (.return_, 1) := by decide +kernel
theorem d_AR_fillJ_0 : decode b_AR_fillJ 0 = .ok (.iconst 0, 1) := by decide +kernel
theorem d_AR_fillJ_1 : decode b_AR_fillJ 1 = .ok (.istore_n 3, 1) := by decide +kernel
theorem d_AR_fillJ_2 : decode b_AR_fillJ 2 = .ok (.aload_n 0, 1) := by decide +kernel
theorem d_AR_fillJ_3 : decode b_AR_fillJ 3 = .ok (.arraylength, 1) := by decide +kernel
theorem d_AR_fillJ_4 : decode b_AR_fillJ 4 = .ok (.istore 4, 2) := by decide +kernel
theorem d_AR_fillJ_6 : decode b_AR_fillJ 6 = .ok (.iload_n 3, 1) := by decide +kernel
theorem d_AR_fillJ_7 : decode b_AR_fillJ 7 = .ok (.iload 4, 2) := by decide +kernel
theorem d_AR_fillJ_9 : decode b_AR_fillJ 9 = .ok (.if_icmp .ge 13, 3) := by decide +kernel
theorem d_AR_fillJ_22 : decode b_AR_fillJ 22 = .ok (.return_, 1) := by decide +kernel
theorem d_AR_fillJ_12 : decode b_AR_fillJ 12 = .ok (.aload_n 0, 1) := by decide +kernel
theorem d_AR_fillJ_13 : decode b_AR_fillJ 13 = .ok (.iload_n 3, 1) := by decide +kernel
theorem d_AR_fillJ_14 : decode b_AR_fillJ 14 = .ok (.lload_n 1, 1) := by decide +kernel
theorem d_AR_fillJ_15 : decode b_AR_fillJ 15 = .ok (.lastore, 1) := by decide +kernel
theorem d_AR_fillJ_16 : decode b_AR_fillJ 16 = .ok (.iinc 3 1, 3) := by decide +kernel
theorem d_AR_fillJ_19 : decode b_AR_fillJ 19 = .ok (.goto (-13), 3) := by decide +kernel
theorem d_AR_fillI_0 : decode b_AR_fillI 0 = .ok (.iconst 0, 1) := by decide +kernel
theorem d_AR_fillI_1 : decode b_AR_fillI 1 = .ok (.istore_n 2, 1) := by decide +kernel
theorem d_AR_fillI_2 : decode b_AR_fillI 2 = .ok (.aload_n 0, 1) := by decide +kernel
theorem d_AR_fillI_3 : decode b_AR_fillI 3 = .ok (.arraylength, 1) := by decide +kernel
theorem d_AR_fillI_4 : decode b_AR_fillI 4 = .ok (.istore_n 3, 1) := by decide +kernel
theorem d_AR_fillI_5 : decode b_AR_fillI 5 = .ok (.iload_n 2, 1) := by decide +kernel
theorem d_AR_fillI_6 : decode b_AR_fillI 6 = .ok (.iload_n 3, 1) := by decide +kernel
theorem d_AR_fillI_7 : decode b_AR_fillI 7 = .ok (.if_icmp .ge 13, 3) := by decide +kernel
theorem d_AR_fillI_20 : decode b_AR_fillI 20 = .ok (.return_, 1) := by decide +kernel
theorem d_AR_fillI_10 : decode b_AR_fillI 10 = .ok (.aload_n 0, 1) := by decide +kernel
theorem d_AR_fillI_11 : decode b_AR_fillI 11 = .ok (.iload_n 2, 1) := by decide +kernel
theorem d_AR_fillI_12 : decode b_AR_fillI 12 = .ok (.iload_n 1, 1) := by decide +kernel
theorem d_AR_fillI_13 : decode b_AR_fillI 13 = .ok (.iastore, 1) := by decide +kernel
theorem d_AR_fillI_14 : decode b_AR_fillI 14 = .ok (.iinc 2 1, 3) := by decide +kernel
theorem d_AR_fillI_17 : decode b_AR_fillI 17 = .ok (.goto (-12), 3) := by decide +kernel
theorem d_KS_dropAll_0 : decode b_KS_dropAll 0 = .ok (.aload_n 0, 1) := by decide +kernel
theorem d_KS_dropAll_1 : decode b_KS_dropAll 1 = .ok (.getfield 11, 3) := by decide +kernel
theorem d_KS_dropAll_4 : decode b_KS_dropAll 4 = .ok (.lconst 0, 1) := by decide +kernel
theorem d_KS_dropAll_5 : decode b_KS_dropAll 5 = .ok (.invokestatic 17, 3) := by decide +kernel
theorem d_KS_dropAll_8 : decode b_KS_dropAll 8 = .ok (.return_, 1) := by decide +kernel
theorem d_KS_copyFrom_0 : decode b_KS_copyFrom 0 = .ok (.aload_n 1, 1) := by decide +kernel
theorem d_KS_copyFrom_1 : decode b_KS_copyFrom 1 = .ok (.getfield 11, 3) := by decide +kernel
theorem d_KS_copyFrom_4 : decode b_KS_copyFrom 4 = .ok (.iconst 0, 1) := by decide +kernel
theorem d_KS_copyFrom_5 : decode b_KS_copyFrom 5 = .ok (.aload_n 0, 1) := by decide +kernel
theorem d_KS_copyFrom_6 : decode b_KS_copyFrom 6 = .ok (.getfield 11, 3) := by decide +kernel
theorem d_KS_copyFrom_9 : decode b_KS_copyFrom 9 = .ok (.iconst 0, 1) := by decide +kernel
theorem d_KS_copyFrom_10 : decode b_KS_copyFrom 10 = .ok (.aload_n 0, 1) := by decide +kernel
theorem d_KS_copyFrom_11 : decode b_KS_copyFrom 11 = .ok (.getfield 11, 3) := by decide +kernel
theorem d_KS_copyFrom_14 : decode b_KS_copyFrom 14 = .ok (.arraylength, 1) := by decide +kernel
theorem d_KS_copyFrom_15 : decode b_KS_copyFrom 15 = .ok (.invokestatic 23, 3) := by decide +kernel
theorem d_KS_copyFrom_18 : decode b_KS_copyFrom 18 = .ok (.return_, 1) := by decide +kernel
theorem d_LG_bitCount_0 : decode b_LG_bitCount 0 = .ok (.lload_n 0, 1) := by decide +kernel
theorem d_LG_bitCount_1 : decode b_LG_bitCount 1 = .ok (.lload_n 0, 1) := by decide +kernel
theorem d_LG_bitCount_2 : decode b_LG_bitCount 2 = .ok (.iconst 1, 1) := by decide +kernel
theorem d_LG_bitCount_3 : decode b_LG_bitCount 3 = .ok (.lushr, 1) := by decide +kernel
theorem d_LG_bitCount_4 : decode b_LG_bitCount 4 = .ok (.ldc2_w 314, 3) := by decide +kernel
theorem d_LG_bitCount_7 : decode b_LG_bitCount 7 = .ok (.land, 1) := by decide +kernel
theorem d_LG_bitCount_8 : decode b_LG_bitCount 8 = .ok (.lsub, 1) := by decide +kernel
theorem d_LG_bitCount_9 : decode b_LG_bitCount 9 = .ok (.lstore_n 0, 1) := by decide +kernel
theorem d_LG_bitCount_10 : decode b_LG_bitCount 10 = .ok (.lload_n 0, 1) := by decide +kernel
theorem d_LG_bitCount_11 : decode b_LG_bitCount 11 = .ok (.ldc2_w 316, 3) := by decide +kernel
theorem d_LG_bitCount_14 : decode b_LG_bitCount 14 = .ok (.land, 1) := by decide +kernel
theorem d_LG_bitCount_15 : decode b_LG_bitCount 15 = .ok (.lload_n 0, 1) := by decide +kernel
theorem d_LG_bitCount_16 : decode b_LG_bitCount 16 = .ok (.iconst 2, 1) := by decide +kernel
theorem d_LG_bitCount_17 : decode b_LG_bitCount 17 = .ok (.lushr, 1) := by decide +kernel
theorem d_LG_bitCount_18 : decode b_LG_bitCount 18 = .ok (.ldc2_w 316, 3) := by decide +kernel
theorem d_LG_bitCount_21 : decode b_LG_bitCount 21 = .ok (.land, 1) := by decide +kernel
theorem d_LG_bitCount_22 : decode b_LG_bitCount 22 = .ok (.ladd, 1) := by decide +kernel
theorem d_LG_bitCount_23 : decode b_LG_bitCount 23 = .ok (.lstore_n 0, 1) := by decide +kernel
theorem d_LG_bitCount_24 : decode b_LG_bitCount 24 = .ok (.lload_n 0, 1) := by decide +kernel
theorem d_LG_bitCount_25 : decode b_LG_bitCount 25 = .ok (.lload_n 0, 1) := by decide +kernel
theorem d_LG_bitCount_26 : decode b_LG_bitCount 26 = .ok (.iconst 4, 1) := by decide +kernel
theorem d_LG_bitCount_27 : decode b_LG_bitCount 27 = .ok (.lushr, 1) := by decide +kernel
theorem d_LG_bitCount_28 : decode b_LG_bitCount 28 = .ok (.ladd, 1) := by decide +kernel
theorem d_LG_bitCount_29 : decode b_LG_bitCount 29 = .ok (.ldc2_w 318, 3) := by decide +kernel
theorem d_LG_bitCount_32 : decode b_LG_bitCount 32 = .ok (.land, 1) := by decide +kernel
theorem d_LG_bitCount_33 : decode b_LG_bitCount 33 = .ok (.lstore_n 0, 1) := by decide +kernel
theorem d_LG_bitCount_34 : decode b_LG_bitCount 34 = .ok (.lload_n 0, 1) := by decide +kernel
theorem d_LG_bitCount_35 : decode b_LG_bitCount 35 = .ok (.lload_n 0, 1) := by decide +kernel
theorem d_LG_bitCount_36 : decode b_LG_bitCount 36 = .ok (.bipush 8, 2) := by decide +kernel
theorem d_LG_bitCount_38 : decode b_LG_bitCount 38 = .ok (.lushr, 1) := by decide +kernel
theorem d_LG_bitCount_39 : decode b_LG_bitCount 39 = .ok (.ladd, 1) := by decide +kernel
theorem d_LG_bitCount_40 : decode b_LG_bitCount 40 = .ok (.lstore_n 0, 1) := by decide +kernel
theorem d_LG_bitCount_41 : decode b_LG_bitCount 41 = .ok (.lload_n 0, 1) := by decide +kernel
theorem d_LG_bitCount_42 : decode b_LG_bitCount 42 = .ok (.lload_n 0, 1) := by decide +kernel
theorem d_LG_bitCount_43 : decode b_LG_bitCount 43 = .ok (.bipush 16, 2) := by decide +kernel
theorem d_LG_bitCount_45 : decode b_LG_bitCount 45 = .ok (.lushr, 1) := by decide +kernel
theorem d_LG_bitCount_46 : decode b_LG_bitCount 46 = .ok (.ladd, 1) := by decide +kernel
theorem d_LG_bitCount_47 : decode b_LG_bitCount 47 = .ok (.lstore_n 0, 1) := by decide +kernel
theorem d_LG_bitCount_48 : decode b_LG_bitCount 48 = .ok (.lload_n 0, 1) := by decide +kernel
theorem d_LG_bitCount_49 : decode b_LG_bitCount 49 = .ok (.lload_n 0, 1) := by decide +kernel
theorem d_LG_bitCount_50 : decode b_LG_bitCount 50 = .ok (.bipush 32, 2) := by decide +kernel
theorem d_LG_bitCount_52 : decode b_LG_bitCount 52 = .ok (.lushr, 1) := by decide +kernel
theorem d_LG_bitCount_53 : decode b_LG_bitCount 53 = .ok (.ladd, 1) := by decide +kernel
theorem d_LG_bitCount_54 : decode b_LG_bitCount 54 = .ok (.lstore_n 0, 1) := by decide +kernel
theorem d_LG_bitCount_55 : decode b_LG_bitCount 55 = .ok (.lload_n 0, 1) := by decide +kernel
theorem d_LG_bitCount_56 : decode b_LG_bitCount 56 = .ok (.l2i, 1) := by decide +kernel
theorem d_LG_bitCount_57 : decode b_LG_bitCount 57 = .ok (.bipush 127, 2) := by decide +kernel
theorem d_LG_bitCount_59 : decode b_LG_bitCount 59 = .ok (.iand, 1) := by decide +kernel
theorem d_LG_bitCount_60 : decode b_LG_bitCount 60 = .ok (.ireturn, 1) := by decide +kernel
theorem d_KS_size_0 : decode b_KS_size 0 = .ok (.iconst 0, 1) := by decide +kernel
theorem d_KS_size_1 : decode b_KS_size 1 = .ok (.istore_n 1, 1) := by decide +kernel
theorem d_KS_size_2 : decode b_KS_size 2 = .ok (.iconst 0, 1) := by decide +kernel
theorem d_KS_size_3 : decode b_KS_size 3 = .ok (.istore_n 2, 1) := by decide +kernel
theorem d_KS_size_4 : decode b_KS_size 4 = .ok (.iload_n 2, 1) := by decide +kernel
theorem d_KS_size_5 : decode b_KS_size 5 = .ok (.aload_n 0, 1) := by decide +kernel
theorem d_KS_size_6 : decode b_KS_size 6 = .ok (.getfield 11, 3) := by decide +kernel
theorem d_KS_size_9 : decode b_KS_size 9 = .ok (.arraylength, 1) := by decide +kernel
theorem d_KS_size_10 : decode b_KS_size 10 = .ok (.if_icmp .ge 21, 3) := by decide +kernel
theorem d_KS_size_31 : decode b_KS_size 31 = .ok (.iload_n 1, 1) := by decide +kernel
theorem d_KS_size_32 : decode b_KS_size 32 = .ok (.ireturn, 1) := by decide +kernel
theorem d_KS_size_13 : decode b_KS_size 13 = .ok (.iload_n 1, 1) := by decide +kernel
theorem d_KS_size_14 : decode b_KS_size 14 = .ok (.aload_n 0, 1) := by decide +kernel
theorem d_KS_size_15 : decode b_KS_size 15 = .ok (.getfield 11, 3) := by decide +kernel
theorem d_KS_size_18 : decode b_KS_size 18 = .ok (.iload_n 2, 1) := by decide +kernel
theorem d_KS_size_19 : decode b_KS_size 19 = .ok (.laload, 1) := by decide +kernel
theorem d_KS_size_20 : decode b_KS_size 20 = .ok (.invokestatic 29, 3) := by decide +kernel
theorem d_KS_size_23 : decode b_KS_size 23 = .ok (.iadd, 1) := by decide +kernel
theorem d_KS_size_24 : decode b_KS_size 24 = .ok (.istore_n 1, 1) := by decide +kernel
theorem d_KS_size_25 : decode b_KS_size 25 = .ok (.iinc 2 1, 3) := by decide +kernel
theorem d_KS_size_28 : decode b_KS_size 28 = .ok (.goto (-24), 3) := by decide +kernel
set_option maxHeartbeats 4000000 in
set_option maxRecDepth 100000 in
theorem c_KS_init {l : Launch} {b : Nat} {dC : Nat → ClassId} {dI : Nat → Nat → Nat} {dA : Nat → ClassId} {zs : Nat → Nat} {w : mh_w} {k i a : Nat} (h : w k i = some (a, .inr (0, [.null]))) : mh_Met l b dC dI dA zs y_KS_init (mh_rm 1 1 4) [.ref a] w (mh_V none (fun w' => rK dA w' k i a (fun _ => false) ∧ mh_F w w' k 2 i)) := by
  refine mh_ofW (cc := b_KS_init) (n := 1) (ret := none) (hs := []) (by decide) k76 ?_
  intro p e s m below meth c hx hb hr hml hown hts hlocks hnm hT hOK hadm
  have K0 : mh_K0 p s m ([.ref a]).toArray c "MeldHost$KeySet" b_KS_init dC dI dA := ⟨hx, hb, hown, hts, hOK.1, hOK.2.1⟩
  have hX := hOK.2.2.2.2
  have hb0 := hOK.2.2.2.1
  have hS : va_S (mh_A b) s.heap s.heap [] := va_S.rf
  have hl := lv_entry ([.ref a]) (n := 1) (Nat.le_of_ble_eq_true rfl)
  rw [lg_entry_eq]
  generalize (lg_sl ([.ref a]) ++ List.replicate (1 - (lg_sl ([.ref a])).length) Slot.unset).toArray = ls at hl ⊢
  have hl : lv_has ls 1 [(0, .ref a)] := hl
  refine lv_aload_n hx hb d_KS_init_0 rfl (lv_at hl 0 rfl) ?_
  refine W.objInit hx hb hown (hts _ k77) (hts _ k31) (hts _ k32) rfl (by rw [hml]; exact hl.1) rfl d_KS_init_1 (Nat.le_of_ble_eq_true rfl) (Nat.le_of_ble_eq_true rfl) ?_
  refine W.eq (g2 := F0 m 4 ls []) rfl ?_
  refine lv_aload_n hx hb d_KS_init_4 rfl (lv_at hl 0 rfl) ?_
  refine lv_iconst (v := nI 4) hx hb d_KS_init_5 (by decide) ?_
  refine mh_newa (k + 1) i 1 K0 hX hS hb0 (ty := .long) rfl rfl k82 (N' := 4) (a0 := (4, .inr (.inl (fun _ => 0)))) (fun cA => rfl) (by decide) (by decide) (by decide) (Nat.le_of_ble_eq_true rfl) (Nat.le_of_ble_eq_true rfl) d_KS_init_6 (fun q H hX hS => ?_)
  have fs1 := mh_self hX
  refine mh_putF K0 hX hS (mh_kp h (by omega)) f_KS_11 p_0_0 hnm (fun C T N h => by cases h; rfl) rfl rfl (Nat.le_of_ble_eq_true rfl) d_KS_init_8 (fun C T N h => by cases h; exact k78) (fun H locs hX hS => ?_)
  have hX : mh_P (dC, dI) b (mh_set _ k i (some (a, .inr (0, [.ref q])))) H := hX
  have fs2 := mh_self hX
  exact mh_vret K0 hr hlocks hX hS (⟨rfl, ⟨q, _, mh_set_eq _ _ _ _, mh_kp (mh_set_eq _ _ _ _) (by omega), fun j _ => pb_zero j⟩, (mh_F.rf.set (by omega) (by omega)).set (by omega) (by omega)⟩) (Nat.le_of_ble_eq_true rfl) (Nat.le_of_ble_eq_true rfl) d_KS_init_11
set_option maxHeartbeats 4000000 in
set_option maxRecDepth 100000 in
theorem c_KS_has {l : Launch} {b : Nat} {dC : Nat → ClassId} {dI : Nat → Nat → Nat} {dA : Nat → ClassId} {zs : Nat → Nat} {w : mh_w} {k i a : Nat} {rd : Nat → Bool} (h : rK dA w k i a rd) {key : Nat} (hk : key < 256) : mh_Met l b dC dI dA zs y_KS_has (mh_rm 0 0 0) [.ref a, .int (nI key)] w (mh_V (some (.int (mh_b (rd key)))) (fun w' => w' = w)) := by
  obtain ⟨a1, f, h0, h1, hf⟩ := h
  refine mh_ofW (cc := b_KS_has) (n := 2) (ret := (some .boolean)) (hs := []) (by decide) k328 ?_
  intro p e s m below meth c hx hb hr hml hown hts hlocks hnm hT hOK hadm
  have K0 : mh_K0 p s m ([.ref a, .int (nI key)]).toArray c "MeldHost$KeySet" b_KS_has dC dI dA := ⟨hx, hb, hown, hts, hOK.1, hOK.2.1⟩
  have hX := hOK.2.2.2.2
  have hb0 := hOK.2.2.2.1
  have hS : va_S (mh_A b) s.heap s.heap [] := va_S.rf
  have hl := lv_entry ([.ref a, .int (nI key)]) (n := 2) (Nat.le_of_ble_eq_true rfl)
  rw [lg_entry_eq]
  generalize (lg_sl ([.ref a, .int (nI key)]) ++ List.replicate (2 - (lg_sl ([.ref a, .int (nI key)])).length) Slot.unset).toArray = ls at hl ⊢
  have hl : lv_has ls 2 [(0, .ref a), (1, .int (nI key))] := hl
  refine lv_aload_n hx hb d_KS_has_0 rfl (lv_at hl 0 rfl) ?_
  refine mh_get K0 hX h0 f_KS_11 rfl d_KS_has_1 ?_
  refine lv_iload_n hx hb d_KS_has_4 rfl (lv_at hl 1 rfl) ?_
  refine lv_bipush (v := nI 64) hx hb d_KS_has_5 (by decide) ?_
  refine mh_divN hx hb (by omega) (by omega) (by omega) d_KS_has_7 ?_
  refine mh_laldN K0 hX h1 (by omega) (by omega) d_KS_has_8 ?_
  refine lv_iload_n hx hb d_KS_has_9 rfl (lv_at hl 1 rfl) ?_
  refine lv_bipush (v := nI 64) hx hb d_KS_has_10 (by decide) ?_
  refine mh_remN hx hb (by omega) (by omega) (by omega) d_KS_has_12 ?_
  refine lv_lushr hx hb d_KS_has_13 rfl ?_
  refine lv_lconst (v := 1) hx hb d_KS_has_14 rfl ?_
  refine lv_land hx hb d_KS_has_15 ?_
  refine lv_lconst (v := 0) hx hb d_KS_has_16 rfl ?_
  refine W.lcmp hx hb d_KS_has_17 ?_
  refine lv_if_eq (tgt := 25) hx hb d_KS_has_18 (by decide) (fun ct => ?_) (fun cf => ?_)
  · skip
    have hz : pb_b f key = false := (pb_has f key).mp ((mh_lc0 _ _).mp ct)
    refine lv_iconst (v := nI 0) hx hb d_KS_has_25 (by decide) ?_
    exact mh_iret K0 hr (by decide) hlocks hX hS (⟨by rw [← hf key hk, hz]; rfl, rfl⟩) (Nat.le_of_ble_eq_true rfl) (Nat.le_of_ble_eq_true rfl) d_KS_has_26
  · skip
    have hz : pb_b f key = true := by cases e9 : pb_b f key with | true => rfl | false => exact absurd ((mh_lc0 _ _).mpr ((pb_has f key).mpr e9)) cf
    refine lv_iconst (v := nI 1) hx hb d_KS_has_21 (by decide) ?_
    refine lv_goto (tgt := 26) hx hb d_KS_has_22 (by decide) ?_
    exact mh_iret K0 hr (by decide) hlocks hX hS (⟨by rw [← hf key hk, hz]; rfl, rfl⟩) (Nat.le_of_ble_eq_true rfl) (Nat.le_of_ble_eq_true rfl) d_KS_has_26
set_option maxHeartbeats 4000000 in
set_option maxRecDepth 100000 in
theorem c_KS_add {l : Launch} {b : Nat} {dC : Nat → ClassId} {dI : Nat → Nat → Nat} {dA : Nat → ClassId} {zs : Nat → Nat} {w : mh_w} {k i a : Nat} {rd : Nat → Bool} (h : rK dA w k i a rd) {key : Nat} (hk : key < 256) : mh_Met l b dC dI dA zs y_KS_add (mh_rm 0 0 0) [.ref a, .int (nI key)] w (mh_V none (fun w' => rK dA w' k i a (fun j => decide (j = key) || rd j) ∧ mh_F w w' k 2 i)) := by
  obtain ⟨a1, f, h0, h1, hf⟩ := h
  refine mh_ofW (cc := b_KS_add) (n := 2) (ret := none) (hs := []) (by decide) k321 ?_
  intro p e s m below meth c hx hb hr hml hown hts hlocks hnm hT hOK hadm
  have K0 : mh_K0 p s m ([.ref a, .int (nI key)]).toArray c "MeldHost$KeySet" b_KS_add dC dI dA := ⟨hx, hb, hown, hts, hOK.1, hOK.2.1⟩
  have hX := hOK.2.2.2.2
  have hb0 := hOK.2.2.2.1
  have hS : va_S (mh_A b) s.heap s.heap [] := va_S.rf
  have hl := lv_entry ([.ref a, .int (nI key)]) (n := 2) (Nat.le_of_ble_eq_true rfl)
  rw [lg_entry_eq]
  generalize (lg_sl ([.ref a, .int (nI key)]) ++ List.replicate (2 - (lg_sl ([.ref a, .int (nI key)])).length) Slot.unset).toArray = ls at hl ⊢
  have hl : lv_has ls 2 [(0, .ref a), (1, .int (nI key))] := hl
  refine lv_aload_n hx hb d_KS_add_0 rfl (lv_at hl 0 rfl) ?_
  refine mh_get K0 hX h0 f_KS_11 rfl d_KS_add_1 ?_
  refine lv_iload_n hx hb d_KS_add_4 rfl (lv_at hl 1 rfl) ?_
  refine lv_bipush (v := nI 64) hx hb d_KS_add_5 (by decide) ?_
  refine mh_divN hx hb (by omega) (by omega) (by omega) d_KS_add_7 ?_
  refine lv_dup2_11 hx hb d_KS_add_8 rfl rfl ?_
  refine mh_laldN K0 hX h1 (by omega) (by omega) d_KS_add_9 ?_
  refine lv_lconst (v := 1) hx hb d_KS_add_10 rfl ?_
  refine lv_iload_n hx hb d_KS_add_11 rfl (lv_at hl 1 rfl) ?_
  refine lv_bipush (v := nI 64) hx hb d_KS_add_12 (by decide) ?_
  refine mh_remN hx hb (by omega) (by omega) (by omega) d_KS_add_14 ?_
  refine lv_lshl hx hb d_KS_add_15 rfl ?_
  refine lv_lor hx hb d_KS_add_16 ?_
  refine mh_lastN K0 hX hS h1 (by omega) (by omega) d_KS_add_17 (fun H locs hX hS => ?_)
  have fs3 := mh_self hX
  exact mh_vret K0 hr hlocks hX hS (⟨rfl, ⟨a1, _, mh_kp h0 (by omega), mh_set_eq _ _ _ _, fun j hj => by rw [pb_add, hf j hj]⟩, mh_F.rf.set (by omega) (by omega)⟩) (Nat.le_of_ble_eq_true rfl) (Nat.le_of_ble_eq_true rfl) d_KS_add_18
set_option maxHeartbeats 4000000 in
set_option maxRecDepth 100000 in
theorem c_KS_drop {l : Launch} {b : Nat} {dC : Nat → ClassId} {dI : Nat → Nat → Nat} {dA : Nat → ClassId} {zs : Nat → Nat} {w : mh_w} {k i a : Nat} {rd : Nat → Bool} (h : rK dA w k i a rd) {key : Nat} (hk : key < 256) : mh_Met l b dC dI dA zs y_KS_drop (mh_rm 0 0 0) [.ref a, .int (nI key)] w (mh_V none (fun w' => rK dA w' k i a (fun j => !decide (j = key) && rd j) ∧ mh_F w w' k 2 i)) := by
  obtain ⟨a1, f, h0, h1, hf⟩ := h
  refine mh_ofW (cc := b_KS_drop) (n := 2) (ret := none) (hs := []) (by decide) k402 ?_
  intro p e s m below meth c hx hb hr hml hown hts hlocks hnm hT hOK hadm
  have K0 : mh_K0 p s m ([.ref a, .int (nI key)]).toArray c "MeldHost$KeySet" b_KS_drop dC dI dA := ⟨hx, hb, hown, hts, hOK.1, hOK.2.1⟩
  have hX := hOK.2.2.2.2
  have hb0 := hOK.2.2.2.1
  have hS : va_S (mh_A b) s.heap s.heap [] := va_S.rf
  have hl := lv_entry ([.ref a, .int (nI key)]) (n := 2) (Nat.le_of_ble_eq_true rfl)
  rw [lg_entry_eq]
  generalize (lg_sl ([.ref a, .int (nI key)]) ++ List.replicate (2 - (lg_sl ([.ref a, .int (nI key)])).length) Slot.unset).toArray = ls at hl ⊢
  have hl : lv_has ls 2 [(0, .ref a), (1, .int (nI key))] := hl
  refine lv_aload_n hx hb d_KS_drop_0 rfl (lv_at hl 0 rfl) ?_
  refine mh_get K0 hX h0 f_KS_11 rfl d_KS_drop_1 ?_
  refine lv_iload_n hx hb d_KS_drop_4 rfl (lv_at hl 1 rfl) ?_
  refine lv_bipush (v := nI 64) hx hb d_KS_drop_5 (by decide) ?_
  refine mh_divN hx hb (by omega) (by omega) (by omega) d_KS_drop_7 ?_
  refine lv_dup2_11 hx hb d_KS_drop_8 rfl rfl ?_
  refine mh_laldN K0 hX h1 (by omega) (by omega) d_KS_drop_9 ?_
  refine lv_lconst (v := 1) hx hb d_KS_drop_10 rfl ?_
  refine lv_iload_n hx hb d_KS_drop_11 rfl (lv_at hl 1 rfl) ?_
  refine lv_bipush (v := nI 64) hx hb d_KS_drop_12 (by decide) ?_
  refine mh_remN hx hb (by omega) (by omega) (by omega) d_KS_drop_14 ?_
  refine lv_lshl hx hb d_KS_drop_15 rfl ?_
  refine lv_ldc2 hx hb hown (hts _ k403) d_KS_drop_16 ?_
  refine lv_lxor hx hb d_KS_drop_19 ?_
  refine lv_land hx hb d_KS_drop_20 ?_
  refine mh_lastN K0 hX hS h1 (by omega) (by omega) d_KS_drop_21 (fun H locs hX hS => ?_)
  have fs4 := mh_self hX
  exact mh_vret K0 hr hlocks hX hS (⟨rfl, ⟨a1, _, mh_kp h0 (by omega), mh_set_eq _ _ _ _, fun j hj => by rw [pb_del, hf j hj]⟩, mh_F.rf.set (by omega) (by omega)⟩) (Nat.le_of_ble_eq_true rfl) (Nat.le_of_ble_eq_true rfl) d_KS_drop_22
set_option maxHeartbeats 4000000 in
set_option maxRecDepth 100000 in
theorem c_AR_fillJ {l : Launch} {b : Nat} {dC : Nat → ClassId} {dI : Nat → Nat → Nat} {dA : Nat → ClassId} {zs : Nat → Nat} {w : mh_w} {k i a n0 : Nat} {f : Nat → Int64} {v : Int64} (h : w k i = some (a, .inl (dA 1, n0, .inr (.inl f)))) (hn0 : n0 < 2 ^ 31) : mh_Met l b dC dI dA zs y_AR_fillJ (mh_rm 0 0 0) [.ref a, .long v] w (mh_V none (fun w' => (∃ g : Nat → Int64, w' k i = some (a, .inl (dA 1, n0, .inr (.inl g))) ∧ ∀ j, j < n0 → g j = v) ∧ mh_F w w' k 1 i)) := by
  refine mh_ofW (cc := b_AR_fillJ) (n := 5) (ret := none) (hs := []) (by decide) k585 ?_
  intro p e s m below meth c hx hb hr hml hown hts hlocks hnm hT hOK hadm
  have K0 : mh_K0 p s m ([.ref a, .long v]).toArray c "java/util/Arrays" b_AR_fillJ dC dI dA := ⟨hx, hb, hown, hts, hOK.1, hOK.2.1⟩
  have hX := hOK.2.2.2.2
  have hb0 := hOK.2.2.2.1
  have hS : va_S (mh_A b) s.heap s.heap [] := va_S.rf
  have hl := lv_entry ([.ref a, .long v]) (n := 5) (Nat.le_of_ble_eq_true rfl)
  rw [lg_entry_eq]
  generalize (lg_sl ([.ref a, .long v]) ++ List.replicate (5 - (lg_sl ([.ref a, .long v])).length) Slot.unset).toArray = ls at hl ⊢
  have hl : lv_has ls 5 [(0, .ref a), (1, .long v)] := hl
  refine lv_iconst (v := nI 0) hx hb d_AR_fillJ_0 (by decide) ?_
  refine lv_istore_n (lv' := [(3, .int (nI 0)), (0, .ref a), (1, .long v)]) hx hb d_AR_fillJ_1 rfl hl (by decide) rfl (fun ls hl => ?_)
  refine lv_aload_n hx hb d_AR_fillJ_2 rfl (lv_at hl 1 rfl) ?_
  refine mh_alen 1 rfl K0 hX h d_AR_fillJ_3 ?_
  refine lv_istore (lv' := [(4, .int (nI n0)), (3, .int (nI 0)), (0, .ref a), (1, .long v)]) hx hb d_AR_fillJ_4 hl (by decide) rfl (fun ls hl => ?_)
  have LP : ∀ (n : Nat) (j : Nat) (w1 : mh_w) (g : Nat → Int64) (H : Heap) (locs : List Loc) (ls : Array Slot), mh_P (dC, dI) b w1 H → va_S (mh_A b) s.heap H locs → lv_has ls 5 [(4, .int (nI n0)), (3, .int (nI j)), (0, .ref a), (1, .long v)] → (j + n = n0) → (w1 k i = some (a, .inl (dA 1, n0, .inr (.inl g)))) → (mh_F w w1 k 1 i) → (∀ z, z < j → g z = v) → W p l e (mh_rm 0 0 0) s m ([.ref a, .long v]).toArray below meth c H locs (0) (0) (mh_MQ below b dC dI (mh_V none (fun w' => (∃ g : Nat → Int64, w' k i = some (a, .inl (dA 1, n0, .inr (.inl g))) ∧ ∀ j, j < n0 → g j = v) ∧ mh_F w w' k 1 i)) ([.ref a, .long v]).toArray s 0 0) (F0 m 6 ls []) := by
    intro n
    induction n with
    | zero =>
      intro j w1 g H locs ls hX hS hl hn hc hF hg
      refine lv_iload_n hx hb d_AR_fillJ_6 rfl (lv_at hl 1 rfl) ?_
      refine lv_iload hx hb d_AR_fillJ_7 (lv_at hl 0 rfl) ?_
      refine mh_icmp_ge (tgt := 22) hx hb (by omega) (by omega) d_AR_fillJ_9 (by decide) (fun _ => ?_) (fun z => absurd z (by omega))
      exact mh_vret K0 hr hlocks hX hS (⟨rfl, ⟨g, hc, fun z hz => hg z (by omega)⟩, hF⟩) (Nat.le_of_ble_eq_true rfl) (Nat.le_of_ble_eq_true rfl) d_AR_fillJ_22
    | succ n ih =>
      intro j w1 g H locs ls hX hS hl hn hc hF hg
      refine lv_iload_n hx hb d_AR_fillJ_6 rfl (lv_at hl 1 rfl) ?_
      refine lv_iload hx hb d_AR_fillJ_7 (lv_at hl 0 rfl) ?_
      refine mh_icmp_ge (tgt := 22) hx hb (by omega) (by omega) d_AR_fillJ_9 (by decide) (fun z => absurd z (by omega)) (fun _ => ?_)
      refine lv_aload_n hx hb d_AR_fillJ_12 rfl (lv_at hl 2 rfl) ?_
      refine lv_iload_n hx hb d_AR_fillJ_13 rfl (lv_at hl 1 rfl) ?_
      refine lv_lload_n hx hb d_AR_fillJ_14 rfl (lv_at hl 3 rfl) ?_
      refine mh_lastN K0 hX hS hc (by omega) (by omega) d_AR_fillJ_15 (fun H locs hX hS => ?_)
      have fs5 := mh_self hX
      refine lv_iinc (v := nI (j + 1)) (k := 1) (lv' := [(3, .int (nI (j + 1))), (4, .int (nI n0)), (0, .ref a), (1, .long v)]) hx hb d_AR_fillJ_16 hl rfl (mh_inc j) (by decide) rfl (fun ls hl => ?_)
      refine lv_goto (tgt := 6) hx hb d_AR_fillJ_19 (by decide) ?_
      exact ih (j + 1) _ (vp_updL g j v) _ _ _ hX hS (lv_sub hl [1, 0, 2, 3] rfl) (by omega) (mh_set_eq _ _ _ _) (hF.set (by omega) (by omega)) (fun z hz => if e : z = j then (by rw [e]; exact pk_uLs) else (pk_uLn e).trans (hg z (by omega)))
  exact LP n0 0 _ f _ _ _ hX hS hl (by omega) h mh_F.rf (fun z hz => absurd hz (Nat.not_lt_zero z))
set_option maxHeartbeats 4000000 in
set_option maxRecDepth 100000 in
theorem c_AR_fillI {l : Launch} {b : Nat} {dC : Nat → ClassId} {dI : Nat → Nat → Nat} {dA : Nat → ClassId} {zs : Nat → Nat} {w : mh_w} {k i a n0 : Nat} {f : Nat → Int32} {v : Int32} (h : w k i = some (a, .inl (dA 0, n0, .inl f))) (hn0 : n0 < 2 ^ 31) : mh_Met l b dC dI dA zs y_AR_fillI (mh_rm 0 0 0) [.ref a, .int v] w (mh_V none (fun w' => (∃ g : Nat → Int32, w' k i = some (a, .inl (dA 0, n0, .inl g)) ∧ ∀ j, j < n0 → g j = v) ∧ mh_F w w' k 1 i)) := by
  refine mh_ofW (cc := b_AR_fillI) (n := 4) (ret := none) (hs := []) (by decide) k94 ?_
  intro p e s m below meth c hx hb hr hml hown hts hlocks hnm hT hOK hadm
  have K0 : mh_K0 p s m ([.ref a, .int v]).toArray c "java/util/Arrays" b_AR_fillI dC dI dA := ⟨hx, hb, hown, hts, hOK.1, hOK.2.1⟩
  have hX := hOK.2.2.2.2
  have hb0 := hOK.2.2.2.1
  have hS : va_S (mh_A b) s.heap s.heap [] := va_S.rf
  have hl := lv_entry ([.ref a, .int v]) (n := 4) (Nat.le_of_ble_eq_true rfl)
  rw [lg_entry_eq]
  generalize (lg_sl ([.ref a, .int v]) ++ List.replicate (4 - (lg_sl ([.ref a, .int v])).length) Slot.unset).toArray = ls at hl ⊢
  have hl : lv_has ls 4 [(0, .ref a), (1, .int v)] := hl
  refine lv_iconst (v := nI 0) hx hb d_AR_fillI_0 (by decide) ?_
  refine lv_istore_n (lv' := [(2, .int (nI 0)), (0, .ref a), (1, .int v)]) hx hb d_AR_fillI_1 rfl hl (by decide) rfl (fun ls hl => ?_)
  refine lv_aload_n hx hb d_AR_fillI_2 rfl (lv_at hl 1 rfl) ?_
  refine mh_alen 0 rfl K0 hX h d_AR_fillI_3 ?_
  refine lv_istore_n (lv' := [(3, .int (nI n0)), (2, .int (nI 0)), (0, .ref a), (1, .int v)]) hx hb d_AR_fillI_4 rfl hl (by decide) rfl (fun ls hl => ?_)
  have LP : ∀ (n : Nat) (j : Nat) (w1 : mh_w) (g : Nat → Int32) (H : Heap) (locs : List Loc) (ls : Array Slot), mh_P (dC, dI) b w1 H → va_S (mh_A b) s.heap H locs → lv_has ls 4 [(3, .int (nI n0)), (2, .int (nI j)), (0, .ref a), (1, .int v)] → (j + n = n0) → (w1 k i = some (a, .inl (dA 0, n0, .inl g))) → (mh_F w w1 k 1 i) → (∀ z, z < j → g z = v) → W p l e (mh_rm 0 0 0) s m ([.ref a, .int v]).toArray below meth c H locs (0) (0) (mh_MQ below b dC dI (mh_V none (fun w' => (∃ g : Nat → Int32, w' k i = some (a, .inl (dA 0, n0, .inl g)) ∧ ∀ j, j < n0 → g j = v) ∧ mh_F w w' k 1 i)) ([.ref a, .int v]).toArray s 0 0) (F0 m 5 ls []) := by
    intro n
    induction n with
    | zero =>
      intro j w1 g H locs ls hX hS hl hn hc hF hg
      refine lv_iload_n hx hb d_AR_fillI_5 rfl (lv_at hl 1 rfl) ?_
      refine lv_iload_n hx hb d_AR_fillI_6 rfl (lv_at hl 0 rfl) ?_
      refine mh_icmp_ge (tgt := 20) hx hb (by omega) (by omega) d_AR_fillI_7 (by decide) (fun _ => ?_) (fun z => absurd z (by omega))
      exact mh_vret K0 hr hlocks hX hS (⟨rfl, ⟨g, hc, fun z hz => hg z (by omega)⟩, hF⟩) (Nat.le_of_ble_eq_true rfl) (Nat.le_of_ble_eq_true rfl) d_AR_fillI_20
    | succ n ih =>
      intro j w1 g H locs ls hX hS hl hn hc hF hg
      refine lv_iload_n hx hb d_AR_fillI_5 rfl (lv_at hl 1 rfl) ?_
      refine lv_iload_n hx hb d_AR_fillI_6 rfl (lv_at hl 0 rfl) ?_
      refine mh_icmp_ge (tgt := 20) hx hb (by omega) (by omega) d_AR_fillI_7 (by decide) (fun z => absurd z (by omega)) (fun _ => ?_)
      refine lv_aload_n hx hb d_AR_fillI_10 rfl (lv_at hl 2 rfl) ?_
      refine lv_iload_n hx hb d_AR_fillI_11 rfl (lv_at hl 1 rfl) ?_
      refine lv_iload_n hx hb d_AR_fillI_12 rfl (lv_at hl 3 rfl) ?_
      refine mh_iastN K0 hX hS hc (by omega) (by omega) d_AR_fillI_13 (fun H locs hX hS => ?_)
      have fs6 := mh_self hX
      refine lv_iinc (v := nI (j + 1)) (k := 1) (lv' := [(2, .int (nI (j + 1))), (3, .int (nI n0)), (0, .ref a), (1, .int v)]) hx hb d_AR_fillI_14 hl rfl (mh_inc j) (by decide) rfl (fun ls hl => ?_)
      refine lv_goto (tgt := 5) hx hb d_AR_fillI_17 (by decide) ?_
      exact ih (j + 1) _ (upd g j v) _ _ _ hX hS (lv_sub hl [1, 0, 2, 3] rfl) (by omega) (mh_set_eq _ _ _ _) (hF.set (by omega) (by omega)) (fun z hz => if e : z = j then (by rw [e]; exact pk_us) else (pk_un e).trans (hg z (by omega)))
  exact LP n0 0 _ f _ _ _ hX hS hl (by omega) h mh_F.rf (fun z hz => absurd hz (Nat.not_lt_zero z))
set_option maxHeartbeats 4000000 in
set_option maxRecDepth 100000 in
theorem c_KS_dropAll {l : Launch} {b : Nat} {dC : Nat → ClassId} {dI : Nat → Nat → Nat} {dA : Nat → ClassId} {zs : Nat → Nat} {w : mh_w} {k i a : Nat} {rd : Nat → Bool} (h : rK dA w k i a rd) : mh_Met l b dC dI dA zs y_KS_dropAll (mh_rm 1 0 0) [.ref a] w (mh_V none (fun w' => rK dA w' k i a (fun _ => false) ∧ mh_F w w' k 2 i)) := by
  obtain ⟨a1, f, h0, h1, hf⟩ := h
  refine mh_ofW (cc := b_KS_dropAll) (n := 1) (ret := none) (hs := []) (by decide) k582 ?_
  intro p e s m below meth c hx hb hr hml hown hts hlocks hnm hT hOK hadm
  have K0 : mh_K0 p s m ([.ref a]).toArray c "MeldHost$KeySet" b_KS_dropAll dC dI dA := ⟨hx, hb, hown, hts, hOK.1, hOK.2.1⟩
  have hX := hOK.2.2.2.2
  have hb0 := hOK.2.2.2.1
  have hS : va_S (mh_A b) s.heap s.heap [] := va_S.rf
  have hl := lv_entry ([.ref a]) (n := 1) (Nat.le_of_ble_eq_true rfl)
  rw [lg_entry_eq]
  generalize (lg_sl ([.ref a]) ++ List.replicate (1 - (lg_sl ([.ref a])).length) Slot.unset).toArray = ls at hl ⊢
  have hl : lv_has ls 1 [(0, .ref a)] := hl
  refine lv_aload_n hx hb d_KS_dropAll_0 rfl (lv_at hl 0 rfl) ?_
  refine mh_get K0 hX h0 f_KS_11 rfl d_KS_dropAll_1 ?_
  refine lv_lconst (v := 0) hx hb d_KS_dropAll_4 rfl ?_
  refine mh_callV (mh_sS (rest := []) (av := [.ref a1, .long 0]) K0 e_AR_fillJ l_KS_17 k584 rfl rfl d_KS_dropAll_5) (c_AR_fillJ h1 (by decide)) K0 hOK hml hl.1 e_AR_fillJ hX hS d_KS_dropAll_5 (Nat.le_of_ble_eq_true rfl) (Nat.le_of_ble_eq_true rfl) (Nat.le_of_ble_eq_true rfl) (Nat.le_of_ble_eq_true rfl) (Nat.le_of_ble_eq_true rfl) (fun w1 H locs ⟨⟨g, hg, hz⟩, hF⟩ hX hS => ?_)
  refine W.eq (g2 := F0 m 8 ls []) rfl ?_
  exact mh_vret K0 hr hlocks hX hS (⟨rfl, ⟨a1, g, (hF k i (by omega)).trans h0, hg, fun j hj => by unfold pb_b; rw [hz _ (by omega)]; simp⟩, fun k2 i2 h2 => hF k2 i2 (by omega)⟩) (Nat.le_of_ble_eq_true rfl) (Nat.le_of_ble_eq_true rfl) d_KS_dropAll_8
set_option maxHeartbeats 4000000 in
set_option maxRecDepth 100000 in
theorem c_KS_copyFrom {l : Launch} {b : Nat} {dC : Nat → ClassId} {dI : Nat → Nat → Nat} {dA : Nat → ClassId} {zs : Nat → Nat} {w : mh_w} {k i a : Nat} {rd : Nat → Bool} (h : rK dA w k i a rd) {k2 i2 a2 : Nat} {rd2 : Nat → Bool} (h2 : rK dA w k2 i2 a2 rd2) : mh_Met l b dC dI dA zs y_KS_copyFrom (mh_rm 1 0 0) [.ref a, .ref a2] w (mh_V none (fun w' => rK dA w' k i a rd2 ∧ mh_F w w' k 2 i)) := by
  obtain ⟨a1, f, h0, h1, hf⟩ := h
  obtain ⟨b1, g, g0, g1, hg⟩ := h2
  refine mh_ofW (cc := b_KS_copyFrom) (n := 2) (ret := none) (hs := []) (by decide) k288 ?_
  intro p e s m below meth c hx hb hr hml hown hts hlocks hnm hT hOK hadm
  have K0 : mh_K0 p s m ([.ref a, .ref a2]).toArray c "MeldHost$KeySet" b_KS_copyFrom dC dI dA := ⟨hx, hb, hown, hts, hOK.1, hOK.2.1⟩
  have hX := hOK.2.2.2.2
  have hb0 := hOK.2.2.2.1
  have hS : va_S (mh_A b) s.heap s.heap [] := va_S.rf
  have hl := lv_entry ([.ref a, .ref a2]) (n := 2) (Nat.le_of_ble_eq_true rfl)
  rw [lg_entry_eq]
  generalize (lg_sl ([.ref a, .ref a2]) ++ List.replicate (2 - (lg_sl ([.ref a, .ref a2])).length) Slot.unset).toArray = ls at hl ⊢
  have hl : lv_has ls 2 [(0, .ref a), (1, .ref a2)] := hl
  refine lv_aload_n hx hb d_KS_copyFrom_0 rfl (lv_at hl 1 rfl) ?_
  refine mh_get K0 hX g0 f_KS_11 rfl d_KS_copyFrom_1 ?_
  refine lv_iconst (v := nI 0) hx hb d_KS_copyFrom_4 (by decide) ?_
  refine lv_aload_n hx hb d_KS_copyFrom_5 rfl (lv_at hl 0 rfl) ?_
  refine mh_get K0 hX h0 f_KS_11 rfl d_KS_copyFrom_6 ?_
  refine lv_iconst (v := nI 0) hx hb d_KS_copyFrom_9 (by decide) ?_
  refine lv_aload_n hx hb d_KS_copyFrom_10 rfl (lv_at hl 0 rfl) ?_
  refine mh_get K0 hX h0 f_KS_11 rfl d_KS_copyFrom_11 ?_
  refine mh_alen 1 rfl K0 hX h1 d_KS_copyFrom_14 ?_
  refine mh_copyl (rest := []) K0 hml hl.1 k289 k291 k290 k17 hX hS g1 h1 (n := 4) (by omega) (by omega) (by omega) (Nat.le_of_ble_eq_true rfl) (Nat.le_of_ble_eq_true rfl) d_KS_copyFrom_15 (fun H locs hX hS => ?_)
  have fs7 := mh_self hX
  exact mh_vret K0 hr hlocks hX hS (⟨rfl, ⟨a1, _, mh_kp h0 (by omega), mh_set_eq _ _ _ _, fun j hj => by unfold pb_b; rw [pk_cpy_in (by omega) (by omega), Nat.zero_add, Nat.sub_zero]; exact hg j hj⟩, mh_F.rf.set (by omega) (by omega)⟩) (Nat.le_of_ble_eq_true rfl) (Nat.le_of_ble_eq_true rfl) d_KS_copyFrom_18
set_option maxHeartbeats 4000000 in
set_option maxRecDepth 100000 in
theorem c_LG_bitCount {l : Launch} {b : Nat} {dC : Nat → ClassId} {dI : Nat → Nat → Nat} {dA : Nat → ClassId} {zs : Nat → Nat} {w : mh_w} {x : Int64} : mh_Met l b dC dI dA zs y_LG_bitCount (mh_rm 0 0 0) [.long x] w (mh_V (some (.int (nI (pb_pc 64 (pb_N x))))) (fun w' => w' = w)) := by
  refine mh_ofW (cc := b_LG_bitCount) (n := 2) (ret := (some .int)) (hs := []) (by decide) k629 ?_
  intro p e s m below meth c hx hb hr hml hown hts hlocks hnm hT hOK hadm
  have K0 : mh_K0 p s m ([.long x]).toArray c "java/lang/Long" b_LG_bitCount dC dI dA := ⟨hx, hb, hown, hts, hOK.1, hOK.2.1⟩
  have hX := hOK.2.2.2.2
  have hb0 := hOK.2.2.2.1
  have hS : va_S (mh_A b) s.heap s.heap [] := va_S.rf
  have hl := lv_entry ([.long x]) (n := 2) (Nat.le_of_ble_eq_true rfl)
  rw [lg_entry_eq]
  generalize (lg_sl ([.long x]) ++ List.replicate (2 - (lg_sl ([.long x])).length) Slot.unset).toArray = ls at hl ⊢
  have hl : lv_has ls 2 [(0, .long x)] := hl
  refine lv_lload_n hx hb d_LG_bitCount_0 rfl (lv_at hl 0 rfl) ?_
  refine lv_lload_n hx hb d_LG_bitCount_1 rfl (lv_at hl 0 rfl) ?_
  refine lv_iconst (v := nI 1) hx hb d_LG_bitCount_2 (by decide) ?_
  refine lv_lushr hx hb d_LG_bitCount_3 rfl ?_
  refine lv_ldc2 hx hb hown (hts _ k630) d_LG_bitCount_4 ?_
  refine lv_land hx hb d_LG_bitCount_7 ?_
  refine lv_lsub hx hb d_LG_bitCount_8 ?_
  refine lv_topl (fun v1 e1 => ?_)
  refine lv_lstore_n (lv' := [(0, .long v1)]) hx hb d_LG_bitCount_9 rfl hl (by decide) rfl (fun ls hl => ?_)
  refine lv_lload_n hx hb d_LG_bitCount_10 rfl (lv_at hl 0 rfl) ?_
  refine lv_ldc2 hx hb hown (hts _ k631) d_LG_bitCount_11 ?_
  refine lv_land hx hb d_LG_bitCount_14 ?_
  refine lv_lload_n hx hb d_LG_bitCount_15 rfl (lv_at hl 0 rfl) ?_
  refine lv_iconst (v := nI 2) hx hb d_LG_bitCount_16 (by decide) ?_
  refine lv_lushr hx hb d_LG_bitCount_17 rfl ?_
  refine lv_ldc2 hx hb hown (hts _ k631) d_LG_bitCount_18 ?_
  refine lv_land hx hb d_LG_bitCount_21 ?_
  refine lv_ladd hx hb d_LG_bitCount_22 ?_
  refine lv_topl (fun v2 e2 => ?_)
  refine lv_lstore_n (lv' := [(0, .long v2)]) hx hb d_LG_bitCount_23 rfl hl (by decide) rfl (fun ls hl => ?_)
  refine lv_lload_n hx hb d_LG_bitCount_24 rfl (lv_at hl 0 rfl) ?_
  refine lv_lload_n hx hb d_LG_bitCount_25 rfl (lv_at hl 0 rfl) ?_
  refine lv_iconst (v := nI 4) hx hb d_LG_bitCount_26 (by decide) ?_
  refine lv_lushr hx hb d_LG_bitCount_27 rfl ?_
  refine lv_ladd hx hb d_LG_bitCount_28 ?_
  refine lv_ldc2 hx hb hown (hts _ k632) d_LG_bitCount_29 ?_
  refine lv_land hx hb d_LG_bitCount_32 ?_
  refine lv_topl (fun v3 e3 => ?_)
  refine lv_lstore_n (lv' := [(0, .long v3)]) hx hb d_LG_bitCount_33 rfl hl (by decide) rfl (fun ls hl => ?_)
  refine lv_lload_n hx hb d_LG_bitCount_34 rfl (lv_at hl 0 rfl) ?_
  refine lv_lload_n hx hb d_LG_bitCount_35 rfl (lv_at hl 0 rfl) ?_
  refine lv_bipush (v := nI 8) hx hb d_LG_bitCount_36 (by decide) ?_
  refine lv_lushr hx hb d_LG_bitCount_38 rfl ?_
  refine lv_ladd hx hb d_LG_bitCount_39 ?_
  refine lv_topl (fun v4 e4 => ?_)
  refine lv_lstore_n (lv' := [(0, .long v4)]) hx hb d_LG_bitCount_40 rfl hl (by decide) rfl (fun ls hl => ?_)
  refine lv_lload_n hx hb d_LG_bitCount_41 rfl (lv_at hl 0 rfl) ?_
  refine lv_lload_n hx hb d_LG_bitCount_42 rfl (lv_at hl 0 rfl) ?_
  refine lv_bipush (v := nI 16) hx hb d_LG_bitCount_43 (by decide) ?_
  refine lv_lushr hx hb d_LG_bitCount_45 rfl ?_
  refine lv_ladd hx hb d_LG_bitCount_46 ?_
  refine lv_topl (fun v5 e5 => ?_)
  refine lv_lstore_n (lv' := [(0, .long v5)]) hx hb d_LG_bitCount_47 rfl hl (by decide) rfl (fun ls hl => ?_)
  refine lv_lload_n hx hb d_LG_bitCount_48 rfl (lv_at hl 0 rfl) ?_
  refine lv_lload_n hx hb d_LG_bitCount_49 rfl (lv_at hl 0 rfl) ?_
  refine lv_bipush (v := nI 32) hx hb d_LG_bitCount_50 (by decide) ?_
  refine lv_lushr hx hb d_LG_bitCount_52 rfl ?_
  refine lv_ladd hx hb d_LG_bitCount_53 ?_
  refine lv_topl (fun v6 e6 => ?_)
  refine lv_lstore_n (lv' := [(0, .long v6)]) hx hb d_LG_bitCount_54 rfl hl (by decide) rfl (fun ls hl => ?_)
  refine lv_lload_n hx hb d_LG_bitCount_55 rfl (lv_at hl 0 rfl) ?_
  refine lv_l2i hx hb d_LG_bitCount_56 rfl ?_
  refine lv_bipush (v := nI 127) hx hb d_LG_bitCount_57 (by decide) ?_
  refine lv_iand hx hb d_LG_bitCount_59 ?_
  refine mh_ti (y := nI (pb_pc 64 (pb_N x))) (pb_bits e1 e2 e3 e4 e5 e6) ?_
  exact mh_iret K0 hr rfl hlocks hX hS (⟨rfl, rfl⟩) (Nat.le_of_ble_eq_true rfl) (Nat.le_of_ble_eq_true rfl) d_LG_bitCount_60
set_option maxHeartbeats 4000000 in
set_option maxRecDepth 100000 in
theorem c_KS_size {l : Launch} {b : Nat} {dC : Nat → ClassId} {dI : Nat → Nat → Nat} {dA : Nat → ClassId} {zs : Nat → Nat} {w : mh_w} {k i a : Nat} {rd : Nat → Bool} (h : rK dA w k i a rd) : mh_Met l b dC dI dA zs y_KS_size (mh_rm 1 0 0) [.ref a] w (mh_V (some (.int (nI (pb_cnt rd 256)))) (fun w' => w' = w)) := by
  obtain ⟨a1, f, h0, h1, hf⟩ := h
  refine mh_ofW (cc := b_KS_size) (n := 3) (ret := (some .int)) (hs := []) (by decide) k626 ?_
  intro p e s m below meth c hx hb hr hml hown hts hlocks hnm hT hOK hadm
  have K0 : mh_K0 p s m ([.ref a]).toArray c "MeldHost$KeySet" b_KS_size dC dI dA := ⟨hx, hb, hown, hts, hOK.1, hOK.2.1⟩
  have hX := hOK.2.2.2.2
  have hb0 := hOK.2.2.2.1
  have hS : va_S (mh_A b) s.heap s.heap [] := va_S.rf
  have hl := lv_entry ([.ref a]) (n := 3) (Nat.le_of_ble_eq_true rfl)
  rw [lg_entry_eq]
  generalize (lg_sl ([.ref a]) ++ List.replicate (3 - (lg_sl ([.ref a])).length) Slot.unset).toArray = ls at hl ⊢
  have hl : lv_has ls 3 [(0, .ref a)] := hl
  refine lv_iconst (v := nI 0) hx hb d_KS_size_0 (by decide) ?_
  refine lv_istore_n (lv' := [(1, .int (nI 0)), (0, .ref a)]) hx hb d_KS_size_1 rfl hl (by decide) rfl (fun ls hl => ?_)
  refine lv_iconst (v := nI 0) hx hb d_KS_size_2 (by decide) ?_
  refine lv_istore_n (lv' := [(2, .int (nI 0)), (1, .int (nI 0)), (0, .ref a)]) hx hb d_KS_size_3 rfl hl (by decide) rfl (fun ls hl => ?_)
  have LP : ∀ (n : Nat) (j : Nat) (H : Heap) (locs : List Loc) (ls : Array Slot), mh_P (dC, dI) b w H → va_S (mh_A b) s.heap H locs → lv_has ls 3 [(2, .int (nI j)), (1, .int (nI (pb_cnt (pb_b f) (64 * j)))), (0, .ref a)] → (j + n = 4) → W p l e (mh_rm 1 0 0) s m ([.ref a]).toArray below meth c H locs (0) (0) (mh_MQ below b dC dI (mh_V (some (.int (nI (pb_cnt rd 256)))) (fun w' => w' = w)) ([.ref a]).toArray s 0 0) (F0 m 4 ls []) := by
    intro n
    induction n with
    | zero =>
      intro j H locs ls hX hS hl hn
      refine lv_iload_n hx hb d_KS_size_4 rfl (lv_at hl 0 rfl) ?_
      refine lv_aload_n hx hb d_KS_size_5 rfl (lv_at hl 2 rfl) ?_
      refine mh_get K0 hX h0 f_KS_11 rfl d_KS_size_6 ?_
      refine mh_alen 1 rfl K0 hX h1 d_KS_size_9 ?_
      refine mh_icmp_ge (tgt := 31) hx hb (by omega) (by omega) d_KS_size_10 (by decide) (fun _ => ?_) (fun z => absurd z (by omega))
      refine lv_iload_n hx hb d_KS_size_31 rfl (lv_at hl 1 rfl) ?_
      exact mh_iret K0 hr rfl hlocks hX hS (⟨by rw [show j = 4 by omega, pb_cnt_congr (f := pb_b f) (g := rd) (n := 256) hf], rfl⟩) (Nat.le_of_ble_eq_true rfl) (Nat.le_of_ble_eq_true rfl) d_KS_size_32
    | succ n ih =>
      intro j H locs ls hX hS hl hn
      refine lv_iload_n hx hb d_KS_size_4 rfl (lv_at hl 0 rfl) ?_
      refine lv_aload_n hx hb d_KS_size_5 rfl (lv_at hl 2 rfl) ?_
      refine mh_get K0 hX h0 f_KS_11 rfl d_KS_size_6 ?_
      refine mh_alen 1 rfl K0 hX h1 d_KS_size_9 ?_
      refine mh_icmp_ge (tgt := 31) hx hb (by omega) (by omega) d_KS_size_10 (by decide) (fun z => absurd z (by omega)) (fun _ => ?_)
      refine lv_iload_n hx hb d_KS_size_13 rfl (lv_at hl 1 rfl) ?_
      refine lv_aload_n hx hb d_KS_size_14 rfl (lv_at hl 2 rfl) ?_
      refine mh_get K0 hX h0 f_KS_11 rfl d_KS_size_15 ?_
      refine lv_iload_n hx hb d_KS_size_18 rfl (lv_at hl 0 rfl) ?_
      refine mh_laldN K0 hX h1 (by omega) (by omega) d_KS_size_19 ?_
      refine mh_callR (mh_sS (rest := [.int (nI (pb_cnt (pb_b f) (64 * j)))]) (av := [.long (f j)]) K0 e_LG_bitCount l_KS_29 k628 rfl rfl d_KS_size_20) (c_LG_bitCount) K0 hOK hml hl.1 e_LG_bitCount hX hS d_KS_size_20 (Nat.le_of_ble_eq_true rfl) (Nat.le_of_ble_eq_true rfl) (Nat.le_of_ble_eq_true rfl) (Nat.le_of_ble_eq_true rfl) (Nat.le_of_ble_eq_true rfl) (fun H locs hX hS => ?_)
      refine W.eq (g2 := F0 m 23 ls [.int (nI (pb_pc 64 (pb_N (f j)))), .int (nI (pb_cnt (pb_b f) (64 * j)))]) rfl ?_
      refine mh_addN hx hb d_KS_size_23 ?_
      refine mh_ti (y := nI (pb_cnt (pb_b f) (64 * (j + 1)))) (by rw [pb_word]) ?_
      refine lv_istore_n (lv' := [(1, .int (nI (pb_cnt (pb_b f) (64 * (j + 1))))), (2, .int (nI j)), (0, .ref a)]) hx hb d_KS_size_24 rfl hl (by decide) rfl (fun ls hl => ?_)
      refine lv_iinc (v := nI (j + 1)) (k := 1) (lv' := [(2, .int (nI (j + 1))), (1, .int (nI (pb_cnt (pb_b f) (64 * (j + 1))))), (0, .ref a)]) hx hb d_KS_size_25 hl rfl (mh_inc j) (by decide) rfl (fun ls hl => ?_)
      refine lv_goto (tgt := 4) hx hb d_KS_size_28 (by decide) ?_
      exact ih (j + 1) _ _ _ hX hS hl (by omega)
  exact LP 4 0 _ _ _ hX hS hl rfl
