theorem mh_lc0 (x y : Int64) : lg_cmp x y = 0 ↔ x = y := by
  unfold lg_cmp
  by_cases h : x > y
  · rw [if_pos h]
    constructor
    · intro z; exact absurd z (by decide)
    · intro z; subst z; exact absurd h (by rw [gt_iff_lt, Int64.lt_iff_toInt_lt]; omega)
  · rw [if_neg h]
    by_cases e : x = y
    · rw [if_pos e]; exact ⟨fun _ => e, fun _ => rfl⟩
    · rw [if_neg e]; exact ⟨fun z => absurd z (by decide), fun z => absurd z e⟩
theorem d_KS_init_0 : decode b_KS_init 0 = .ok (.aload_n 0, 1) := by decide +kernel
theorem d_KS_init_1 : decode b_KS_init 1 = .ok (.invokespecial 3, 3) := by decide +kernel
theorem d_KS_init_4 : decode b_KS_init 4 = .ok (.aload_n 0, 1) := by decide +kernel
theorem d_KS_init_5 : decode b_KS_init 5 = .ok (.iconst 4, 1) := by decide +kernel
theorem d_KS_init_6 : decode b_KS_init 6 = .ok (.newarray .long, 2) := by decide +kernel
theorem d_KS_init_8 : decode b_KS_init 8 = .ok (.putfield 11, 3) := by decide +kernel
theorem d_KS_init_11 : decode b_KS_init 11 = .ok (.return_, 1) := by decide +kernel
theorem d_KS_has_0 : decode b_KS_has 0 = .ok (.aload_n 0, 1) := by decide +kernel
theorem d_KS_has_1 : decode b_KS_has 1 = .ok (.getfield 11, 3) := by decide +kernel
theorem d_KS_has_4 : decode b_KS_has 4 = .ok (.iload_n 1, 1) := by decide +kernel
theorem d_KS_has_5 : decode b_KS_has 5 = .ok (.bipush 64, 2) := by decide +kernel
theorem d_KS_has_7 : decode b_KS_has 7 = .ok (.idiv, 1) := by decide +kernel
theorem d_KS_has_8 : decode b_KS_has 8 = .ok (.laload, 1) := by decide +kernel
theorem d_KS_has_9 : decode b_KS_has 9 = .ok (.iload_n 1, 1) := by decide +kernel
theorem d_KS_has_10 : decode b_KS_has 10 = .ok (.bipush 64, 2) := by decide +kernel
theorem d_KS_has_12 : decode b_KS_has 12 = .ok (.irem, 1) := by decide +kernel
theorem d_KS_has_13 : decode b_KS_has 13 = .ok (.lushr, 1) := by decide +kernel
theorem d_KS_has_14 : decode b_KS_has 14 = .ok (.lconst 1, 1) := by decide +kernel
theorem d_KS_has_15 : decode b_KS_has 15 = .ok (.land, 1) := by decide +kernel
theorem d_KS_has_16 : decode b_KS_has 16 = .ok (.lconst 0, 1) := by decide +kernel
theorem d_KS_has_17 : decode b_KS_has 17 = .ok (.lcmp, 1) := by decide +kernel
theorem d_KS_has_18 : decode b_KS_has 18 = .ok (.ifCond .eq 7, 3) := by decide +kernel
theorem d_KS_has_25 : decode b_KS_has 25 = .ok (.iconst 0, 1) := by decide +kernel
theorem d_KS_has_26 : decode b_KS_has 26 = .ok (.ireturn, 1) := by decide +kernel
theorem d_KS_has_21 : decode b_KS_has 21 = .ok (.iconst 1, 1) := by decide +kernel
theorem d_KS_has_22 : decode b_KS_has 22 = .ok (.goto 4, 3) := by decide +kernel
theorem d_KS_add_0 : decode b_KS_add 0 = .ok (.aload_n 0, 1) := by decide +kernel
theorem d_KS_add_1 : decode b_KS_add 1 = .ok (.getfield 11, 3) := by decide +kernel
theorem d_KS_add_4 : decode b_KS_add 4 = .ok (.iload_n 1, 1) := by decide +kernel
theorem d_KS_add_5 : decode b_KS_add 5 = .ok (.bipush 64, 2) := by decide +kernel
theorem d_KS_add_7 : decode b_KS_add 7 = .ok (.idiv, 1) := by decide +kernel
theorem d_KS_add_8 : decode b_KS_add 8 = .ok (.dup2, 1) := by decide +kernel
theorem d_KS_add_9 : decode b_KS_add 9 = .ok (.laload, 1) := by decide +kernel
theorem d_KS_add_10 : decode b_KS_add 10 = .ok (.lconst 1, 1) := by decide +kernel
theorem d_KS_add_11 : decode b_KS_add 11 = .ok (.iload_n 1, 1) := by decide +kernel
theorem d_KS_add_12 : decode b_KS_add 12 = .ok (.bipush 64, 2) := by decide +kernel
theorem d_KS_add_14 : decode b_KS_add 14 = .ok (.irem, 1) := by decide +kernel
theorem d_KS_add_15 : decode b_KS_add 15 = .ok (.lshl, 1) := by decide +kernel
theorem d_KS_add_16 : decode b_KS_add 16 = .ok (.lor, 1) := by decide +kernel
theorem d_KS_add_17 : decode b_KS_add 17 = .ok (.lastore, 1) := by decide +kernel
theorem d_KS_add_18 : decode b_KS_add 18 = .ok (.return_, 1) := by decide +kernel
theorem d_KS_drop_0 : decode b_KS_drop 0 = .ok (.aload_n 0, 1) := by decide +kernel
theorem d_KS_drop_1 : decode b_KS_drop 1 = .ok (.getfield 11, 3) := by decide +kernel
theorem d_KS_drop_4 : decode b_KS_drop 4 = .ok (.iload_n 1, 1) := by decide +kernel
theorem d_KS_drop_5 : decode b_KS_drop 5 = .ok (.bipush 64, 2) := by decide +kernel
theorem d_KS_drop_7 : decode b_KS_drop 7 = .ok (.idiv, 1) := by decide +kernel
theorem d_KS_drop_8 : decode b_KS_drop 8 = .ok (.dup2, 1) := by decide +kernel
theorem d_KS_drop_9 : decode b_KS_drop 9 = .ok (.laload, 1) := by decide +kernel
theorem d_KS_drop_10 : decode b_KS_drop 10 = .ok (.lconst 1, 1) := by decide +kernel
theorem d_KS_drop_11 : decode b_KS_drop 11 = .ok (.iload_n 1, 1) := by decide +kernel
theorem d_KS_drop_12 : decode b_KS_drop 12 = .ok (.bipush 64, 2) := by decide +kernel
theorem d_KS_drop_14 : decode b_KS_drop 14 = .ok (.irem, 1) := by decide +kernel
theorem d_KS_drop_15 : decode b_KS_drop 15 = .ok (.lshl, 1) := by decide +kernel
theorem d_KS_drop_16 : decode b_KS_drop 16 = .ok (.ldc2_w 15, 3) := by decide +kernel
theorem d_KS_drop_19 : decode b_KS_drop 19 = .ok (.lxor, 1) := by decide +kernel
theorem d_KS_drop_20 : decode b_KS_drop 20 = .ok (.land, 1) := by decide +kernel
theorem d_KS_drop_21 : decode b_KS_drop 21 = .ok (.lastore, 1) := by decide +kernel
theorem d_KS_drop_22 : decode b_KS_drop 22 = .ok (.return_, 1) := by decide +kernel
set_option maxHeartbeats 4000000 in
set_option maxRecDepth 100000 in
theorem c_KS_init {l : Launch} {b : Nat} {dC : Nat → ClassId} {dI : Nat → Nat → Nat} {dA : Nat → ClassId} {zs : Nat → Nat} {w : mh_w} {k i a : Nat} (h : w k i = some (a, .inr (0, [.null]))) : mh_Met l b dC dI dA zs y_KS_init (mh_rm 1 1 4) [.ref a] w (mh_V none (fun w' => rK dA w' k i a (fun _ => false) ∧ mh_F w w' k 2 i)) := by
  refine mh_ofW (cc := b_KS_init) (n := 1) (ret := none) (hs := []) (by decide) k76 ?_
  intro p e s m below meth c hx hb hr hml hown hts hlocks hnm hT hOK hadm
  have K0 : mh_K0 p s m ([.ref a]).toArray c "MeldHost$KeySet" b_KS_init dC dI dA := ⟨hx, hb, hown, hts, hOK.1, hOK.2.1⟩
  have hX := hOK.2.2.2.2
  have hb0 := hOK.2.2.2.1
  have hS : va_S (mh_A b) s.heap s.heap [] := va_S.rf
  have hl := lv_entry ([.ref a]) (n := 1) (Nat.le_of_ble_eq_true rfl)
  rw [lg_entry_eq]
  generalize (lg_sl ([.ref a]) ++ List.replicate (1 - (lg_sl ([.ref a])).length) Slot.unset).toArray = ls at hl ⊢
  have hl : lv_has ls 1 [(0, .ref a)] := hl
  refine lv_aload_n hx hb d_KS_init_0 rfl (lv_at hl 0 rfl) ?_
  refine W.objInit hx hb hown (hts _ k77) (hts _ k31) (hts _ k32) rfl (by rw [hml]; exact hl.1) rfl d_KS_init_1 (Nat.le_of_ble_eq_true rfl) (Nat.le_of_ble_eq_true rfl) ?_
  refine W.eq (g2 := F0 m 4 ls []) rfl ?_
  refine lv_aload_n hx hb d_KS_init_4 rfl (lv_at hl 0 rfl) ?_
  refine lv_iconst (v := nI 4) hx hb d_KS_init_5 (by decide) ?_
  refine mh_newa (k + 1) i 1 K0 hX hS hb0 (ty := .long) rfl rfl k82 (N' := 4) (a0 := (4, .inr (.inl (fun _ => 0)))) (fun cA => rfl) (by decide) (by decide) (by decide) (Nat.le_of_ble_eq_true rfl) (Nat.le_of_ble_eq_true rfl) d_KS_init_6 (fun q H hX hS => ?_)
  refine mh_putF K0 hX hS (mh_kp h (by omega)) f_KS_11 p_0_0 hnm (fun C T N h => by cases h; rfl) rfl rfl (Nat.le_of_ble_eq_true rfl) d_KS_init_8 (fun C T N h => by cases h; exact k78) (fun H locs hX hS => ?_)
  have hX : mh_P (dC, dI) b (mh_set _ k i (some (a, .inr (0, [.ref q])))) H := hX
  exact mh_vret K0 hr hlocks hX hS (⟨rfl, ⟨q, _, mh_set_eq _ _ _ _, mh_kp (mh_set_eq _ _ _ _) (by omega), fun j _ => pb_zero j⟩, (mh_F.rf.set (by omega) (by omega)).set (by omega) (by omega)⟩) (Nat.le_of_ble_eq_true rfl) (Nat.le_of_ble_eq_true rfl) d_KS_init_11
set_option maxHeartbeats 4000000 in
set_option maxRecDepth 100000 in
theorem c_KS_has {l : Launch} {b : Nat} {dC : Nat → ClassId} {dI : Nat → Nat → Nat} {dA : Nat → ClassId} {zs : Nat → Nat} {w : mh_w} {k i a : Nat} {rd : Nat → Bool} (h : rK dA w k i a rd) {key : Nat} (hk : key < 256) : mh_Met l b dC dI dA zs y_KS_has (mh_rm 0 0 0) [.ref a, .int (nI key)] w (mh_V (some (.int (mh_b (rd key)))) (fun w' => w' = w)) := by
  obtain ⟨a1, f, h0, h1, hf⟩ := h
  refine mh_ofW (cc := b_KS_has) (n := 2) (ret := (some .boolean)) (hs := []) (by decide) k328 ?_
  intro p e s m below meth c hx hb hr hml hown hts hlocks hnm hT hOK hadm
  have K0 : mh_K0 p s m ([.ref a, .int (nI key)]).toArray c "MeldHost$KeySet" b_KS_has dC dI dA := ⟨hx, hb, hown, hts, hOK.1, hOK.2.1⟩
  have hX := hOK.2.2.2.2
  have hb0 := hOK.2.2.2.1
  have hS : va_S (mh_A b) s.heap s.heap [] := va_S.rf
  have hl := lv_entry ([.ref a, .int (nI key)]) (n := 2) (Nat.le_of_ble_eq_true rfl)
  rw [lg_entry_eq]
  generalize (lg_sl ([.ref a, .int (nI key)]) ++ List.replicate (2 - (lg_sl ([.ref a, .int (nI key)])).length) Slot.unset).toArray = ls at hl ⊢
  have hl : lv_has ls 2 [(0, .ref a), (1, .int (nI key))] := hl
  refine lv_aload_n hx hb d_KS_has_0 rfl (lv_at hl 0 rfl) ?_
  refine mh_get K0 hX h0 f_KS_11 rfl d_KS_has_1 ?_
  refine lv_iload_n hx hb d_KS_has_4 rfl (lv_at hl 1 rfl) ?_
  refine lv_bipush (v := nI 64) hx hb d_KS_has_5 (by decide) ?_
  refine mh_divN hx hb (by omega) (by omega) (by omega) d_KS_has_7 ?_
  refine mh_laldN K0 hX h1 (by omega) (by decide) d_KS_has_8 ?_
  refine lv_iload_n hx hb d_KS_has_9 rfl (lv_at hl 1 rfl) ?_
  refine lv_bipush (v := nI 64) hx hb d_KS_has_10 (by decide) ?_
  refine mh_remN hx hb (by omega) (by omega) (by omega) d_KS_has_12 ?_
  refine lv_lushr hx hb d_KS_has_13 rfl ?_
  refine lv_lconst (v := 1) hx hb d_KS_has_14 rfl ?_
  refine lv_land hx hb d_KS_has_15 ?_
  refine lv_lconst (v := 0) hx hb d_KS_has_16 rfl ?_
  refine W.lcmp hx hb d_KS_has_17 ?_
  refine lv_if_eq (tgt := 25) hx hb d_KS_has_18 (by decide) (fun ct => ?_) (fun cf => ?_)
  · skip
    have hz : pb_b f key = false := (pb_has f key).mp ((mh_lc0 _ _).mp ct)
    refine lv_iconst (v := nI 0) hx hb d_KS_has_25 (by decide) ?_
    exact mh_iret K0 hr (by decide) hlocks hX hS (⟨by rw [← hf key hk, hz]; rfl, rfl⟩) (Nat.le_of_ble_eq_true rfl) (Nat.le_of_ble_eq_true rfl) d_KS_has_26
  · skip
    have hz : pb_b f key = true := by cases e9 : pb_b f key with | true => rfl | false => exact absurd ((mh_lc0 _ _).mpr ((pb_has f key).mpr e9)) cf
    refine lv_iconst (v := nI 1) hx hb d_KS_has_21 (by decide) ?_
    refine lv_goto (tgt := 26) hx hb d_KS_has_22 (by decide) ?_
    exact mh_iret K0 hr (by decide) hlocks hX hS (⟨by rw [← hf key hk, hz]; rfl, rfl⟩) (Nat.le_of_ble_eq_true rfl) (Nat.le_of_ble_eq_true rfl) d_KS_has_26
set_option maxHeartbeats 4000000 in
set_option maxRecDepth 100000 in
theorem c_KS_add {l : Launch} {b : Nat} {dC : Nat → ClassId} {dI : Nat → Nat → Nat} {dA : Nat → ClassId} {zs : Nat → Nat} {w : mh_w} {k i a : Nat} {rd : Nat → Bool} (h : rK dA w k i a rd) {key : Nat} (hk : key < 256) : mh_Met l b dC dI dA zs y_KS_add (mh_rm 0 0 0) [.ref a, .int (nI key)] w (mh_V none (fun w' => rK dA w' k i a (fun j => decide (j = key) || rd j) ∧ mh_F w w' k 2 i)) := by
  obtain ⟨a1, f, h0, h1, hf⟩ := h
  refine mh_ofW (cc := b_KS_add) (n := 2) (ret := none) (hs := []) (by decide) k321 ?_
  intro p e s m below meth c hx hb hr hml hown hts hlocks hnm hT hOK hadm
  have K0 : mh_K0 p s m ([.ref a, .int (nI key)]).toArray c "MeldHost$KeySet" b_KS_add dC dI dA := ⟨hx, hb, hown, hts, hOK.1, hOK.2.1⟩
  have hX := hOK.2.2.2.2
  have hb0 := hOK.2.2.2.1
  have hS : va_S (mh_A b) s.heap s.heap [] := va_S.rf
  have hl := lv_entry ([.ref a, .int (nI key)]) (n := 2) (Nat.le_of_ble_eq_true rfl)
  rw [lg_entry_eq]
  generalize (lg_sl ([.ref a, .int (nI key)]) ++ List.replicate (2 - (lg_sl ([.ref a, .int (nI key)])).length) Slot.unset).toArray = ls at hl ⊢
  have hl : lv_has ls 2 [(0, .ref a), (1, .int (nI key))] := hl
  refine lv_aload_n hx hb d_KS_add_0 rfl (lv_at hl 0 rfl) ?_
  refine mh_get K0 hX h0 f_KS_11 rfl d_KS_add_1 ?_
  refine lv_iload_n hx hb d_KS_add_4 rfl (lv_at hl 1 rfl) ?_
  refine lv_bipush (v := nI 64) hx hb d_KS_add_5 (by decide) ?_
  refine mh_divN hx hb (by omega) (by omega) (by omega) d_KS_add_7 ?_
  refine lv_dup2_11 hx hb d_KS_add_8 rfl rfl ?_
  refine mh_laldN K0 hX h1 (by omega) (by decide) d_KS_add_9 ?_
  refine lv_lconst (v := 1) hx hb d_KS_add_10 rfl ?_
  refine lv_iload_n hx hb d_KS_add_11 rfl (lv_at hl 1 rfl) ?_
  refine lv_bipush (v := nI 64) hx hb d_KS_add_12 (by decide) ?_
  refine mh_remN hx hb (by omega) (by omega) (by omega) d_KS_add_14 ?_
  refine lv_lshl hx hb d_KS_add_15 rfl ?_
  refine lv_lor hx hb d_KS_add_16 ?_
  refine mh_lastN K0 hX hS h1 (by omega) (by decide) d_KS_add_17 (fun H locs hX hS => ?_)
  exact mh_vret K0 hr hlocks hX hS (⟨rfl, ⟨a1, _, mh_kp h0 (by omega), mh_set_eq _ _ _ _, fun j hj => by rw [pb_add, hf j hj]⟩, mh_F.rf.set (by omega) (by omega)⟩) (Nat.le_of_ble_eq_true rfl) (Nat.le_of_ble_eq_true rfl) d_KS_add_18
set_option maxHeartbeats 4000000 in
set_option maxRecDepth 100000 in
theorem c_KS_drop {l : Launch} {b : Nat} {dC : Nat → ClassId} {dI : Nat → Nat → Nat} {dA : Nat → ClassId} {zs : Nat → Nat} {w : mh_w} {k i a : Nat} {rd : Nat → Bool} (h : rK dA w k i a rd) {key : Nat} (hk : key < 256) : mh_Met l b dC dI dA zs y_KS_drop (mh_rm 0 0 0) [.ref a, .int (nI key)] w (mh_V none (fun w' => rK dA w' k i a (fun j => !decide (j = key) && rd j) ∧ mh_F w w' k 2 i)) := by
  obtain ⟨a1, f, h0, h1, hf⟩ := h
  refine mh_ofW (cc := b_KS_drop) (n := 2) (ret := none) (hs := []) (by decide) k402 ?_
  intro p e s m below meth c hx hb hr hml hown hts hlocks hnm hT hOK hadm
  have K0 : mh_K0 p s m ([.ref a, .int (nI key)]).toArray c "MeldHost$KeySet" b_KS_drop dC dI dA := ⟨hx, hb, hown, hts, hOK.1, hOK.2.1⟩
  have hX := hOK.2.2.2.2
  have hb0 := hOK.2.2.2.1
  have hS : va_S (mh_A b) s.heap s.heap [] := va_S.rf
  have hl := lv_entry ([.ref a, .int (nI key)]) (n := 2) (Nat.le_of_ble_eq_true rfl)
  rw [lg_entry_eq]
  generalize (lg_sl ([.ref a, .int (nI key)]) ++ List.replicate (2 - (lg_sl ([.ref a, .int (nI key)])).length) Slot.unset).toArray = ls at hl ⊢
  have hl : lv_has ls 2 [(0, .ref a), (1, .int (nI key))] := hl
  refine lv_aload_n hx hb d_KS_drop_0 rfl (lv_at hl 0 rfl) ?_
  refine mh_get K0 hX h0 f_KS_11 rfl d_KS_drop_1 ?_
  refine lv_iload_n hx hb d_KS_drop_4 rfl (lv_at hl 1 rfl) ?_
  refine lv_bipush (v := nI 64) hx hb d_KS_drop_5 (by decide) ?_
  refine mh_divN hx hb (by omega) (by omega) (by omega) d_KS_drop_7 ?_
  refine lv_dup2_11 hx hb d_KS_drop_8 rfl rfl ?_
  refine mh_laldN K0 hX h1 (by omega) (by decide) d_KS_drop_9 ?_
  refine lv_lconst (v := 1) hx hb d_KS_drop_10 rfl ?_
  refine lv_iload_n hx hb d_KS_drop_11 rfl (lv_at hl 1 rfl) ?_
  refine lv_bipush (v := nI 64) hx hb d_KS_drop_12 (by decide) ?_
  refine mh_remN hx hb (by omega) (by omega) (by omega) d_KS_drop_14 ?_
  refine lv_lshl hx hb d_KS_drop_15 rfl ?_
  refine lv_ldc2 hx hb hown (hts _ k403) d_KS_drop_16 ?_
  refine lv_lxor hx hb d_KS_drop_19 ?_
  refine lv_land hx hb d_KS_drop_20 ?_
  refine mh_lastN K0 hX hS h1 (by omega) (by decide) d_KS_drop_21 (fun H locs hX hS => ?_)
  exact mh_vret K0 hr hlocks hX hS (⟨rfl, ⟨a1, _, mh_kp h0 (by omega), mh_set_eq _ _ _ _, fun j hj => by rw [pb_del, hf j hj]⟩, mh_F.rf.set (by omega) (by omega)⟩) (Nat.le_of_ble_eq_true rfl) (Nat.le_of_ble_eq_true rfl) d_KS_drop_22
