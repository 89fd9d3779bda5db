theorem d_MH_init_0 : decode b_MH_init 0 = .ok (.aload_n 0, 1) := by decide +kernel
theorem d_MH_init_1 : decode b_MH_init 1 = .ok (.invokespecial 1, 3) := by decide +kernel
theorem d_MH_init_4 : decode b_MH_init 4 = .ok (.aload_n 0, 1) := by decide +kernel
theorem d_MH_init_5 : decode b_MH_init 5 = .ok (.new 7, 3) := by decide +kernel
theorem d_MH_init_8 : decode b_MH_init 8 = .ok (.dup, 1) := by decide +kernel
theorem d_MH_init_9 : decode b_MH_init 9 = .ok (.invokespecial 9, 3) := by decide +kernel
theorem d_MH_init_12 : decode b_MH_init 12 = .ok (.putfield 10, 3) := by decide +kernel
theorem d_MH_init_15 : decode b_MH_init 15 = .ok (.aload_n 0, 1) := by decide +kernel
theorem d_MH_init_16 : decode b_MH_init 16 = .ok (.iconst 4, 1) := by decide +kernel
theorem d_MH_init_17 : decode b_MH_init 17 = .ok (.anewarray 16, 3) := by decide +kernel
theorem d_MH_init_20 : decode b_MH_init 20 = .ok (.putfield 18, 3) := by decide +kernel
theorem d_MH_init_23 : decode b_MH_init 23 = .ok (.iconst 0, 1) := by decide +kernel
theorem d_MH_init_24 : decode b_MH_init 24 = .ok (.istore_n 1, 1) := by decide +kernel
theorem d_MH_init_25 : decode b_MH_init 25 = .ok (.iload_n 1, 1) := by decide +kernel
theorem d_MH_init_26 : decode b_MH_init 26 = .ok (.iconst 4, 1) := by decide +kernel
theorem d_MH_init_27 : decode b_MH_init 27 = .ok (.if_icmp .ge 22, 3) := by decide +kernel
theorem d_MH_init_49 : decode b_MH_init 49 = .ok (.aload_n 0, 1) := by decide +kernel
theorem d_MH_init_50 : decode b_MH_init 50 = .ok (.bipush 16, 2) := by decide +kernel
theorem d_MH_init_52 : decode b_MH_init 52 = .ok (.anewarray 23, 3) := by decide +kernel
theorem d_MH_init_55 : decode b_MH_init 55 = .ok (.putfield 25, 3) := by decide +kernel
theorem d_MH_init_58 : decode b_MH_init 58 = .ok (.aload_n 0, 1) := by decide +kernel
theorem d_MH_init_59 : decode b_MH_init 59 = .ok (.bipush 16, 2) := by decide +kernel
theorem d_MH_init_61 : decode b_MH_init 61 = .ok (.anewarray 29, 3) := by decide +kernel
theorem d_MH_init_64 : decode b_MH_init 64 = .ok (.putfield 31, 3) := by decide +kernel
theorem d_MH_init_67 : decode b_MH_init 67 = .ok (.iconst 0, 1) := by decide +kernel
theorem d_MH_init_68 : decode b_MH_init 68 = .ok (.istore_n 1, 1) := by decide +kernel
theorem d_MH_init_69 : decode b_MH_init 69 = .ok (.iload_n 1, 1) := by decide +kernel
theorem d_MH_init_70 : decode b_MH_init 70 = .ok (.bipush 16, 2) := by decide +kernel
theorem d_MH_init_72 : decode b_MH_init 72 = .ok (.if_icmp .ge 22, 3) := by decide +kernel
theorem d_MH_init_94 : decode b_MH_init 94 = .ok (.aload_n 0, 1) := by decide +kernel
theorem d_MH_init_95 : decode b_MH_init 95 = .ok (.iconst 0, 1) := by decide +kernel
theorem d_MH_init_96 : decode b_MH_init 96 = .ok (.putfield 36, 3) := by decide +kernel
theorem d_MH_init_99 : decode b_MH_init 99 = .ok (.return_, 1) := by decide +kernel
theorem d_MH_init_75 : decode b_MH_init 75 = .ok (.aload_n 0, 1) := by decide +kernel
theorem d_MH_init_76 : decode b_MH_init 76 = .ok (.getfield 31, 3) := by decide +kernel
theorem d_MH_init_79 : decode b_MH_init 79 = .ok (.iload_n 1, 1) := by decide +kernel
theorem d_MH_init_80 : decode b_MH_init 80 = .ok (.new 29, 3) := by decide +kernel
theorem d_MH_init_83 : decode b_MH_init 83 = .ok (.dup, 1) := by decide +kernel
theorem d_MH_init_84 : decode b_MH_init 84 = .ok (.invokespecial 35, 3) := by decide +kernel
theorem d_MH_init_87 : decode b_MH_init 87 = .ok (.aastore, 1) := by decide +kernel
theorem d_MH_init_88 : decode b_MH_init 88 = .ok (.iinc 1 1, 3) := by decide +kernel
theorem d_MH_init_91 : decode b_MH_init 91 = .ok (.goto (-22), 3) := by decide +kernel
theorem d_MH_init_30 : decode b_MH_init 30 = .ok (.aload_n 0, 1) := by decide +kernel
theorem d_MH_init_31 : decode b_MH_init 31 = .ok (.getfield 18, 3) := by decide +kernel
theorem d_MH_init_34 : decode b_MH_init 34 = .ok (.iload_n 1, 1) := by decide +kernel
theorem d_MH_init_35 : decode b_MH_init 35 = .ok (.new 16, 3) := by decide +kernel
theorem d_MH_init_38 : decode b_MH_init 38 = .ok (.dup, 1) := by decide +kernel
theorem d_MH_init_39 : decode b_MH_init 39 = .ok (.invokespecial 22, 3) := by decide +kernel
theorem d_MH_init_42 : decode b_MH_init 42 = .ok (.aastore, 1) := by decide +kernel
theorem d_MH_init_43 : decode b_MH_init 43 = .ok (.iinc 1 1, 3) := by decide +kernel
theorem d_MH_init_46 : decode b_MH_init 46 = .ok (.goto (-21), 3) := by decide +kernel
set_option maxHeartbeats 4000000 in
set_option maxRecDepth 100000 in
theorem c_MH_init {l : Launch} {b : Nat} {dC : Nat → ClassId} {dI : Nat → Nat → Nat} {dA : Nat → ClassId} {zs : Nat → Nat} {w : mh_w} {x0 : Nat} (h : w 0 0 = some (x0, .inr (4, [.null, .null, .null, .null, .int (nI 0)]))) : mh_Met l b dC dI dA zs y_MH_init (mh_rm 4 100 7000) [.ref x0] w (mh_V none (fun w' => rC dA zs w' x0 st_G0 ∧ mh_C w w')) := by
  refine mh_ofW (cc := b_MH_init) (n := 2) (ret := none) (hs := []) (by decide) k29 ?_
  intro p e s m below meth c hx hb hr hml hown hts hlocks hnm hT hOK hadm
  have K0 : mh_K0 p s m ([.ref x0]).toArray c "MeldHost" b_MH_init dC dI dA := ⟨hx, hb, hown, hts, hOK.1, hOK.2.1⟩
  have hX := hOK.2.2.2.2
  have hb0 := hOK.2.2.2.1
  have hS : va_S (mh_A b) s.heap s.heap [] := va_S.rf
  have hl := lv_entry ([.ref x0]) (n := 2) (Nat.le_of_ble_eq_true rfl)
  rw [lg_entry_eq]
  generalize (lg_sl ([.ref x0]) ++ List.replicate (2 - (lg_sl ([.ref x0])).length) Slot.unset).toArray = ls at hl ⊢
  have hl : lv_has ls 2 [(0, .ref x0)] := hl
  refine lv_aload_n hx hb d_MH_init_0 rfl (lv_at hl 0 rfl) ?_
  refine W.objInit hx hb hown (hts _ k30) (hts _ k31) (hts _ k32) rfl (by rw [hml]; exact hl.1) rfl d_MH_init_1 (Nat.le_of_ble_eq_true rfl) (Nat.le_of_ble_eq_true rfl) ?_
  refine W.eq (g2 := F0 m 4 ls []) rfl ?_
  refine lv_aload_n hx hb d_MH_init_4 rfl (lv_at hl 0 rfl) ?_
  refine mh_new 1 0 K0 hX hS hb0 (ci := 5) rfl i_AL ty_AL ty_AL_ok k33 k34 k4 (fs := [.int (nI 0), .null, .int (nI 0)]) (by decide) (Nat.le_of_ble_eq_true rfl) (Nat.le_of_ble_eq_true rfl) d_MH_init_5 (fun q1 H hX hS => ?_)
  have fs68 := mh_self hX
  refine lv_dup hx hb d_MH_init_8 rfl ?_
  refine mh_callV (mh_sI (rest := [.ref q1, .ref x0]) (av := []) K0 e_AL_init l_MH_9 k36 rfl rfl rfl d_MH_init_9) (c_AL_init (mh_set_eq _ _ _ _)) K0 hOK hml hl.1 e_AL_init hX hS d_MH_init_9 (Nat.le_of_ble_eq_true rfl) (Nat.le_of_ble_eq_true rfl) (Nat.le_of_ble_eq_true rfl) (Nat.le_of_ble_eq_true rfl) (Nat.le_of_ble_eq_true rfl) (fun w1 H locs ⟨hL, hF⟩ hX hS => ?_)
  refine W.eq (g2 := F0 m 12 ls [.ref q1, .ref x0]) rfl ?_
  refine mh_putF K0 hX hS ((hF 0 0 (by omega)).trans (mh_kp h (by omega))) f_MH_10 p_4_0 hnm (fun C T N h => by cases h; rfl) rfl rfl (Nat.le_of_ble_eq_true rfl) d_MH_init_12 (fun C T N h => by cases h; exact k118) (fun H locs hX hS => ?_)
  have hX : mh_P (dC, dI) b (mh_set _ 0 0 (some (x0, .inr (4, [.ref q1, .null, .null, .null, .int (nI 0)])))) H := hX
  have fs69 := mh_self hX
  refine lv_aload_n hx hb d_MH_init_15 rfl (lv_at hl 0 rfl) ?_
  refine lv_iconst (v := nI 4) hx hb d_MH_init_16 (by decide) ?_
  refine mh_newq 3 0 4 K0 hX hS hb0 rfl k59 (hOK.2.2.1.1.2.1) (N' := 4) (by decide) (by decide) (by decide) (Nat.le_of_ble_eq_true rfl) (Nat.le_of_ble_eq_true rfl) d_MH_init_17 (fun q3 H hX hS => ?_)
  have fs70 := mh_self hX
  refine mh_putF K0 hX hS (mh_kp fs69 (by omega)) f_MH_18 p_4_1 hnm (fun C T N h => by cases h; rfl) rfl rfl (Nat.le_of_ble_eq_true rfl) d_MH_init_20 (fun C T N h => by cases h; exact k119) (fun H locs hX hS => ?_)
  have hX : mh_P (dC, dI) b (mh_set _ 0 0 (some (x0, .inr (4, [.ref q1, .ref q3, .null, .null, .int (nI 0)])))) H := hX
  have fs71 := mh_self hX
  refine lv_iconst (v := nI 0) hx hb d_MH_init_23 (by decide) ?_
  refine lv_istore_n (lv' := [(1, .int (nI 0)), (0, .ref x0)]) hx hb d_MH_init_24 rfl hl (by decide) rfl (fun ls hl => ?_)
  have LP : ∀ (n : Nat) (j : Nat) (w2 : mh_w) (sv1 : Nat → Option Nat) (H : Heap) (locs : List Loc) (ls : Array Slot), mh_P (dC, dI) b w2 H → va_S (mh_A b) s.heap H locs → lv_has ls 2 [(1, .int (nI j)), (0, .ref x0)] → (j + n = 4) → (w2 0 0 = some (x0, .inr (4, [.ref q1, .ref q3, .null, .null, .int (nI 0)]))) → (rL dA zs w2 q1 0 (fun _ => none)) → (w2 3 0 = some (q3, .inl (dA 4, 4, .inr (.inr (.inr (.inr sv1)))))) → (∀ z, z < j → ∃ a, sv1 z = some a ∧ rS dA w2 z a (fun _ => none) (fun _ => -1) 0 0) → (mh_C w w2) → W p l e (mh_rm 4 100 7000) s m ([.ref x0]).toArray below meth c H locs (2 + 6 * j) (7 + 523 * j) (mh_MQ below b dC dI (mh_V none (fun w' => rC dA zs w' x0 st_G0 ∧ mh_C w w')) ([.ref x0]).toArray s 100 7000) (F0 m 25 ls []) := by
    intro n
    induction n with
    | zero =>
      intro j w2 sv1 H locs ls hX hS hl hn9 hxo hL2 h3 hsv hFr
      have e4 : j = 4 := by omega
      subst e4
      refine lv_iload_n hx hb d_MH_init_25 rfl (lv_at hl 0 rfl) ?_
      refine lv_iconst (v := nI 4) hx hb d_MH_init_26 (by decide) ?_
      refine mh_icmp_ge (tgt := 49) hx hb (by omega) (by omega) d_MH_init_27 (by decide) (fun _ => ?_) (fun z => absurd z (by omega))
      refine lv_aload_n hx hb d_MH_init_49 rfl (lv_at hl 1 rfl) ?_
      refine lv_bipush (v := nI 16) hx hb d_MH_init_50 (by decide) ?_
      refine mh_newq 10 0 5 K0 hX hS hb0 rfl k113 (hOK.2.2.1.1.2.2.1) (N' := 16) (by decide) (by decide) (by decide) (Nat.le_of_ble_eq_true rfl) (Nat.le_of_ble_eq_true rfl) d_MH_init_52 (fun q10 H hX hS => ?_)
      have fs72 := mh_self hX
      refine mh_putF K0 hX hS (mh_kp hxo (by omega)) f_MH_25 p_4_2 hnm (fun C T N h => by cases h; rfl) rfl rfl (Nat.le_of_ble_eq_true rfl) d_MH_init_55 (fun C T N h => by cases h; exact k120) (fun H locs hX hS => ?_)
      have hX : mh_P (dC, dI) b (mh_set _ 0 0 (some (x0, .inr (4, [.ref q1, .ref q3, .ref q10, .null, .int (nI 0)])))) H := hX
      have fs73 := mh_self hX
      refine lv_aload_n hx hb d_MH_init_58 rfl (lv_at hl 1 rfl) ?_
      refine lv_bipush (v := nI 16) hx hb d_MH_init_59 (by decide) ?_
      refine mh_newq 11 0 6 K0 hX hS hb0 rfl k115 (hOK.2.2.1.1.2.2.2.1) (N' := 16) (by decide) (by decide) (by decide) (Nat.le_of_ble_eq_true rfl) (Nat.le_of_ble_eq_true rfl) d_MH_init_61 (fun q11 H hX hS => ?_)
      have fs74 := mh_self hX
      refine mh_putF K0 hX hS (mh_kp fs73 (by omega)) f_MH_31 p_4_3 hnm (fun C T N h => by cases h; rfl) rfl rfl (Nat.le_of_ble_eq_true rfl) d_MH_init_64 (fun C T N h => by cases h; exact k121) (fun H locs hX hS => ?_)
      have hX : mh_P (dC, dI) b (mh_set _ 0 0 (some (x0, .inr (4, [.ref q1, .ref q3, .ref q10, .ref q11, .int (nI 0)])))) H := hX
      have fs75 := mh_self hX
      refine lv_iconst (v := nI 0) hx hb d_MH_init_67 (by decide) ?_
      refine lv_istore_n (lv' := [(1, .int (nI 0)), (0, .ref x0)]) hx hb d_MH_init_68 rfl hl (by decide) rfl (fun ls hl => ?_)
      have LP2 : ∀ (n : Nat) (j : Nat) (w4 : mh_w) (vw1 : Nat → Option Nat) (H : Heap) (locs : List Loc) (ls : Array Slot), mh_P (dC, dI) b w4 H → va_S (mh_A b) s.heap H locs → lv_has ls 2 [(1, .int (nI j)), (0, .ref x0)] → (j + n = 16) → (w4 0 0 = some (x0, .inr (4, [.ref q1, .ref q3, .ref q10, .ref q11, .int (nI 0)]))) → (rL dA zs w4 q1 0 (fun _ => none)) → (w4 3 0 = some (q3, .inl (dA 4, 4, .inr (.inr (.inr (.inr sv1)))))) → (w4 10 0 = some (q10, .inl (dA 5, 16, .inr (.inr (.inr (.inr (fun _ => none))))))) → (w4 11 0 = some (q11, .inl (dA 6, 16, .inr (.inr (.inr (.inr vw1)))))) → (∀ z, z < 4 → ∃ a, sv1 z = some a ∧ rS dA w4 z a (fun _ => none) (fun _ => -1) 0 0) → (∀ z, z < j → ∃ a, vw1 z = some a ∧ rN dA w4 12 z a (fun _ => none)) → (mh_C w w4) → W p l e (mh_rm 4 100 7000) s m ([.ref x0]).toArray below meth c H locs (28 + 4 * j) (2131 + 263 * j) (mh_MQ below b dC dI (mh_V none (fun w' => rC dA zs w' x0 st_G0 ∧ mh_C w w')) ([.ref x0]).toArray s 100 7000) (F0 m 69 ls []) := by
        intro n
        induction n with
        | zero =>
          intro j w4 vw1 H locs ls hX hS hl hn9 hxo hL4 h3 h10 h11 hsv4 hvw hFr4
          have e16 : j = 16 := by omega
          subst e16
          refine lv_iload_n hx hb d_MH_init_69 rfl (lv_at hl 0 rfl) ?_
          refine lv_bipush (v := nI 16) hx hb d_MH_init_70 (by decide) ?_
          refine mh_icmp_ge (tgt := 94) hx hb (by omega) (by omega) d_MH_init_72 (by decide) (fun _ => ?_) (fun z => absurd z (by omega))
          refine lv_aload_n hx hb d_MH_init_94 rfl (lv_at hl 1 rfl) ?_
          refine lv_iconst (v := nI 0) hx hb d_MH_init_95 (by decide) ?_
          refine mh_put K0 hX hS hxo f_MH_36 p_4_4 rfl rfl (Nat.le_of_ble_eq_true rfl) d_MH_init_96 (fun H locs hX hS => ?_)
          have hX : mh_P (dC, dI) b (mh_set _ 0 0 (some (x0, .inr (4, [.ref q1, .ref q3, .ref q10, .ref q11, .int (nI 0)])))) H := hX
          have fs76 := mh_self hX
          refine mh_vret K0 hr hlocks hX hS (⟨rfl, ⟨q1, q3, q10, q11, sv1, (fun _ => none), vw1, (fun _ => none), fs76, hL4.to (by rw [mh_set_ne _ _ _ _ (by omega)]) (fun i => by rw [mh_set_ne _ _ _ _ (by omega)]) (fun _ _ => rfl), (mh_kp h3 (by omega)), (mh_kp h10 (by omega)), (mh_kp h11 (by omega)), fun z hz => ?_, fun z hz => ?_, fun z hz => rfl, fun z hz => absurd hz (Nat.not_lt_zero z)⟩, fun k i h1 h2 => (show _ = w4 k i from by rw [mh_set_ne _ _ _ _ (by omega)]).trans (hFr4 k i h1 h2)⟩) (Nat.le_of_ble_eq_true rfl) (Nat.le_of_ble_eq_true rfl) d_MH_init_99
          · obtain ⟨a, e1, e2⟩ := hsv4 z hz; exact ⟨a, e1, e2.to (fun k h1 h2 => by rw [mh_set_ne _ _ _ _ (by omega)]) (fun _ _ => rfl) (fun _ _ => rfl)⟩
          · obtain ⟨a, e1, e2⟩ := hvw z hz; exact ⟨a, e1, _, e2.to (fun q hq => by rw [mh_set_ne _ _ _ _ (by omega)]) (fun _ _ => rfl), fun x hx => by cases hx⟩
        | succ n ih =>
          intro j w4 vw1 H locs ls hX hS hl hn9 hxo hL4 h3 h10 h11 hsv4 hvw hFr4
          refine lv_iload_n hx hb d_MH_init_69 rfl (lv_at hl 0 rfl) ?_
          refine lv_bipush (v := nI 16) hx hb d_MH_init_70 (by decide) ?_
          refine mh_icmp_ge (tgt := 94) hx hb (by omega) (by omega) d_MH_init_72 (by decide) (fun z => absurd z (by omega)) (fun _ => ?_)
          refine lv_aload_n hx hb d_MH_init_75 rfl (lv_at hl 1 rfl) ?_
          refine mh_get K0 hX hxo f_MH_31 rfl d_MH_init_76 ?_
          refine lv_iload_n hx hb d_MH_init_79 rfl (lv_at hl 0 rfl) ?_
          refine mh_new 12 j K0 hX hS hb0 (ci := 1) rfl i_NU ty_NU ty_NU_ok k115 k67 k6 (fs := [.null, .null]) (by decide) (by dsimp only [mh_rm]; omega) (by dsimp only [mh_rm]; omega) d_MH_init_80 (fun q H hX hS => ?_)
          have fs77 := mh_self hX
          refine lv_dup hx hb d_MH_init_83 rfl ?_
          refine mh_callV (mh_sI (rest := [.ref q, .int (nI j), .ref q11]) (av := []) K0 e_NU_init l_MH_35 k69 rfl rfl rfl d_MH_init_84) (c_NU_init (mh_set_eq _ _ _ _)) K0 hOK hml hl.1 e_NU_init hX hS d_MH_init_84 (Nat.le_of_ble_eq_true rfl) (Nat.le_of_ble_eq_true rfl) (Nat.le_of_ble_eq_true rfl) (by dsimp only [mh_rm]; omega) (by dsimp only [mh_rm]; omega) (fun w5 H locs ⟨hN2, hF5⟩ hX hS => ?_)
          refine W.eq (g2 := F0 m 87 ls [.ref q, .int (nI j), .ref q11]) rfl ?_
          obtain ⟨b1, b3, b0⟩ := hN2.fst
          refine mh_aastX 6 rfl rfl K0 hX hS ((hF5 11 0 (by omega)).trans (mh_kp h11 (by omega))) b0 (by omega) (by omega) d_MH_init_87 (fun H locs hX hS => ?_)
          have fs78 := mh_self hX
          refine lv_iinc (v := nI (j + 1)) (k := 0) (lv' := [(1, .int (nI (j + 1))), (0, .ref x0)]) hx hb d_MH_init_88 hl rfl (mh_inc j) (by decide) rfl (fun ls hl => ?_)
          refine lv_goto (tgt := 69) hx hb d_MH_init_91 (by decide) ?_
          refine mh_cs (c2 := 28 + 4 * (j + 1)) (s2 := 2131 + 263 * (j + 1)) (by first | rfl | (dsimp only [mh_rm]; omega)) (by first | rfl | (dsimp only [mh_rm]; omega)) ?_
          refine ih (j + 1) _ _ _ _ _ hX hS hl (by omega) (mh_kp ((hF5 0 0 (by omega)).trans (mh_kp hxo (by omega))) (by omega)) (hL4.to (by rw [mh_set_ne _ _ _ _ (by omega), hF5 _ _ (by omega), mh_set_ne _ _ _ _ (by omega)]) (fun i => by rw [mh_set_ne _ _ _ _ (by omega), hF5 _ _ (by omega), mh_set_ne _ _ _ _ (by omega)]) (fun _ _ => rfl)) ((show _ = w4 3 0 from by rw [mh_set_ne _ _ _ _ (by omega), hF5 _ _ (by omega), mh_set_ne _ _ _ _ (by omega)]).trans h3) ((show _ = w4 10 0 from by rw [mh_set_ne _ _ _ _ (by omega), hF5 _ _ (by omega), mh_set_ne _ _ _ _ (by omega)]).trans h10) fs78 (fun z hz => ?_) (fun z hz => ?_) (fun k i h1 h2 => (show _ = w4 k i from by rw [mh_set_ne _ _ _ _ (by omega), hF5 _ _ (by omega), mh_set_ne _ _ _ _ (by omega)]).trans (hFr4 k i h1 h2))
          · obtain ⟨a, e1, e2⟩ := hsv4 z hz; exact ⟨a, e1, e2.to (fun k h1 h2 => by rw [mh_set_ne _ _ _ _ (by omega), hF5 _ _ (by omega), mh_set_ne _ _ _ _ (by omega)]) (fun _ _ => rfl) (fun _ _ => rfl)⟩
          · by_cases e9 : z = j
            · subst e9; rw [va_up_self]; exact ⟨q, rfl, hN2.to (fun k h1 => mh_set_ne _ _ _ _ (by omega)) (fun _ _ => rfl)⟩
            · rw [va_up_ne _ _ e9]; obtain ⟨a, e1, e2⟩ := hvw z (by omega); exact ⟨a, e1, e2.to (fun k h1 => by rw [mh_set_ne _ _ _ _ (by omega), hF5 _ _ (by omega), mh_set_ne _ _ _ _ (by omega)]) (fun _ _ => rfl)⟩
      refine mh_cs (c2 := 28 + 4 * 0) (s2 := 2131 + 263 * 0) (by first | rfl | (dsimp only [mh_rm]; omega)) (by first | rfl | (dsimp only [mh_rm]; omega)) ?_
      refine LP2 16 0 _ _ _ _ _ hX hS hl rfl fs75 (hL2.to (by rw [mh_set_ne _ _ _ _ (by omega), mh_set_ne _ _ _ _ (by omega), mh_set_ne _ _ _ _ (by omega), mh_set_ne _ _ _ _ (by omega)]) (fun i => by rw [mh_set_ne _ _ _ _ (by omega), mh_set_ne _ _ _ _ (by omega), mh_set_ne _ _ _ _ (by omega), mh_set_ne _ _ _ _ (by omega)]) (fun _ _ => rfl)) (mh_kp (mh_kp (mh_kp (mh_kp h3 (by omega)) (by omega)) (by omega)) (by omega)) (mh_kp (mh_kp (mh_kp fs72 (by omega)) (by omega)) (by omega)) (mh_kp fs74 (by omega)) (fun z hz => ?_) (fun z hz => absurd hz (Nat.not_lt_zero z)) (fun k i h1 h2 => (show _ = w2 k i from by rw [mh_set_ne _ _ _ _ (by omega), mh_set_ne _ _ _ _ (by omega), mh_set_ne _ _ _ _ (by omega), mh_set_ne _ _ _ _ (by omega)]).trans (hFr k i h1 h2))
      obtain ⟨a, e1, e2⟩ := hsv z hz; exact ⟨a, e1, e2.to (fun k h1 h2 => by rw [mh_set_ne _ _ _ _ (by omega), mh_set_ne _ _ _ _ (by omega), mh_set_ne _ _ _ _ (by omega), mh_set_ne _ _ _ _ (by omega)]) (fun _ _ => rfl) (fun _ _ => rfl)⟩
    | succ n ih =>
      intro j w2 sv1 H locs ls hX hS hl hn9 hxo hL2 h3 hsv hFr
      refine lv_iload_n hx hb d_MH_init_25 rfl (lv_at hl 0 rfl) ?_
      refine lv_iconst (v := nI 4) hx hb d_MH_init_26 (by decide) ?_
      refine mh_icmp_ge (tgt := 49) hx hb (by omega) (by omega) d_MH_init_27 (by decide) (fun z => absurd z (by omega)) (fun _ => ?_)
      refine lv_aload_n hx hb d_MH_init_30 rfl (lv_at hl 1 rfl) ?_
      refine mh_get K0 hX hxo f_MH_18 rfl d_MH_init_31 ?_
      refine lv_iload_n hx hb d_MH_init_34 rfl (lv_at hl 0 rfl) ?_
      refine mh_new 4 j K0 hX hS hb0 (ci := 3) rfl i_SV ty_SV ty_SV_ok k59 k61 k5 (fs := [.null, .null, .int (nI 0), .int (nI 0)]) (by decide) (by dsimp only [mh_rm]; omega) (by dsimp only [mh_rm]; omega) d_MH_init_35 (fun q H hX hS => ?_)
      have fs79 := mh_self hX
      refine lv_dup hx hb d_MH_init_38 rfl ?_
      refine mh_callV (mh_sI (rest := [.ref q, .int (nI j), .ref q3]) (av := []) K0 e_SV_init l_MH_22 k63 rfl rfl rfl d_MH_init_39) (c_SV_init (mh_set_eq _ _ _ _)) K0 hOK hml hl.1 e_SV_init hX hS d_MH_init_39 (Nat.le_of_ble_eq_true rfl) (Nat.le_of_ble_eq_true rfl) (Nat.le_of_ble_eq_true rfl) (by dsimp only [mh_rm]; omega) (by dsimp only [mh_rm]; omega) (fun w3 H locs ⟨hS2, hF2⟩ hX hS => ?_)
      refine W.eq (g2 := F0 m 42 ls [.ref q, .int (nI j), .ref q3]) rfl ?_
      have hS3 := hS2
      obtain ⟨b5, b9, bf, b0, -⟩ := hS3
      refine mh_aastX 4 rfl rfl K0 hX hS ((hF2 3 0 (by omega)).trans (mh_kp h3 (by omega))) b0 (by omega) (by omega) d_MH_init_42 (fun H locs hX hS => ?_)
      have fs80 := mh_self hX
      refine lv_iinc (v := nI (j + 1)) (k := 0) (lv' := [(1, .int (nI (j + 1))), (0, .ref x0)]) hx hb d_MH_init_43 hl rfl (mh_inc j) (by decide) rfl (fun ls hl => ?_)
      refine lv_goto (tgt := 25) hx hb d_MH_init_46 (by decide) ?_
      refine mh_cs (c2 := 2 + 6 * (j + 1)) (s2 := 7 + 523 * (j + 1)) (by first | rfl | (dsimp only [mh_rm]; omega)) (by first | rfl | (dsimp only [mh_rm]; omega)) ?_
      refine ih (j + 1) _ _ _ _ _ hX hS hl (by omega) (mh_kp ((hF2 0 0 (by omega)).trans (mh_kp hxo (by omega))) (by omega)) (hL2.to (by rw [mh_set_ne _ _ _ _ (by omega), hF2 _ _ (by omega), mh_set_ne _ _ _ _ (by omega)]) (fun i => by rw [mh_set_ne _ _ _ _ (by omega), hF2 _ _ (by omega), mh_set_ne _ _ _ _ (by omega)]) (fun _ _ => rfl)) fs80 (fun z hz => ?_) (fun k i h1 h2 => (show _ = w2 k i from by rw [mh_set_ne _ _ _ _ (by omega), hF2 _ _ (by omega), mh_set_ne _ _ _ _ (by omega)]).trans (hFr k i h1 h2))
      by_cases e9 : z = j
      · subst e9; rw [va_up_self]; exact ⟨q, rfl, hS2.to (fun k h1 h2 => mh_set_ne _ _ _ _ (by omega)) (fun _ _ => rfl) (fun _ _ => rfl)⟩
      · rw [va_up_ne _ _ e9]; obtain ⟨a, e1, e2⟩ := hsv z (by omega); exact ⟨a, e1, e2.to (fun k h1 h2 => by rw [mh_set_ne _ _ _ _ (by omega), hF2 _ _ (by omega), mh_set_ne _ _ _ _ (by omega)]) (fun _ _ => rfl) (fun _ _ => rfl)⟩
  refine mh_cs (c2 := 2 + 6 * 0) (s2 := 7 + 523 * 0) (by first | rfl | (dsimp only [mh_rm]; omega)) (by first | rfl | (dsimp only [mh_rm]; omega)) ?_
  exact LP 4 0 _ _ _ _ _ hX hS hl rfl fs71 (hL.to (by rw [mh_set_ne _ _ _ _ (by omega), mh_set_ne _ _ _ _ (by omega), mh_set_ne _ _ _ _ (by omega)]) (fun i => by rw [mh_set_ne _ _ _ _ (by omega), mh_set_ne _ _ _ _ (by omega), mh_set_ne _ _ _ _ (by omega)]) (fun _ _ => rfl)) (mh_kp fs70 (by omega)) (fun z hz => absurd hz (Nat.not_lt_zero z)) (fun k i h1 h2 => by rw [mh_set_ne _ _ _ _ (by omega), mh_set_ne _ _ _ _ (by omega), mh_set_ne _ _ _ _ (by omega), hF _ _ (by omega), mh_set_ne _ _ _ _ (by omega)])
