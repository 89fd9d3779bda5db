/-! THE CLAIM OUT OF ONE WALK OF THE LAW'S BODY. Your part is whole_start (and what it stands on); all else here is the same for every law, but numbers. -/
def R_law : String := "MeldHostLaw"
def lw_P (b : Addr) (xs : List Int32) (args : Array Value) (s : State) : Prop := args = #[.ref b] ∧ s.IntsAt b xs ∧ xs.length ≤ 2560 ∧ (Jvm.Cond.and given_1 narrow_1).before args s = true
def lw_Q (_ : Array Value) (s : State) (o : Outcome) (t : State) : Prop := o = .returned (some (.int 1)) ∧ Framed s o t [] 601024 7293034
def lw_Z (below : List Frame) (a : Array Value) (s : State) : State → Prop := fun t => ∃ o, t.status = .running ∧ Ended t below o ∧ lw_Q a s o t
/-- the law's own end, with 1 on the stack, nothing written that was there before, its room as the claim has it -/
theorem lw_ret {p : Program} {l : Launch} {e : Env} {s : State} {m : MethodId} {below : List Frame} {meth : Method} {c : Code} {b : Nat} (hx : p.tables.exec = Jvm.exec) (hb : c.code = code) (hr : meth.sig.returnType = ret) (hlocks : meth.locks = false) {pc : Nat} {H : Heap} {ls : Array Slot} (hdg : decode code pc = .ok (.ireturn, 1)) : W p l e room_1 s m #[Value.ref b] below meth c H [] 601024 7293034 (lw_Z below #[Value.ref b] s) (F0 m pc ls [.int 1]) := by
  intro T hT X
  obtain ⟨fs, hret, hrun, hended, hW, hframe⟩ := X.leave (v := some (.int 1)) (hlocks := hlocks) (fun h => by rw [hr] at h; cases h)
  have hmeth' : T.vm.method? m = some meth := X.method'
  refine ⟨T.setFrames fs, ?_, .returned (some (.int 1)), hrun, hended, rfl, ⟨_, rfl⟩, hW, hframe⟩
  jvm_step X.here [X.here.top, hx, hb, hdg, hmeth', hr, ret, narrow_b1]
  (try refine ⟨rfl, ?_⟩); (try refine ⟨rfl, ?_⟩)
  first | (intro acts; rw [hret _ acts rfl rfl rfl]) | rw [hret _ _ rfl rfl rfl]
  exact Steps.refl _
/-- what holds at the law's entry: the machine, the code, the tables' words (any of lw_tbl by 'hts w (by decide +kernel)'), the script of L ints xs at the cell b, what the Statement gives of the start (any of its parts by flat_of_before) -/
def lw_At (p : Program) (s : State) (m : MethodId) (meth : Method) (c : Code) (b L : Nat) (xs : Nat → Int32) : Prop :=
  p.tables.exec = Jvm.exec ∧ c.code = code ∧ meth.sig.returnType = ret ∧ c.maxLocals = 8 ∧ s.vm.findClass R_law = some m.cls ∧ (∀ w ∈ lw_tbl, w.before #[Value.ref b] s = true) ∧ va_X b L xs s s.heap ∧ b < s.heap.size ∧ meth.locks = false ∧ (Jvm.Cond.and given_1 narrow_1).before #[Value.ref b] s = true
theorem d_law_23 : decode code 23 = .ok (.iload 4, 2) := by decide +kernel
theorem d_law_25 : decode code 25 = .ok (.aload_n 0, 1) := by decide +kernel
theorem d_law_26 : decode code 26 = .ok (.arraylength, 1) := by decide +kernel
theorem d_law_27 : decode code 27 = .ok (.iconst 5, 1) := by decide +kernel
theorem d_law_28 : decode code 28 = .ok (.isub, 1) := by decide +kernel
theorem d_law_29 : decode code 29 = .ok (.if_icmp .gt 1053, 3) := by decide +kernel
theorem d_law_1082 : decode code 1082 = .ok (.iconst 1, 1) := by decide +kernel
theorem d_law_1083 : decode code 1083 = .ok (.ireturn, 1) := by decide +kernel
theorem d_law_1076 : decode code 1076 = .ok (.iinc 4 5, 3) := by decide +kernel
theorem d_law_1079 : decode code 1079 = .ok (.goto (-1056), 3) := by decide +kernel
theorem d_law_32 : decode code 32 = .ok (.aload_n 0, 1) := by decide +kernel
theorem d_law_33 : decode code 33 = .ok (.iload 4, 2) := by decide +kernel
theorem d_law_35 : decode code 35 = .ok (.iaload, 1) := by decide +kernel
theorem d_law_36 : decode code 36 = .ok (.bipush 15, 2) := by decide +kernel
theorem d_law_38 : decode code 38 = .ok (.iand, 1) := by decide +kernel
theorem d_law_39 : decode code 39 = .ok (.tableswitch 1037 0 13 #[69, 129, 196, 308, 376, 467, 523, 559, 627, 663, 730, 821, 889, 957], 69) := by decide +kernel
theorem d_law_0 : decode code 0 = .ok (.new 8, 3) := by decide +kernel
theorem d_law_3 : decode code 3 = .ok (.dup, 1) := by decide +kernel
theorem d_law_4 : decode code 4 = .ok (.invokespecial 67, 3) := by decide +kernel
theorem d_law_7 : decode code 7 = .ok (.astore_n 1, 1) := by decide +kernel
theorem d_law_8 : decode code 8 = .ok (.new 68, 3) := by decide +kernel
theorem d_law_11 : decode code 11 = .ok (.dup, 1) := by decide +kernel
theorem d_law_12 : decode code 12 = .ok (.invokespecial 70, 3) := by decide +kernel
theorem d_law_15 : decode code 15 = .ok (.astore_n 2, 1) := by decide +kernel
theorem d_law_16 : decode code 16 = .ok (.iconst 1, 1) := by decide +kernel
theorem d_law_17 : decode code 17 = .ok (.newarray .long, 2) := by decide +kernel
theorem d_law_19 : decode code 19 = .ok (.astore_n 3, 1) := by decide +kernel
theorem d_law_20 : decode code 20 = .ok (.iconst 0, 1) := by decide +kernel
theorem d_law_21 : decode code 21 = .ok (.istore 4, 2) := by decide +kernel
set_option maxHeartbeats 4000000 in
set_option maxRecDepth 100000 in
theorem law_loop {p : Program} {l : Launch} {e : Env} {s : State} {m : MethodId} {below : List Frame} {meth : Method} {c : Code} {dC : Nat → ClassId} {dI : Nat → Nat → Nat} {dA : Nat → ClassId} {zs : Nat → Nat} {b0 L : Nat} {xs : Nat → Int32} (C : lC p l s m c dC dI dA zs b0 L xs) (hL : L ≤ 2560) (hr : meth.sig.returnType = ret) (hlocks : meth.locks = false) {x0 m0 o0 : Nat} :
    ∀ (n j : Nat) (w : mh_w) (g : st_G) (H : Heap) (locs : List Loc) (ls : Array Slot) (cells slots : Nat), L < j + 5 * n + 5 → j ≤ L → lI dA zs w x0 m0 o0 g → mh_P (dC, dI) s.heap.size w H → va_S (mh_A s.heap.size) s.heap H locs → lv_has ls 8 [(4, .int (nI j)), (0, .ref b0), (1, .ref x0), (2, .ref m0), (3, .ref o0)] → cells + 40 * n ≤ 601024 → slots + 2000 * n ≤ 7293034 → W p l e room_1 s m #[Value.ref b0] below meth c H locs cells slots (lw_Z below #[Value.ref b0] s) (F0 m 23 ls []) := by
  have C9 := C
  obtain ⟨K0, hOK, hl0, hml, hXs, hbl⟩ := C9
  have K1 := K0
  obtain ⟨hx, hb, hown, hts, -, -⟩ := K1
  intro n
  induction n with
  | zero =>
    intro j w g H locs ls cells slots hn hjL hI hX hS hl hcc hss
    refine lv_iload hx hb d_law_23 (lv_at hl 0 rfl) ?_
    refine lv_aload_n hx hb d_law_25 rfl (lv_at hl 1 rfl) ?_
    refine va_slen hx hb hXs hbl (Nat.not_le.mpr hbl) hS d_law_26 ?_
    refine mh_ti (y := nI L) rfl ?_
    refine lv_iconst (v := nI 5) hx hb d_law_27 (by decide) ?_
    refine lv_isub hx hb d_law_28 ?_
    refine lv_icmp_gt (tgt := 1082) hx hb d_law_29 (by decide) (fun _ => ?_) (fun z => absurd ((law_gt hL (by omega)).mpr (by omega)) z)
    refine lv_iconst (v := 1) hx hb d_law_1082 (by decide) ?_
    refine va_forget (fun q hq => hS.2.2 q hq) ?_
    refine W.widen (k := 601024) (n := 7293034) (by omega) (by omega) ?_
    exact lw_ret hx hb hr hlocks d_law_1083
  | succ n ih =>
    intro j w g H locs ls cells slots hn hjL hI hX hS hl hcc hss
    refine lv_iload hx hb d_law_23 (lv_at hl 0 rfl) ?_
    refine lv_aload_n hx hb d_law_25 rfl (lv_at hl 1 rfl) ?_
    refine va_slen hx hb hXs hbl (Nat.not_le.mpr hbl) hS d_law_26 ?_
    refine mh_ti (y := nI L) rfl ?_
    refine lv_iconst (v := nI 5) hx hb d_law_27 (by decide) ?_
    refine lv_isub hx hb d_law_28 ?_
    refine lv_icmp_gt (tgt := 1082) hx hb d_law_29 (by decide) (fun _ => ?_) (fun cz => ?_)
    · skip
      refine lv_iconst (v := 1) hx hb d_law_1082 (by decide) ?_
      refine va_forget (fun q hq => hS.2.2 q hq) ?_
      refine W.widen (k := 601024) (n := 7293034) (by omega) (by omega) ?_
      exact lw_ret hx hb hr hlocks d_law_1083
    · skip
      have hj : j + 5 ≤ L := Classical.byContradiction (fun q => cz ((law_gt hL (by omega)).mpr q))
      have KK : ∀ (w' : mh_w) (g' : st_G) (H1 : Heap) (locs1 : List Loc) (ls1 : Array Slot), lI dA zs w' x0 m0 o0 g' → mh_P (dC, dI) s.heap.size w' H1 → va_S (mh_A s.heap.size) s.heap H1 locs1 → lv_has ls1 8 [(4, .int (nI j)), (0, .ref b0), (1, .ref x0), (2, .ref m0), (3, .ref o0)] → W p l e room_1 s m #[.ref b0] below meth c H1 locs1 (cells + 40) (slots + 2000) (lw_Z below #[Value.ref b0] s) (F0 m 1076 ls1 []) := by
        intro w1 g1 H1 locs1 ls1 hI hX hS hl
        refine lv_iinc (v := nI (j + 5)) (k := 0) (lv' := [(4, .int (nI (j + 5))), (0, .ref b0), (1, .ref x0), (2, .ref m0), (3, .ref o0)]) hx hb d_law_1076 hl rfl (by rw [← nI_add]; rfl) (by decide) rfl (fun ls hl => ?_)
        refine lv_goto (tgt := 23) hx hb d_law_1079 (by decide) ?_
        exact ih (j + 5) w1 g1 _ _ _ _ _ (by omega) hj hI hX hS hl (by omega) (by omega)
      refine lv_aload_n hx hb d_law_32 rfl (lv_at hl 1 rfl) ?_
      refine lv_iload hx hb d_law_33 (lv_at hl 0 rfl) ?_
      refine mh_sld hx hb hXs hbl hS (j := j) (by omega) (by omega) d_law_35 ?_
      refine lv_bipush (v := nI 15) hx hb d_law_36 (by decide) ?_
      refine lv_iand hx hb d_law_38 ?_
      obtain ⟨q, hq, eq9⟩ := pk_andE (xs j) (m := nI 15) 4 (by decide)
      refine mh_ti (y := nI q) (eq9) ?_
      have hq : q < 16 := hq
      have hq9 : q = 0 ∨ q = 1 ∨ q = 2 ∨ q = 3 ∨ q = 4 ∨ q = 5 ∨ q = 6 ∨ q = 7 ∨ q = 8 ∨ q = 9 ∨ q = 10 ∨ q = 11 ∨ q = 12 ∨ q = 13 ∨ q = 14 ∨ q = 15 := by omega
      rcases hq9 with rfl | rfl | rfl | rfl | rfl | rfl | rfl | rfl | rfl | rfl | rfl | rfl | rfl | rfl | rfl | rfl
      · refine lv_tableIn (tgt := 108) hx hb d_law_39 (by decide) (by decide) (off := 69) (by decide) (by decide) ?_
        exact law_begin C hL hj hI hX hS hl (by omega) (by omega) KK
      · refine lv_tableIn (tgt := 168) hx hb d_law_39 (by decide) (by decide) (off := 129) (by decide) (by decide) ?_
        exact law_get C hL hj hI hX hS hl (by omega) (by omega) KK
      · refine lv_tableIn (tgt := 235) hx hb d_law_39 (by decide) (by decide) (off := 196) (by decide) (by decide) ?_
        exact law_put C hL hj hI hX hS hl (by omega) (by omega) KK
      · refine lv_tableIn (tgt := 347) hx hb d_law_39 (by decide) (by decide) (off := 308) (by decide) (by decide) ?_
        exact law_delete C hL hj hI hX hS hl (by omega) (by omega) KK
      · refine lv_tableIn (tgt := 415) hx hb d_law_39 (by decide) (by decide) (off := 376) (by decide) (by decide) ?_
        exact law_part C hL hj hI hX hS hl (by omega) (by omega) KK
      · refine lv_tableIn (tgt := 506) hx hb d_law_39 (by decide) (by decide) (off := 467) (by decide) (by decide) ?_
        exact law_commit C hL hj hI hX hS hl (by omega) (by omega) KK
      · refine lv_tableIn (tgt := 562) hx hb d_law_39 (by decide) (by decide) (off := 523) (by decide) (by decide) ?_
        exact law_abort C hL hj hI hX hS hl (by omega) (by omega) KK
      · refine lv_tableIn (tgt := 598) hx hb d_law_39 (by decide) (by decide) (off := 559) (by decide) (by decide) ?_
        exact law_advance C hL hj hI hX hS hl (by omega) (by omega) KK
      · refine lv_tableIn (tgt := 666) hx hb d_law_39 (by decide) (by decide) (off := 627) (by decide) (by decide) ?_
        exact law_restart C hL hj hI hX hS hl (by omega) (by omega) KK
      · refine lv_tableIn (tgt := 702) hx hb d_law_39 (by decide) (by decide) (off := 663) (by decide) (by decide) ?_
        exact law_state C hL hj hI hX hS hl (by omega) (by omega) KK
      · refine lv_tableIn (tgt := 769) hx hb d_law_39 (by decide) (by decide) (off := 730) (by decide) (by decide) ?_
        exact law_look C hL hj hI hX hS hl (by omega) (by omega) KK
      · refine lv_tableIn (tgt := 860) hx hb d_law_39 (by decide) (by decide) (off := 821) (by decide) (by decide) ?_
        exact law_verdict C hL hj hI hX hS hl (by omega) (by omega) KK
      · refine lv_tableIn (tgt := 928) hx hb d_law_39 (by decide) (by decide) (off := 889) (by decide) (by decide) ?_
        exact law_intention C hL hj hI hX hS hl (by omega) (by omega) KK
      · refine lv_tableIn (tgt := 996) hx hb d_law_39 (by decide) (by decide) (off := 957) (by decide) (by decide) ?_
        exact law_count C hL hj hI hX hS hl (by omega) (by omega) KK
      · refine lv_tableOut (tgt := 1076) hx hb d_law_39 (Or.inr (by decide)) (by decide) ?_
        refine W.widen (k := cells + 40) (n := slots + 2000) (by omega) (by omega) ?_
        exact KK w g _ _ _ hI hX hS hl
      · refine lv_tableOut (tgt := 1076) hx hb d_law_39 (Or.inr (by decide)) (by decide) ?_
        refine W.widen (k := cells + 40) (n := slots + 2000) (by omega) (by omega) ?_
        exact KK w g _ _ _ hI hX hS hl
set_option maxHeartbeats 4000000 in
set_option maxRecDepth 100000 in
theorem whole_start {p : Program} {e : Env} {s : State} {m : MethodId} {below : List Frame} {meth : Method} {c : Code} (l : Launch) (hl0 : l.stackTraces = false) {b L : Nat} {xs : Nat → Int32} (hL : L ≤ 2560) (C0 : lw_At p s m meth c b L xs) : W p l e room_1 s m #[Value.ref b] below meth c s.heap [] 0 0 (lw_Z below #[Value.ref b] s) (entryFrame m ([Value.ref b] : List Value).toArray 8) := by
  obtain ⟨hx, hb, hr, hml, hown, hts, hXs, hbl, hlocks, hgv⟩ := C0
  obtain ⟨dC, dI, dA, zs, hOK⟩ := lw_ok hts hgv
  have hTB : ∀ w ∈ mh_TB, w.before #[Value.ref b] s = true := fun w h => hts w (mh_TB_tbl w h)
  have K0 : mh_K0 p s m #[Value.ref b] c "MeldHostLaw" code dC dI dA := ⟨hx, hb, hown, hTB, hOK.1, hOK.2.1⟩
  have hX := hOK.2.2.2.2
  have hb0 := hOK.2.2.2.1
  have hS : va_S (mh_A s.heap.size) s.heap s.heap [] := va_S.rf
  have hl := lv_entry ([.ref b]) (n := 8) (Nat.le_of_ble_eq_true rfl)
  rw [lg_entry_eq]
  generalize (lg_sl ([.ref b]) ++ List.replicate (8 - (lg_sl ([.ref b])).length) Slot.unset).toArray = ls at hl ⊢
  have hl : lv_has ls 8 [(0, .ref b)] := hl
  refine mh_new 0 0 K0 hX hS hb0 (ci := 4) rfl i_MH ty_MH ty_MH_ok k25 k26 k1 (fs := [.null, .null, .null, .null, .int (nI 0)]) (by decide) (Nat.le_of_ble_eq_true rfl) (Nat.le_of_ble_eq_true rfl) d_law_0 (fun x0 H hX hS => ?_)
  have fs162 := mh_self hX
  refine lv_dup hx hb d_law_3 rfl ?_
  refine mh_callV (mh_sI (rest := [.ref x0]) (av := []) K0 e_MH_init l_LW_67 k28 rfl rfl rfl d_law_4) (c_MH_init (mh_set_eq _ _ _ _)) K0 hOK hml hl.1 e_MH_init hX hS d_law_4 (Nat.le_of_ble_eq_true rfl) (Nat.le_of_ble_eq_true rfl) (Nat.le_of_ble_eq_true rfl) (Nat.le_of_ble_eq_true rfl) (Nat.le_of_ble_eq_true rfl) (fun w1 H locs ⟨hC, hFC⟩ hX hS => ?_)
  refine W.eq (g2 := F0 m 7 ls [.ref x0]) rfl ?_
  refine lv_astore_n (lv' := [(1, .ref x0), (0, .ref b)]) hx hb d_law_7 rfl hl (by decide) rfl (fun ls hl => ?_)
  refine mh_new 50 0 K0 hX hS hb0 (ci := 7) rfl i_MM ty_MM ty_MM_ok k644 k645 k9 (fs := [.int (nI 0), .null, .null, .null, .null, .null, .int (nI 0), .int (nI 0)]) (by decide) (Nat.le_of_ble_eq_true rfl) (Nat.le_of_ble_eq_true rfl) d_law_8 (fun m0 H hX hS => ?_)
  have fs163 := mh_self hX
  refine lv_dup hx hb d_law_11 rfl ?_
  refine mh_callV (mh_sI (rest := [.ref m0]) (av := []) K0 e_MM_init l_LW_70 k647 rfl rfl rfl d_law_12) (c_MM_init (mh_set_eq _ _ _ _)) K0 hOK hml hl.1 e_MM_init hX hS d_law_12 (Nat.le_of_ble_eq_true rfl) (Nat.le_of_ble_eq_true rfl) (Nat.le_of_ble_eq_true rfl) (Nat.le_of_ble_eq_true rfl) (Nat.le_of_ble_eq_true rfl) (fun w2 H locs ⟨hM, hD⟩ hX hS => ?_)
  refine W.eq (g2 := F0 m 15 ls [.ref m0]) rfl ?_
  refine lv_astore_n (lv' := [(2, .ref m0), (1, .ref x0), (0, .ref b)]) hx hb d_law_15 rfl hl (by decide) rfl (fun ls hl => ?_)
  refine lv_iconst (v := nI 1) hx hb d_law_16 (by decide) ?_
  refine mh_newa 90 0 1 K0 hX hS hb0 (ty := .long) rfl rfl k82 (N' := 1) (a0 := (1, .inr (.inl (fun _ => 0)))) (fun cA => rfl) (by decide) (by decide) (by decide) (Nat.le_of_ble_eq_true rfl) (Nat.le_of_ble_eq_true rfl) d_law_17 (fun o0 H hX hS => ?_)
  have fs164 := mh_self hX
  refine lv_astore_n (lv' := [(3, .ref o0), (2, .ref m0), (1, .ref x0), (0, .ref b)]) hx hb d_law_19 rfl hl (by decide) rfl (fun ls hl => ?_)
  refine lv_iconst (v := nI 0) hx hb d_law_20 (by decide) ?_
  refine lv_istore (lv' := [(4, .int (nI 0)), (3, .ref o0), (2, .ref m0), (1, .ref x0), (0, .ref b)]) hx hb d_law_21 hl (by decide) rfl (fun ls hl => ?_)
  refine law_loop ⟨K0, hOK, hl0, hml, hXs, hbl⟩ hL hr hlocks 512 0 _ st_G0 _ _ _ _ _ (by omega) (Nat.zero_le _) ⟨hC.c (fun k i hk => ?_), ⟨_, hM.to (fun k i h1 h2 => mh_set_ne _ _ _ _ (by omega))⟩, ⟨_, fs164⟩, sg_ok0⟩ hX hS (lv_sub hl [0, 4, 3, 2, 1] rfl) (Nat.le_of_ble_eq_true rfl) (Nat.le_of_ble_eq_true rfl)
  rw [mh_set_ne _ _ _ _ (by omega), hD _ _ (by omega), mh_set_ne _ _ _ _ (by omega)]
set_option maxHeartbeats 4000000 in
theorem lw_walk (l : Launch) (hl0 : l.stackTraces = false) (b : Addr) (xs : List Int32) : MetFree l x (headSpec (Jvm.Cond.code x code maxLocals ret :: tables_1) room_1) (lw_P b xs) (fun _ _ _ _ _ => True) lw_Q := by
  refine MetFree.of_bodyS (code := code) (maxLocals := maxLocals) (ret := ret) (by decide) ?_ ?_
  · intro args s m h hn
    obtain ⟨meth, c, h1, h2, h3, h4, h5, h6, -, -⟩ := Cond.code_spec hn (atoms_spec (ws := Jvm.Cond.code x code maxLocals ret :: tables_1) h _ List.mem_cons_self)
    exact ⟨meth, c, h1, h2, h3, h4, h5, h6⟩
  · intro p e s m args below meth c s₁ B hml0 hP _
    obtain ⟨rfl, hx, hbd, hgv⟩ := hP
    obtain ⟨scr, harrAt, hlist, hof, hsmall⟩ := hx
    obtain ⟨hcb, hkn, -, -⟩ := State.arrayAt?_spec harrAt
    have hown : s.vm.findClass R_law = some m.cls := findClass_of_methodNamed B.named
    have hts0 : ∀ c ∈ (Jvm.Cond.code x code maxLocals ret :: tables_1), c.before #[Value.ref b] s = true := atoms_spec (ws := Jvm.Cond.code x code maxLocals ret :: tables_1) B.pre
    have hts : ∀ w ∈ lw_tbl, w.before #[Value.ref b] s = true := k2_hts_sels lw_privs (fun w hw => hts0 w (List.mem_cons_of_mem _ hw)) lw_privs_ok
    have hml : c.maxLocals = 8 := B.maxLocals_eq (hts0 _ List.mem_cons_self)
    have X₀ : Stand p l e room_1 s m #[Value.ref b] below meth c s₁ [] 0 0 := Stand.of_body B
    have hh0 : s₁.heap = s.heap := by rw [B.state]; rfl
    have hsz : scr.slots.size = xs.length := by rw [← Array.length_toList, hlist, List.length_map]
    have hval : ∀ j : Nat, j < xs.length → scr.slots[j]? = some (.int (xs.getD j 0)) := fun j hj => by
      rw [← Array.getElem?_toList, hlist]
      simp [hj]
    have hbl : b < s.heap.size := (Array.getElem?_eq_some_iff.mp hcb).1
    have hX : va_X b xs.length (fun j => xs.getD j 0) s s.heap := ⟨scr, hcb, hof, hkn, hsz, hval⟩
    have K : W p l e room_1 s m #[Value.ref b] below meth c s₁.heap [] 0 0 (lw_Z below #[Value.ref b] s) (entryFrame m ([Value.ref b] : List Value).toArray 8) := by
      rw [hh0]
      exact whole_start l hl0 hbd ⟨B.exec, B.bytes, B.returns, hml, hown, hts, hX, hbl, B.notSynchronized, hgv⟩
    obtain ⟨t, a1, o, b1, b2, b3⟩ := K s₁ rfl X₀
    exact ⟨t, o, a1, b1, b2, b3⟩
theorem lw_pre_spec {args : Array Value} {s : State} (h : (Jvm.Cond.and given_1 narrow_1).before args s = true) (hr : rest_1_c.before args s = true) : ∃ (b : Addr) (xs : List Int32), lw_P b xs args s := by
  have hs := flat_of_before _ h
  have hq := flat_of_before _ hr
  have hc : (Cond.count 1).before args s = true := hs _ (by decide +kernel)
  have harr : (Cond.arrayOf (.arg 0) .int).before args s = true := hs _ (by decide +kernel)
  have hle : (Cond.le (.length (.arg 0)) (.int 2560)).before args s = true := hs _ (by decide +kernel)
  have hlen : (Cond.isInt (.length (.arg 0))).before args s = true := hq _ (by decide +kernel)
  have hall : (Cond.all (.arg 0) (.isInt (.elem (.arg 0) (.index 0)))).before args s = true := hq _ (by decide +kernel)
  obtain ⟨b, xs, hb, hx⟩ := State.ints_of_pre rfl harr hlen hall
  have hsm : xs.length < 2 ^ 31 := hx.choose_spec.2.2.2
  have hev : (Term.length (.arg 0)).eval args s none [] s = some (.int xs.length.toInt32) := hx.length_eval hb
  have hv := Cond.le_ints hev (show (Term.int 2560).eval args s none [] s = some (.int 2560) from rfl)
  have hd : xs.length.toInt32 ≤ 2560 := by
    simpa [Cond.before, Cond.holds, hv] using hle
  have hN : xs.length ≤ 2560 := (Int32.ofNat_le_ofNat hsm (by decide)).mp (show Int32.ofNat xs.length ≤ Int32.ofNat 2560 from hd)
  exact ⟨b, xs, Cond.one_arg hc (show args[0]? = some (.ref b) from hb), hx, hN, h⟩
theorem lw_comes (l : Launch) (hl0 : l.stackTraces = false) : Comes l x (Jvm.Cond.code x code maxLocals ret :: tables_1) room_1 (fun tb e args s => Calls_1 tb e args s ∧ rest_1 tb e args s ∧ Pre_1 tb e args s)
    (fun _ _ args s o t => lw_Q args s o t) := by
  intro p e ha hc hk s m args below hf hfit hheap happ hpre
  obtain ⟨b, xs, hP⟩ := lw_pre_spec hpre.2.2 hpre.2.1
  obtain ⟨k, o, h1, h2, h3, hQ⟩ := lw_walk l hl0 b xs p e ha hc hk s m args below hf ((Spec.applies_iff_loose hf).mp happ).1 hP trivial
  exact ⟨k, o, h1, h2, h3, hQ⟩
theorem lw_frame {s t : State} {o : Outcome} {args : Array Value} (h : Framed s o t [] 601024 7293034) :
    Framed s o t (fieldLocs frame_1_writes args s ++ arrayLocs frame_1_arrays args s ++ staticLocs frame_1_statics s) 601024 7293034 := h
theorem lw_limb (L : Cond) (hL : ∀ (args : Array Value) (s t : State), L.after args s (.returned (some (.int 1))) t = true) :
    ArmFor flags0 classFile x code maxLocals ret World_1 tables_1 room_1 Calls_1 rest_1 Pre_1
      (fun tb e a s o t => postC L tb e a s o t ∧ Framed s o t (fieldLocs frame_1_writes a s ++ arrayLocs frame_1_arrays a s ++ staticLocs frame_1_statics s) 601024 7293034) := by
  intro l hfl _ _ p e ha hc hk s m args below hf hfit hheap happ hpre
  have hl0 : l.stackTraces = false := lw_flags hfl
  obtain ⟨k, o, h1, h2, h3, rfl, hF⟩ := lw_comes l hl0 p e ha hc hk s m args below hf hfit hheap happ hpre
  exact ⟨k, _, h1, h2, h3, hL args s _, lw_frame hF⟩
theorem i_vc : Claimed_1_1 ∧ Claimed_1_2 := ⟨lw_limb limb_1_1 (fun args s t => by simp [limb_1_1, Cond.after, Cond.holds, Cond.value]), lw_limb limb_1_2 (fun args s t => Cond.after_iff.mpr (by
  first | (rw [show limb_1_2 = Cond.eq .result (.int 1) from rfl, Cond.eq_ints (x := 1) (y := 1) rfl rfl]; simp; done) | (simp [limb_1_2, Cond.value, Term.eval]; done)))⟩
