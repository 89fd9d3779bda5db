/-! THE LAW'S LOOP -/
section MHQ
variable {p : Program} {l : Launch} {e : Env} {R : Room} {s : State} {m : MethodId} {args : Array Value} {below : List Frame} {meth : Method} {c : Code} {H : Heap} {locs : List Loc} {cells slots : Nat} {Q : State → Prop}
variable {cc : ByteArray} {pc : Nat} {ls : Array Slot} {rest : List Value} {own : String} {b : Nat} {dC : Nat → ClassId} {dI : Nat → Nat → Nat} {dA : Nat → ClassId} {zs : Nat → Nat} {w w0 : mh_w}
theorem mh_sld (hx : p.tables.exec = Jvm.exec) (hb : c.code = cc) {b L : Nat} {xs : Nat → Int32} (hX : va_X b L xs s s.heap) (hbl : b < s.heap.size) (hS : va_S (mh_A s.heap.size) s.heap H locs) {j : Nat} (hj : j < L) (hL : L < 2 ^ 31) (hdg : decode cc pc = .ok (.iaload, 1))
    (kk : W p l e R s m args below meth c H locs cells slots Q (F0 m (pc + 1) ls (.int (xs j) :: rest))) : W p l e R s m args below meth c H locs cells slots Q (F0 m pc ls (.int (nI j) :: .ref b :: rest)) :=
  va_sld hx hb hX hbl (Nat.not_le.mpr hbl) hS (vp_in_nI hj hL) hdg (by rw [nI_clamp (by omega)]; exact kk)
theorem mh_callJ {y : MethodName} {rm : Room} {av st0 : List Value} {r : sp_R} {Φ : mh_w → Prop} (site : mh_Site p l e R s m args below meth c H locs cells slots (F0 m pc ls st0) rest y av) (hM : mh_Met l b dC dI dA zs y rm av w (mh_J r Φ)) (K0 : mh_K0 p s m args c own cc dC dI dA) (hOK : mh_OK b dC dI dA zs w0 s)
    {nL : Nat} (hml : c.maxLocals = nL) (hsz : ls.size = nL) {cY : ByteArray} {nY : Nat} {rY : Option FieldType} {hsY : List (Nat × Nat × Nat × Nat)} {n : Nat} (C0 : mh_cee y cY nY rY hsY n) (hX : mh_P (dC, dI) b w H) (hS : va_S (mh_A b) s.heap H locs) {ig : Instr} (hdg : decode cc pc = .ok (ig, 3))
    (hfr : rm.frames + 1 ≤ R.frames) (hW9 : (rest.map fun v => v.category).sum ≤ 8) (hlo : 8 + (nY + 11) + rm.locals ≤ R.locals) (h4 : cells + rm.cells ≤ R.cells) (h5 : slots + rm.slots ≤ R.slots)
    (kk : ∀ (z : Int64) (w' : mh_w) (H1 : Heap) (locs1 : List Loc), (r.1 = 0 → z = r.2.1) → Φ w' → mh_P (dC, dI) b w' H1 → va_S (mh_A b) s.heap H1 locs1 → W p l e R s m args below meth c H1 locs1 (cells + rm.cells) (slots + rm.slots) Q (F0 m (pc + 3) ls (.long z :: rest))) :
    W p l e R s m args below meth c H locs cells slots Q (F0 m pc ls st0) := by
  refine mh_call site hM K0 hOK hml hsz C0 hX hS hdg hfr hW9 hlo h4 h5 (fun q w' H1 locs1 hP => ?_) (fun v' w' H1 locs1 hP hX' hS' => ?_)
  · obtain ⟨q', e1, -⟩ := hP
    cases e1
  · obtain ⟨q', e1, e2, e3⟩ := hP
    cases e1
    exact kk q' w' H1 locs1 e2 e3 hX' hS'
theorem mh_callI {y : MethodName} {rm : Room} {av st0 : List Value} {r : sp_R} {Φ : mh_w → Prop} (site : mh_Site p l e R s m args below meth c H locs cells slots (F0 m pc ls st0) rest y av) (hM : mh_Met l b dC dI dA zs y rm av w (mh_I r Φ)) (K0 : mh_K0 p s m args c own cc dC dI dA) (hOK : mh_OK b dC dI dA zs w0 s)
    {nL : Nat} (hml : c.maxLocals = nL) (hsz : ls.size = nL) {cY : ByteArray} {nY : Nat} {rY : Option FieldType} {hsY : List (Nat × Nat × Nat × Nat)} {n : Nat} (C0 : mh_cee y cY nY rY hsY n) (hX : mh_P (dC, dI) b w H) (hS : va_S (mh_A b) s.heap H locs) {ig : Instr} (hdg : decode cc pc = .ok (ig, 3))
    (hfr : rm.frames + 1 ≤ R.frames) (hW9 : (rest.map fun v => v.category).sum ≤ 8) (hlo : 8 + (nY + 11) + rm.locals ≤ R.locals) (h4 : cells + rm.cells ≤ R.cells) (h5 : slots + rm.slots ≤ R.slots)
    (kk : ∀ (z : Int32) (w' : mh_w) (H1 : Heap) (locs1 : List Loc), (r.1 = 0 → z.toInt64 = r.2.1) → Φ w' → mh_P (dC, dI) b w' H1 → va_S (mh_A b) s.heap H1 locs1 → W p l e R s m args below meth c H1 locs1 (cells + rm.cells) (slots + rm.slots) Q (F0 m (pc + 3) ls (.int z :: rest))) :
    W p l e R s m args below meth c H locs cells slots Q (F0 m pc ls st0) := by
  refine mh_call site hM K0 hOK hml hsz C0 hX hS hdg hfr hW9 hlo h4 h5 (fun q w' H1 locs1 hP => ?_) (fun v' w' H1 locs1 hP hX' hS' => ?_)
  · obtain ⟨q', e1, -⟩ := hP
    cases e1
  · obtain ⟨q', e1, e2, e3⟩ := hP
    cases e1
    exact kk q' w' H1 locs1 e2 e3 hX' hS'
end MHQ
def lC (p : Program) (l : Launch) (s : State) (m : MethodId) (c : Code) (dC : Nat → ClassId) (dI : Nat → Nat → Nat) (dA : Nat → ClassId) (zs : Nat → Nat) (b0 L : Nat) (xs : Nat → Int32) : Prop :=
  mh_K0 p s m #[.ref b0] c "MeldHostLaw" code dC dI dA ∧ mh_OK s.heap.size dC dI dA zs (fun _ _ => none) s ∧ l.stackTraces = false ∧ c.maxLocals = 8 ∧ va_X b0 L xs s s.heap ∧ b0 < s.heap.size
def lI (dA : Nat → ClassId) (zs : Nat → Nat) (w : mh_w) (x0 m0 o0 : Nat) (g : st_G) : Prop :=
  rC dA zs w x0 g ∧ (∃ er, rM dA w m0 er g) ∧ (∃ ov : Nat → Int64, w 90 0 = some (o0, .inl (dA 1, 1, .inr (.inl ov)))) ∧ sg_ok g
theorem law_gt {L j : Nat} (hL : L ≤ 2560) (hj : j ≤ 2560) : (nI L - nI 5 < nI j) ↔ ¬ j + 5 ≤ L := by
  rw [Int32.lt_iff_toInt_lt, pk_sub_toInt (by omega) (by decide), nI_toInt (by omega)]
  omega
theorem sl_begin {g : st_G} (hG : sg_ok g) {t u lv : Int32} : (sp_begin g t u lv).1 < 2 ^ 31 := by
  by_cases h : (st_in t 16 && (st_in u 4 && st_in lv 2)) = true
  · have h9 := h
    simp only [Bool.and_eq_true] at h9
    obtain ⟨c1, c2, c3⟩ := h9
    obtain ⟨t, ht, e9⟩ := st_in_of (n := 16) (by decide) c1
    subst e9
    obtain ⟨u, hu, e9⟩ := st_in_of (n := 4) (by decide) c2
    subst e9
    obtain ⟨lv, hlv, e9⟩ := st_in_of (n := 2) (by decide) c3
    subst e9
    cases hd : sg_dr g t with
    | none => rw [spe_begin_0 ht hu hlv hd]; exact (by decide : (0 : Nat) < 2 ^ 31)
    | some x =>
      rw [spe_begin_2 ht hu hlv hd]; exact (by decide : (2 : Nat) < 2 ^ 31)
  · rw [(show sp_begin g t u lv = (1, 0, g) from if_neg h)]; exact (by decide : (1 : Nat) < 2 ^ 31)
theorem sl_get {g : st_G} (hG : sg_ok g) {t key : Int32} : (sp_get g t key).1 < 2 ^ 31 := by
  by_cases h : (st_in t 16 && st_in key 256) = true
  · have h9 := h
    simp only [Bool.and_eq_true] at h9
    obtain ⟨c1, c2⟩ := h9
    obtain ⟨t, ht, e9⟩ := st_in_of (n := 16) (by decide) c1
    subst e9
    obtain ⟨key, hk, e9⟩ := st_in_of (n := 256) (by decide) c2
    subst e9
    cases hd : sg_dr g t with
    | none => rw [spe_get_2 ht hk hd]; exact (by decide : (2 : Nat) < 2 ^ 31)
    | some x =>
      cases hv : st_vw (sg_lg g) x key with
      | none => rw [spe_get_3 ht hk hd hv]; exact (by decide : (3 : Nat) < 2 ^ 31)
      | some v =>
        rw [spe_get_0 ht hk hd hv]; exact (by decide : (0 : Nat) < 2 ^ 31)
  · rw [(show sp_get g t key = (1, 0, g) from if_neg h)]; exact (by decide : (1 : Nat) < 2 ^ 31)
theorem sl_put {g : st_G} (hG : sg_ok g) {t key : Int32} {v : Int64} : (sp_write g t key (some v)).1 < 2 ^ 31 := by
  by_cases h : (st_in t 16 && st_in key 256) = true
  · have h9 := h
    simp only [Bool.and_eq_true] at h9
    obtain ⟨c1, c2⟩ := h9
    obtain ⟨t, ht, e9⟩ := st_in_of (n := 16) (by decide) c1
    subst e9
    obtain ⟨key, hk, e9⟩ := st_in_of (n := 256) (by decide) c2
    subst e9
    cases hd : sg_dr g t with
    | none => rw [spe_put_2 (v := v) ht hk hd]; exact (by decide : (2 : Nat) < 2 ^ 31)
    | some x =>
      by_cases h8 : (st_pl (iv_wk x) key (iv_nw x)) < 8
      · rw [spe_put_0 (v := v) ht hk hd h8]; exact (by decide : (0 : Nat) < 2 ^ 31)
      · rw [spe_put_3 (v := v) ht hk hd h8]; exact (by decide : (3 : Nat) < 2 ^ 31)
  · rw [(show sp_write g t key (some v) = (1, 0, g) from if_neg h)]; exact (by decide : (1 : Nat) < 2 ^ 31)
theorem sl_delete {g : st_G} (hG : sg_ok g) {t key : Int32} : (sp_write g t key none).1 < 2 ^ 31 := by
  by_cases h : (st_in t 16 && st_in key 256) = true
  · have h9 := h
    simp only [Bool.and_eq_true] at h9
    obtain ⟨c1, c2⟩ := h9
    obtain ⟨t, ht, e9⟩ := st_in_of (n := 16) (by decide) c1
    subst e9
    obtain ⟨key, hk, e9⟩ := st_in_of (n := 256) (by decide) c2
    subst e9
    cases hd : sg_dr g t with
    | none => rw [spe_delete_2 ht hk hd]; exact (by decide : (2 : Nat) < 2 ^ 31)
    | some x =>
      by_cases h8 : (st_pl (iv_wk x) key (iv_nw x)) < 8
      · rw [spe_delete_0 ht hk hd h8]; exact (by decide : (0 : Nat) < 2 ^ 31)
      · rw [spe_delete_3 ht hk hd h8]; exact (by decide : (3 : Nat) < 2 ^ 31)
  · rw [(show sp_write g t key none = (1, 0, g) from if_neg h)]; exact (by decide : (1 : Nat) < 2 ^ 31)
theorem sl_part {g : st_G} (hG : sg_ok g) {t low high what : Int32} : (sp_part g t low high what).1 < 2 ^ 31 := by
  by_cases h : (st_in t 16 && sp_pt low high what) = true
  · have h9 := h
    simp only [Bool.and_eq_true] at h9
    obtain ⟨c1, c2⟩ := h9
    obtain ⟨t, ht, e9⟩ := st_in_of (n := 16) (by decide) c1
    subst e9
    obtain ⟨low, high, q9, h1, h2, h3, e1, e2, e3⟩ := sp_pt_of c2
    subst e1 e2 e3
    cases hd : sg_dr g t with
    | none => rw [spe_part_2 ht h1 h2 h3 hd]; exact (by decide : (2 : Nat) < 2 ^ 31)
    | some x =>
      by_cases h8 : iv_np x < 8
      · rw [spe_part_0 ht h1 h2 h3 hd h8]; exact (by decide : (0 : Nat) < 2 ^ 31)
      · rw [spe_part_3 ht h1 h2 h3 hd h8]; exact (by decide : (3 : Nat) < 2 ^ 31)
  · rw [(show sp_part g t low high what = (1, 0, g) from if_neg h)]; exact (by decide : (1 : Nat) < 2 ^ 31)
theorem sl_commit {g : st_G} (hG : sg_ok g) {t : Int32} : (sp_commit g t).1 < 2 ^ 31 := by
  by_cases h : st_in t 16 = true
  · have h9 := h
    obtain ⟨t, ht, e9⟩ := st_in_of (n := 16) (by decide) h9
    subst e9
    cases hd : sg_dr g t with
    | none => rw [spe_commit_2 ht hd]; exact (by decide : (2 : Nat) < 2 ^ 31)
    | some x =>
      by_cases h0 : iv_nw x = 0
      · rw [spe_commit_00 ht hd h0]; exact (by decide : (0 : Nat) < 2 ^ 31)
      · by_cases hn : sg_n g < 400
        · rw [spe_commit_0 ht hd h0 hn]; exact (by decide : (0 : Nat) < 2 ^ 31)
        · rw [spe_commit_3 ht hd h0 hn]; exact (by decide : (3 : Nat) < 2 ^ 31)
  · rw [(show sp_commit g t = (1, 0, g) from if_neg h)]; exact (by decide : (1 : Nat) < 2 ^ 31)
theorem sl_abort {g : st_G} (hG : sg_ok g) {t : Int32} : (sp_abort g t).1 < 2 ^ 31 := by
  by_cases h : st_in t 16 = true
  · have h9 := h
    obtain ⟨t, ht, e9⟩ := st_in_of (n := 16) (by decide) h9
    subst e9
    cases hd : sg_dr g t with
    | none => rw [spe_abort_2 ht hd]; exact (by decide : (2 : Nat) < 2 ^ 31)
    | some x =>
      rw [spe_abort_0 ht hd]; exact (by decide : (0 : Nat) < 2 ^ 31)
  · rw [(show sp_abort g t = (1, 0, g) from if_neg h)]; exact (by decide : (1 : Nat) < 2 ^ 31)
theorem sl_advance {g : st_G} (hG : sg_ok g) {u k : Int32} : (sp_advance g u k).1 < 2 ^ 31 := by
  by_cases h : (st_in u 4 && st_in k 401) = true
  · have h9 := h
    simp only [Bool.and_eq_true] at h9
    obtain ⟨c1, c2⟩ := h9
    obtain ⟨u, hu, e9⟩ := st_in_of (n := 4) (by decide) c1
    subst e9
    obtain ⟨k9, hk9, e9⟩ := st_in_of (n := 401) (by decide) c2
    subst e9
    rw [spe_advance_0 hu hk9]; exact (by decide : (0 : Nat) < 2 ^ 31)
  · rw [(show sp_advance g u k = (1, 0, g) from if_neg h)]; exact (by decide : (1 : Nat) < 2 ^ 31)
theorem sl_restart {g : st_G} (hG : sg_ok g) {u : Int32} : (sp_restart g u).1 < 2 ^ 31 := by
  by_cases h : st_in u 4 = true
  · have h9 := h
    obtain ⟨u, hu, e9⟩ := st_in_of (n := 4) (by decide) h9
    subst e9
    by_cases h4 : sg_rs g < 4
    · rw [spe_restart_0 hu h4]; exact (by decide : (0 : Nat) < 2 ^ 31)
    · rw [spe_restart_2 hu h4]; exact (by decide : (2 : Nat) < 2 ^ 31)
  · rw [(show sp_restart g u = (1, 0, g) from if_neg h)]; exact (by decide : (1 : Nat) < 2 ^ 31)
theorem sl_state {g : st_G} (hG : sg_ok g) {u key : Int32} : (sp_state g u key).1 < 2 ^ 31 := by
  by_cases h : (st_in u 4 && st_in key 256) = true
  · have h9 := h
    simp only [Bool.and_eq_true] at h9
    obtain ⟨c1, c2⟩ := h9
    obtain ⟨u, hu, e9⟩ := st_in_of (n := 4) (by decide) c1
    subst e9
    obtain ⟨key, hk, e9⟩ := st_in_of (n := 256) (by decide) c2
    subst e9
    cases hv : (st_st (sg_lg g) (sg_at g u)) key with
    | none => rw [spe_state_2 hu hk hv]; exact (by decide : (2 : Nat) < 2 ^ 31)
    | some v =>
      rw [spe_state_0 hu hk hv]; exact (by decide : (0 : Nat) < 2 ^ 31)
  · rw [(show sp_state g u key = (1, 0, g) from if_neg h)]; exact (by decide : (1 : Nat) < 2 ^ 31)
theorem sl_look {g : st_G} (hG : sg_ok g) {u low high what : Int32} : (sp_look g u low high what).1 < 2 ^ 31 := by
  by_cases h : (st_in u 4 && sp_pt low high what) = true
  · have h9 := h
    simp only [Bool.and_eq_true] at h9
    obtain ⟨c1, c2⟩ := h9
    obtain ⟨u, hu, e9⟩ := st_in_of (n := 4) (by decide) c1
    subst e9
    obtain ⟨low, high, q9, h1, h2, h3, e1, e2, e3⟩ := sp_pt_of c2
    subst e1 e2 e3
    rw [spe_look_0 hu h1 h2 h3]; exact (by decide : (0 : Nat) < 2 ^ 31)
  · rw [(show sp_look g u low high what = (1, 0, g) from if_neg h)]; exact (by decide : (1 : Nat) < 2 ^ 31)
theorem sl_verdict {g : st_G} (hG : sg_ok g) {u k : Int32} : (sp_verdict g u k).1 < 2 ^ 31 := by
  by_cases h : st_in u 4 = true
  · have h9 := h
    obtain ⟨u, hu, e9⟩ := st_in_of (n := 4) (by decide) h9
    subst e9
    by_cases hv1 : st_in k (sg_n g) = true
    · obtain ⟨j, hj, e9⟩ := st_in_of (n := sg_n g) (by have := hG.1; omega) hv1
      subst e9
      have hn4 := hG.1
      rw [spe_verdict_0 hu hj hn4]; exact (by decide : (0 : Nat) < 2 ^ 31)
    · have hv := Bool.eq_false_iff.mpr hv1
      rw [spe_verdict_2 hu hv]; exact (by decide : (2 : Nat) < 2 ^ 31)
  · rw [(show sp_verdict g u k = (1, 0, g) from if_neg h)]; exact (by decide : (1 : Nat) < 2 ^ 31)
theorem sl_intention {g : st_G} (hG : sg_ok g) {k what : Int32} : (sp_intention g k what).1 < 2 ^ 31 := by
  by_cases h : st_in what 6 = true
  · have h9 := h
    obtain ⟨q9, h3, e9⟩ := st_in_of (n := 6) (by decide) h9
    subst e9
    by_cases hv1 : st_in k (sg_n g) = true
    · obtain ⟨j, hj, e9⟩ := st_in_of (n := sg_n g) (by have := hG.1; omega) hv1
      subst e9
      have hn4 := hG.1
      rw [spe_intention_0 hj hn4 h3]; exact (by decide : (0 : Nat) < 2 ^ 31)
    · have hv := Bool.eq_false_iff.mpr hv1
      rw [spe_intention_2 h3 hv]; exact (by decide : (2 : Nat) < 2 ^ 31)
  · rw [(show sp_intention g k what = (1, 0, g) from if_neg h)]; exact (by decide : (1 : Nat) < 2 ^ 31)
theorem sl_count {g : st_G} (hG : sg_ok g) {what k j : Int32} : (sp_count g what k j).1 < 2 ^ 31 := by
  by_cases h : st_in what 5 = true
  · have h9 := h
    obtain ⟨q9, h5, e9⟩ := st_in_of (n := 5) (by decide) h9
    subst e9
    have hq : q9 = 0 ∨ q9 = 1 ∨ (2 ≤ q9 ∧ q9 < 5) := by omega
    rcases hq with rfl | rfl | ⟨h3, -⟩
    · rw [spe_count_0]; exact (by decide : (0 : Nat) < 2 ^ 31)
    · rw [spe_count_01]; exact (by decide : (0 : Nat) < 2 ^ 31)
    · by_cases hv1 : st_in k 4 = true
      · obtain ⟨u, hu, e9⟩ := st_in_of (n := 4) (by decide) hv1
        subst e9
        have hq : q9 = 2 ∨ q9 = 3 ∨ q9 = 4 := by omega
        rcases hq with rfl | rfl | rfl
        · rw [spe_count_02 hu]; exact (by decide : (0 : Nat) < 2 ^ 31)
        · rw [spe_count_03 hu]; exact (by decide : (0 : Nat) < 2 ^ 31)
        · by_cases hv2 : st_in j 256 = true
          · obtain ⟨key, hk, e9⟩ := st_in_of (n := 256) (by decide) hv2
            subst e9
            rw [spe_count_04 hu hk]; exact (by decide : (0 : Nat) < 2 ^ 31)
          · have hv := Bool.eq_false_iff.mpr hv2
            rw [spe_count_12 hu hv]; exact (by decide : (1 : Nat) < 2 ^ 31)
      · have hv := Bool.eq_false_iff.mpr hv1
        rw [spe_count_11 h3 h5 hv]; exact (by decide : (1 : Nat) < 2 ^ 31)
  · rw [(show sp_count g what k j = (1, 0, g) from if_neg h)]; exact (by decide : (1 : Nat) < 2 ^ 31)
theorem d_law_108 : decode code 108 = .ok (.aload_n 1, 1) := by decide +kernel
theorem d_law_109 : decode code 109 = .ok (.aload_n 0, 1) := by decide +kernel
theorem d_law_110 : decode code 110 = .ok (.iload 4, 2) := by decide +kernel
theorem d_law_112 : decode code 112 = .ok (.iconst 1, 1) := by decide +kernel
theorem d_law_113 : decode code 113 = .ok (.iadd, 1) := by decide +kernel
theorem d_law_114 : decode code 114 = .ok (.iaload, 1) := by decide +kernel
theorem d_law_115 : decode code 115 = .ok (.aload_n 0, 1) := by decide +kernel
theorem d_law_116 : decode code 116 = .ok (.iload 4, 2) := by decide +kernel
theorem d_law_118 : decode code 118 = .ok (.iconst 2, 1) := by decide +kernel
theorem d_law_119 : decode code 119 = .ok (.iadd, 1) := by decide +kernel
theorem d_law_120 : decode code 120 = .ok (.iaload, 1) := by decide +kernel
theorem d_law_121 : decode code 121 = .ok (.aload_n 0, 1) := by decide +kernel
theorem d_law_122 : decode code 122 = .ok (.iload 4, 2) := by decide +kernel
theorem d_law_124 : decode code 124 = .ok (.iconst 3, 1) := by decide +kernel
theorem d_law_125 : decode code 125 = .ok (.iadd, 1) := by decide +kernel
theorem d_law_126 : decode code 126 = .ok (.iaload, 1) := by decide +kernel
theorem d_law_127 : decode code 127 = .ok (.invokestatic 71, 3) := by decide +kernel
theorem d_law_130 : decode code 130 = .ok (.istore 5, 2) := by decide +kernel
theorem d_law_132 : decode code 132 = .ok (.aload_n 2, 1) := by decide +kernel
theorem d_law_133 : decode code 133 = .ok (.aload_n 0, 1) := by decide +kernel
theorem d_law_134 : decode code 134 = .ok (.iload 4, 2) := by decide +kernel
theorem d_law_136 : decode code 136 = .ok (.iconst 1, 1) := by decide +kernel
theorem d_law_137 : decode code 137 = .ok (.iadd, 1) := by decide +kernel
theorem d_law_138 : decode code 138 = .ok (.iaload, 1) := by decide +kernel
theorem d_law_139 : decode code 139 = .ok (.aload_n 0, 1) := by decide +kernel
theorem d_law_140 : decode code 140 = .ok (.iload 4, 2) := by decide +kernel
theorem d_law_142 : decode code 142 = .ok (.iconst 2, 1) := by decide +kernel
theorem d_law_143 : decode code 143 = .ok (.iadd, 1) := by decide +kernel
theorem d_law_144 : decode code 144 = .ok (.iaload, 1) := by decide +kernel
theorem d_law_145 : decode code 145 = .ok (.aload_n 0, 1) := by decide +kernel
theorem d_law_146 : decode code 146 = .ok (.iload 4, 2) := by decide +kernel
theorem d_law_148 : decode code 148 = .ok (.iconst 3, 1) := by decide +kernel
theorem d_law_149 : decode code 149 = .ok (.iadd, 1) := by decide +kernel
theorem d_law_150 : decode code 150 = .ok (.iaload, 1) := by decide +kernel
theorem d_law_151 : decode code 151 = .ok (.invokevirtual 76, 3) := by decide +kernel
theorem d_law_154 : decode code 154 = .ok (.aload_n 2, 1) := by decide +kernel
theorem d_law_155 : decode code 155 = .ok (.invokevirtual 77, 3) := by decide +kernel
theorem d_law_158 : decode code 158 = .ok (.iload 5, 2) := by decide +kernel
theorem d_law_160 : decode code 160 = .ok (.if_icmp .eq 5, 3) := by decide +kernel
theorem d_law_165 : decode code 165 = .ok (.goto 911, 3) := by decide +kernel
theorem d_law_168 : decode code 168 = .ok (.aload_n 1, 1) := by decide +kernel
theorem d_law_169 : decode code 169 = .ok (.aload_n 0, 1) := by decide +kernel
theorem d_law_170 : decode code 170 = .ok (.iload 4, 2) := by decide +kernel
theorem d_law_172 : decode code 172 = .ok (.iconst 1, 1) := by decide +kernel
theorem d_law_173 : decode code 173 = .ok (.iadd, 1) := by decide +kernel
theorem d_law_174 : decode code 174 = .ok (.iaload, 1) := by decide +kernel
theorem d_law_175 : decode code 175 = .ok (.aload_n 0, 1) := by decide +kernel
theorem d_law_176 : decode code 176 = .ok (.iload 4, 2) := by decide +kernel
theorem d_law_178 : decode code 178 = .ok (.iconst 2, 1) := by decide +kernel
theorem d_law_179 : decode code 179 = .ok (.iadd, 1) := by decide +kernel
theorem d_law_180 : decode code 180 = .ok (.iaload, 1) := by decide +kernel
theorem d_law_181 : decode code 181 = .ok (.aload_n 3, 1) := by decide +kernel
theorem d_law_182 : decode code 182 = .ok (.invokestatic 81, 3) := by decide +kernel
theorem d_law_185 : decode code 185 = .ok (.istore 5, 2) := by decide +kernel
theorem d_law_187 : decode code 187 = .ok (.aload_n 2, 1) := by decide +kernel
theorem d_law_188 : decode code 188 = .ok (.aload_n 0, 1) := by decide +kernel
theorem d_law_189 : decode code 189 = .ok (.iload 4, 2) := by decide +kernel
theorem d_law_191 : decode code 191 = .ok (.iconst 1, 1) := by decide +kernel
theorem d_law_192 : decode code 192 = .ok (.iadd, 1) := by decide +kernel
theorem d_law_193 : decode code 193 = .ok (.iaload, 1) := by decide +kernel
theorem d_law_194 : decode code 194 = .ok (.aload_n 0, 1) := by decide +kernel
theorem d_law_195 : decode code 195 = .ok (.iload 4, 2) := by decide +kernel
theorem d_law_197 : decode code 197 = .ok (.iconst 2, 1) := by decide +kernel
theorem d_law_198 : decode code 198 = .ok (.iadd, 1) := by decide +kernel
theorem d_law_199 : decode code 199 = .ok (.iaload, 1) := by decide +kernel
theorem d_law_200 : decode code 200 = .ok (.invokevirtual 84, 3) := by decide +kernel
theorem d_law_203 : decode code 203 = .ok (.lstore 6, 2) := by decide +kernel
theorem d_law_205 : decode code 205 = .ok (.aload_n 2, 1) := by decide +kernel
theorem d_law_206 : decode code 206 = .ok (.invokevirtual 77, 3) := by decide +kernel
theorem d_law_209 : decode code 209 = .ok (.iload 5, 2) := by decide +kernel
theorem d_law_211 : decode code 211 = .ok (.if_icmp .eq 5, 3) := by decide +kernel
theorem d_law_216 : decode code 216 = .ok (.iload 5, 2) := by decide +kernel
theorem d_law_218 : decode code 218 = .ok (.ifCond .ne 14, 3) := by decide +kernel
theorem d_law_232 : decode code 232 = .ok (.goto 844, 3) := by decide +kernel
theorem d_law_221 : decode code 221 = .ok (.aload_n 3, 1) := by decide +kernel
theorem d_law_222 : decode code 222 = .ok (.iconst 0, 1) := by decide +kernel
theorem d_law_223 : decode code 223 = .ok (.laload, 1) := by decide +kernel
theorem d_law_224 : decode code 224 = .ok (.lload 6, 2) := by decide +kernel
theorem d_law_226 : decode code 226 = .ok (.lcmp, 1) := by decide +kernel
theorem d_law_227 : decode code 227 = .ok (.ifCond .eq 5, 3) := by decide +kernel
theorem d_law_235 : decode code 235 = .ok (.aload_n 1, 1) := by decide +kernel
theorem d_law_236 : decode code 236 = .ok (.aload_n 0, 1) := by decide +kernel
theorem d_law_237 : decode code 237 = .ok (.iload 4, 2) := by decide +kernel
theorem d_law_239 : decode code 239 = .ok (.iconst 1, 1) := by decide +kernel
theorem d_law_240 : decode code 240 = .ok (.iadd, 1) := by decide +kernel
theorem d_law_241 : decode code 241 = .ok (.iaload, 1) := by decide +kernel
theorem d_law_242 : decode code 242 = .ok (.aload_n 0, 1) := by decide +kernel
theorem d_law_243 : decode code 243 = .ok (.iload 4, 2) := by decide +kernel
theorem d_law_245 : decode code 245 = .ok (.iconst 2, 1) := by decide +kernel
theorem d_law_246 : decode code 246 = .ok (.iadd, 1) := by decide +kernel
theorem d_law_247 : decode code 247 = .ok (.iaload, 1) := by decide +kernel
theorem d_law_248 : decode code 248 = .ok (.aload_n 0, 1) := by decide +kernel
theorem d_law_249 : decode code 249 = .ok (.iload 4, 2) := by decide +kernel
theorem d_law_251 : decode code 251 = .ok (.iconst 3, 1) := by decide +kernel
theorem d_law_252 : decode code 252 = .ok (.iadd, 1) := by decide +kernel
theorem d_law_253 : decode code 253 = .ok (.iaload, 1) := by decide +kernel
theorem d_law_254 : decode code 254 = .ok (.i2l, 1) := by decide +kernel
theorem d_law_255 : decode code 255 = .ok (.bipush 32, 2) := by decide +kernel
theorem d_law_257 : decode code 257 = .ok (.lshl, 1) := by decide +kernel
theorem d_law_258 : decode code 258 = .ok (.aload_n 0, 1) := by decide +kernel
theorem d_law_259 : decode code 259 = .ok (.iload 4, 2) := by decide +kernel
theorem d_law_261 : decode code 261 = .ok (.iconst 4, 1) := by decide +kernel
theorem d_law_262 : decode code 262 = .ok (.iadd, 1) := by decide +kernel
theorem d_law_263 : decode code 263 = .ok (.iaload, 1) := by decide +kernel
theorem d_law_264 : decode code 264 = .ok (.i2l, 1) := by decide +kernel
theorem d_law_265 : decode code 265 = .ok (.ldc2_w 85, 3) := by decide +kernel
theorem d_law_268 : decode code 268 = .ok (.land, 1) := by decide +kernel
theorem d_law_269 : decode code 269 = .ok (.lor, 1) := by decide +kernel
theorem d_law_270 : decode code 270 = .ok (.aload_n 3, 1) := by decide +kernel
theorem d_law_271 : decode code 271 = .ok (.invokestatic 87, 3) := by decide +kernel
theorem d_law_274 : decode code 274 = .ok (.istore 5, 2) := by decide +kernel
theorem d_law_276 : decode code 276 = .ok (.aload_n 2, 1) := by decide +kernel
theorem d_law_277 : decode code 277 = .ok (.aload_n 0, 1) := by decide +kernel
theorem d_law_278 : decode code 278 = .ok (.iload 4, 2) := by decide +kernel
theorem d_law_280 : decode code 280 = .ok (.iconst 1, 1) := by decide +kernel
theorem d_law_281 : decode code 281 = .ok (.iadd, 1) := by decide +kernel
theorem d_law_282 : decode code 282 = .ok (.iaload, 1) := by decide +kernel
theorem d_law_283 : decode code 283 = .ok (.aload_n 0, 1) := by decide +kernel
theorem d_law_284 : decode code 284 = .ok (.iload 4, 2) := by decide +kernel
theorem d_law_286 : decode code 286 = .ok (.iconst 2, 1) := by decide +kernel
theorem d_law_287 : decode code 287 = .ok (.iadd, 1) := by decide +kernel
theorem d_law_288 : decode code 288 = .ok (.iaload, 1) := by decide +kernel
theorem d_law_289 : decode code 289 = .ok (.aload_n 0, 1) := by decide +kernel
theorem d_law_290 : decode code 290 = .ok (.iload 4, 2) := by decide +kernel
theorem d_law_292 : decode code 292 = .ok (.iconst 3, 1) := by decide +kernel
theorem d_law_293 : decode code 293 = .ok (.iadd, 1) := by decide +kernel
theorem d_law_294 : decode code 294 = .ok (.iaload, 1) := by decide +kernel
theorem d_law_295 : decode code 295 = .ok (.i2l, 1) := by decide +kernel
theorem d_law_296 : decode code 296 = .ok (.bipush 32, 2) := by decide +kernel
theorem d_law_298 : decode code 298 = .ok (.lshl, 1) := by decide +kernel
theorem d_law_299 : decode code 299 = .ok (.aload_n 0, 1) := by decide +kernel
theorem d_law_300 : decode code 300 = .ok (.iload 4, 2) := by decide +kernel
theorem d_law_302 : decode code 302 = .ok (.iconst 4, 1) := by decide +kernel
theorem d_law_303 : decode code 303 = .ok (.iadd, 1) := by decide +kernel
theorem d_law_304 : decode code 304 = .ok (.iaload, 1) := by decide +kernel
theorem d_law_305 : decode code 305 = .ok (.i2l, 1) := by decide +kernel
theorem d_law_306 : decode code 306 = .ok (.ldc2_w 85, 3) := by decide +kernel
theorem d_law_309 : decode code 309 = .ok (.land, 1) := by decide +kernel
theorem d_law_310 : decode code 310 = .ok (.lor, 1) := by decide +kernel
theorem d_law_311 : decode code 311 = .ok (.invokevirtual 90, 3) := by decide +kernel
theorem d_law_314 : decode code 314 = .ok (.istore 6, 2) := by decide +kernel
theorem d_law_316 : decode code 316 = .ok (.aload_n 2, 1) := by decide +kernel
theorem d_law_317 : decode code 317 = .ok (.invokevirtual 77, 3) := by decide +kernel
theorem d_law_320 : decode code 320 = .ok (.iload 5, 2) := by decide +kernel
theorem d_law_322 : decode code 322 = .ok (.if_icmp .eq 5, 3) := by decide +kernel
theorem d_law_327 : decode code 327 = .ok (.iload 5, 2) := by decide +kernel
theorem d_law_329 : decode code 329 = .ok (.ifCond .ne 15, 3) := by decide +kernel
theorem d_law_344 : decode code 344 = .ok (.goto 732, 3) := by decide +kernel
theorem d_law_332 : decode code 332 = .ok (.aload_n 3, 1) := by decide +kernel
theorem d_law_333 : decode code 333 = .ok (.iconst 0, 1) := by decide +kernel
theorem d_law_334 : decode code 334 = .ok (.laload, 1) := by decide +kernel
theorem d_law_335 : decode code 335 = .ok (.iload 6, 2) := by decide +kernel
theorem d_law_337 : decode code 337 = .ok (.i2l, 1) := by decide +kernel
theorem d_law_338 : decode code 338 = .ok (.lcmp, 1) := by decide +kernel
theorem d_law_339 : decode code 339 = .ok (.ifCond .eq 5, 3) := by decide +kernel
theorem d_law_347 : decode code 347 = .ok (.aload_n 1, 1) := by decide +kernel
theorem d_law_348 : decode code 348 = .ok (.aload_n 0, 1) := by decide +kernel
theorem d_law_349 : decode code 349 = .ok (.iload 4, 2) := by decide +kernel
theorem d_law_351 : decode code 351 = .ok (.iconst 1, 1) := by decide +kernel
theorem d_law_352 : decode code 352 = .ok (.iadd, 1) := by decide +kernel
theorem d_law_353 : decode code 353 = .ok (.iaload, 1) := by decide +kernel
theorem d_law_354 : decode code 354 = .ok (.aload_n 0, 1) := by decide +kernel
theorem d_law_355 : decode code 355 = .ok (.iload 4, 2) := by decide +kernel
theorem d_law_357 : decode code 357 = .ok (.iconst 2, 1) := by decide +kernel
theorem d_law_358 : decode code 358 = .ok (.iadd, 1) := by decide +kernel
theorem d_law_359 : decode code 359 = .ok (.iaload, 1) := by decide +kernel
theorem d_law_360 : decode code 360 = .ok (.aload_n 3, 1) := by decide +kernel
theorem d_law_361 : decode code 361 = .ok (.invokestatic 91, 3) := by decide +kernel
theorem d_law_364 : decode code 364 = .ok (.istore 5, 2) := by decide +kernel
theorem d_law_366 : decode code 366 = .ok (.aload_n 2, 1) := by decide +kernel
theorem d_law_367 : decode code 367 = .ok (.aload_n 0, 1) := by decide +kernel
theorem d_law_368 : decode code 368 = .ok (.iload 4, 2) := by decide +kernel
theorem d_law_370 : decode code 370 = .ok (.iconst 1, 1) := by decide +kernel
theorem d_law_371 : decode code 371 = .ok (.iadd, 1) := by decide +kernel
theorem d_law_372 : decode code 372 = .ok (.iaload, 1) := by decide +kernel
theorem d_law_373 : decode code 373 = .ok (.aload_n 0, 1) := by decide +kernel
theorem d_law_374 : decode code 374 = .ok (.iload 4, 2) := by decide +kernel
theorem d_law_376 : decode code 376 = .ok (.iconst 2, 1) := by decide +kernel
theorem d_law_377 : decode code 377 = .ok (.iadd, 1) := by decide +kernel
theorem d_law_378 : decode code 378 = .ok (.iaload, 1) := by decide +kernel
theorem d_law_379 : decode code 379 = .ok (.invokevirtual 93, 3) := by decide +kernel
theorem d_law_382 : decode code 382 = .ok (.istore 6, 2) := by decide +kernel
theorem d_law_384 : decode code 384 = .ok (.aload_n 2, 1) := by decide +kernel
theorem d_law_385 : decode code 385 = .ok (.invokevirtual 77, 3) := by decide +kernel
theorem d_law_388 : decode code 388 = .ok (.iload 5, 2) := by decide +kernel
theorem d_law_390 : decode code 390 = .ok (.if_icmp .eq 5, 3) := by decide +kernel
theorem d_law_395 : decode code 395 = .ok (.iload 5, 2) := by decide +kernel
theorem d_law_397 : decode code 397 = .ok (.ifCond .ne 15, 3) := by decide +kernel
theorem d_law_412 : decode code 412 = .ok (.goto 664, 3) := by decide +kernel
theorem d_law_400 : decode code 400 = .ok (.aload_n 3, 1) := by decide +kernel
theorem d_law_401 : decode code 401 = .ok (.iconst 0, 1) := by decide +kernel
theorem d_law_402 : decode code 402 = .ok (.laload, 1) := by decide +kernel
theorem d_law_403 : decode code 403 = .ok (.iload 6, 2) := by decide +kernel
theorem d_law_405 : decode code 405 = .ok (.i2l, 1) := by decide +kernel
theorem d_law_406 : decode code 406 = .ok (.lcmp, 1) := by decide +kernel
theorem d_law_407 : decode code 407 = .ok (.ifCond .eq 5, 3) := by decide +kernel
theorem d_law_415 : decode code 415 = .ok (.aload_n 1, 1) := by decide +kernel
theorem d_law_416 : decode code 416 = .ok (.aload_n 0, 1) := by decide +kernel
theorem d_law_417 : decode code 417 = .ok (.iload 4, 2) := by decide +kernel
theorem d_law_419 : decode code 419 = .ok (.iconst 1, 1) := by decide +kernel
theorem d_law_420 : decode code 420 = .ok (.iadd, 1) := by decide +kernel
theorem d_law_421 : decode code 421 = .ok (.iaload, 1) := by decide +kernel
theorem d_law_422 : decode code 422 = .ok (.aload_n 0, 1) := by decide +kernel
theorem d_law_423 : decode code 423 = .ok (.iload 4, 2) := by decide +kernel
theorem d_law_425 : decode code 425 = .ok (.iconst 2, 1) := by decide +kernel
theorem d_law_426 : decode code 426 = .ok (.iadd, 1) := by decide +kernel
theorem d_law_427 : decode code 427 = .ok (.iaload, 1) := by decide +kernel
theorem d_law_428 : decode code 428 = .ok (.aload_n 0, 1) := by decide +kernel
theorem d_law_429 : decode code 429 = .ok (.iload 4, 2) := by decide +kernel
theorem d_law_431 : decode code 431 = .ok (.iconst 3, 1) := by decide +kernel
theorem d_law_432 : decode code 432 = .ok (.iadd, 1) := by decide +kernel
theorem d_law_433 : decode code 433 = .ok (.iaload, 1) := by decide +kernel
theorem d_law_434 : decode code 434 = .ok (.aload_n 0, 1) := by decide +kernel
theorem d_law_435 : decode code 435 = .ok (.iload 4, 2) := by decide +kernel
theorem d_law_437 : decode code 437 = .ok (.iconst 4, 1) := by decide +kernel
theorem d_law_438 : decode code 438 = .ok (.iadd, 1) := by decide +kernel
theorem d_law_439 : decode code 439 = .ok (.iaload, 1) := by decide +kernel
theorem d_law_440 : decode code 440 = .ok (.aload_n 3, 1) := by decide +kernel
theorem d_law_441 : decode code 441 = .ok (.invokestatic 94, 3) := by decide +kernel
theorem d_law_444 : decode code 444 = .ok (.istore 5, 2) := by decide +kernel
theorem d_law_446 : decode code 446 = .ok (.aload_n 2, 1) := by decide +kernel
theorem d_law_447 : decode code 447 = .ok (.aload_n 0, 1) := by decide +kernel
theorem d_law_448 : decode code 448 = .ok (.iload 4, 2) := by decide +kernel
theorem d_law_450 : decode code 450 = .ok (.iconst 1, 1) := by decide +kernel
theorem d_law_451 : decode code 451 = .ok (.iadd, 1) := by decide +kernel
theorem d_law_452 : decode code 452 = .ok (.iaload, 1) := by decide +kernel
theorem d_law_453 : decode code 453 = .ok (.aload_n 0, 1) := by decide +kernel
theorem d_law_454 : decode code 454 = .ok (.iload 4, 2) := by decide +kernel
theorem d_law_456 : decode code 456 = .ok (.iconst 2, 1) := by decide +kernel
theorem d_law_457 : decode code 457 = .ok (.iadd, 1) := by decide +kernel
theorem d_law_458 : decode code 458 = .ok (.iaload, 1) := by decide +kernel
theorem d_law_459 : decode code 459 = .ok (.aload_n 0, 1) := by decide +kernel
theorem d_law_460 : decode code 460 = .ok (.iload 4, 2) := by decide +kernel
theorem d_law_462 : decode code 462 = .ok (.iconst 3, 1) := by decide +kernel
theorem d_law_463 : decode code 463 = .ok (.iadd, 1) := by decide +kernel
theorem d_law_464 : decode code 464 = .ok (.iaload, 1) := by decide +kernel
theorem d_law_465 : decode code 465 = .ok (.aload_n 0, 1) := by decide +kernel
theorem d_law_466 : decode code 466 = .ok (.iload 4, 2) := by decide +kernel
theorem d_law_468 : decode code 468 = .ok (.iconst 4, 1) := by decide +kernel
theorem d_law_469 : decode code 469 = .ok (.iadd, 1) := by decide +kernel
theorem d_law_470 : decode code 470 = .ok (.iaload, 1) := by decide +kernel
theorem d_law_471 : decode code 471 = .ok (.invokevirtual 97, 3) := by decide +kernel
theorem d_law_474 : decode code 474 = .ok (.lstore 6, 2) := by decide +kernel
theorem d_law_476 : decode code 476 = .ok (.aload_n 2, 1) := by decide +kernel
theorem d_law_477 : decode code 477 = .ok (.invokevirtual 77, 3) := by decide +kernel
theorem d_law_480 : decode code 480 = .ok (.iload 5, 2) := by decide +kernel
theorem d_law_482 : decode code 482 = .ok (.if_icmp .eq 5, 3) := by decide +kernel
theorem d_law_487 : decode code 487 = .ok (.iload 5, 2) := by decide +kernel
theorem d_law_489 : decode code 489 = .ok (.ifCond .ne 14, 3) := by decide +kernel
theorem d_law_503 : decode code 503 = .ok (.goto 573, 3) := by decide +kernel
theorem d_law_492 : decode code 492 = .ok (.aload_n 3, 1) := by decide +kernel
theorem d_law_493 : decode code 493 = .ok (.iconst 0, 1) := by decide +kernel
theorem d_law_494 : decode code 494 = .ok (.laload, 1) := by decide +kernel
theorem d_law_495 : decode code 495 = .ok (.lload 6, 2) := by decide +kernel
theorem d_law_497 : decode code 497 = .ok (.lcmp, 1) := by decide +kernel
theorem d_law_498 : decode code 498 = .ok (.ifCond .eq 5, 3) := by decide +kernel
theorem d_law_506 : decode code 506 = .ok (.aload_n 1, 1) := by decide +kernel
theorem d_law_507 : decode code 507 = .ok (.aload_n 0, 1) := by decide +kernel
theorem d_law_508 : decode code 508 = .ok (.iload 4, 2) := by decide +kernel
theorem d_law_510 : decode code 510 = .ok (.iconst 1, 1) := by decide +kernel
theorem d_law_511 : decode code 511 = .ok (.iadd, 1) := by decide +kernel
theorem d_law_512 : decode code 512 = .ok (.iaload, 1) := by decide +kernel
theorem d_law_513 : decode code 513 = .ok (.aload_n 3, 1) := by decide +kernel
theorem d_law_514 : decode code 514 = .ok (.invokestatic 98, 3) := by decide +kernel
theorem d_law_517 : decode code 517 = .ok (.istore 5, 2) := by decide +kernel
theorem d_law_519 : decode code 519 = .ok (.aload_n 2, 1) := by decide +kernel
theorem d_law_520 : decode code 520 = .ok (.aload_n 0, 1) := by decide +kernel
theorem d_law_521 : decode code 521 = .ok (.iload 4, 2) := by decide +kernel
theorem d_law_523 : decode code 523 = .ok (.iconst 1, 1) := by decide +kernel
theorem d_law_524 : decode code 524 = .ok (.iadd, 1) := by decide +kernel
theorem d_law_525 : decode code 525 = .ok (.iaload, 1) := by decide +kernel
theorem d_law_526 : decode code 526 = .ok (.invokevirtual 101, 3) := by decide +kernel
theorem d_law_529 : decode code 529 = .ok (.istore 6, 2) := by decide +kernel
theorem d_law_531 : decode code 531 = .ok (.aload_n 2, 1) := by decide +kernel
theorem d_law_532 : decode code 532 = .ok (.invokevirtual 77, 3) := by decide +kernel
theorem d_law_535 : decode code 535 = .ok (.iload 5, 2) := by decide +kernel
theorem d_law_537 : decode code 537 = .ok (.if_icmp .eq 5, 3) := by decide +kernel
theorem d_law_542 : decode code 542 = .ok (.iload 5, 2) := by decide +kernel
theorem d_law_544 : decode code 544 = .ok (.ifCond .ne 15, 3) := by decide +kernel
theorem d_law_559 : decode code 559 = .ok (.goto 517, 3) := by decide +kernel
theorem d_law_547 : decode code 547 = .ok (.aload_n 3, 1) := by decide +kernel
theorem d_law_548 : decode code 548 = .ok (.iconst 0, 1) := by decide +kernel
theorem d_law_549 : decode code 549 = .ok (.laload, 1) := by decide +kernel
theorem d_law_550 : decode code 550 = .ok (.iload 6, 2) := by decide +kernel
theorem d_law_552 : decode code 552 = .ok (.i2l, 1) := by decide +kernel
theorem d_law_553 : decode code 553 = .ok (.lcmp, 1) := by decide +kernel
theorem d_law_554 : decode code 554 = .ok (.ifCond .eq 5, 3) := by decide +kernel
theorem d_law_562 : decode code 562 = .ok (.aload_n 1, 1) := by decide +kernel
theorem d_law_563 : decode code 563 = .ok (.aload_n 0, 1) := by decide +kernel
theorem d_law_564 : decode code 564 = .ok (.iload 4, 2) := by decide +kernel
theorem d_law_566 : decode code 566 = .ok (.iconst 1, 1) := by decide +kernel
theorem d_law_567 : decode code 567 = .ok (.iadd, 1) := by decide +kernel
theorem d_law_568 : decode code 568 = .ok (.iaload, 1) := by decide +kernel
theorem d_law_569 : decode code 569 = .ok (.invokestatic 102, 3) := by decide +kernel
theorem d_law_572 : decode code 572 = .ok (.istore 5, 2) := by decide +kernel
theorem d_law_574 : decode code 574 = .ok (.aload_n 2, 1) := by decide +kernel
theorem d_law_575 : decode code 575 = .ok (.aload_n 0, 1) := by decide +kernel
theorem d_law_576 : decode code 576 = .ok (.iload 4, 2) := by decide +kernel
theorem d_law_578 : decode code 578 = .ok (.iconst 1, 1) := by decide +kernel
theorem d_law_579 : decode code 579 = .ok (.iadd, 1) := by decide +kernel
theorem d_law_580 : decode code 580 = .ok (.iaload, 1) := by decide +kernel
theorem d_law_581 : decode code 581 = .ok (.invokevirtual 105, 3) := by decide +kernel
theorem d_law_584 : decode code 584 = .ok (.aload_n 2, 1) := by decide +kernel
theorem d_law_585 : decode code 585 = .ok (.invokevirtual 77, 3) := by decide +kernel
theorem d_law_588 : decode code 588 = .ok (.iload 5, 2) := by decide +kernel
theorem d_law_590 : decode code 590 = .ok (.if_icmp .eq 5, 3) := by decide +kernel
theorem d_law_595 : decode code 595 = .ok (.goto 481, 3) := by decide +kernel
theorem d_law_598 : decode code 598 = .ok (.aload_n 1, 1) := by decide +kernel
theorem d_law_599 : decode code 599 = .ok (.aload_n 0, 1) := by decide +kernel
theorem d_law_600 : decode code 600 = .ok (.iload 4, 2) := by decide +kernel
theorem d_law_602 : decode code 602 = .ok (.iconst 1, 1) := by decide +kernel
theorem d_law_603 : decode code 603 = .ok (.iadd, 1) := by decide +kernel
theorem d_law_604 : decode code 604 = .ok (.iaload, 1) := by decide +kernel
theorem d_law_605 : decode code 605 = .ok (.aload_n 0, 1) := by decide +kernel
theorem d_law_606 : decode code 606 = .ok (.iload 4, 2) := by decide +kernel
theorem d_law_608 : decode code 608 = .ok (.iconst 2, 1) := by decide +kernel
theorem d_law_609 : decode code 609 = .ok (.iadd, 1) := by decide +kernel
theorem d_law_610 : decode code 610 = .ok (.iaload, 1) := by decide +kernel
theorem d_law_611 : decode code 611 = .ok (.aload_n 3, 1) := by decide +kernel
theorem d_law_612 : decode code 612 = .ok (.invokestatic 106, 3) := by decide +kernel
theorem d_law_615 : decode code 615 = .ok (.istore 5, 2) := by decide +kernel
theorem d_law_617 : decode code 617 = .ok (.aload_n 2, 1) := by decide +kernel
theorem d_law_618 : decode code 618 = .ok (.aload_n 0, 1) := by decide +kernel
theorem d_law_619 : decode code 619 = .ok (.iload 4, 2) := by decide +kernel
theorem d_law_621 : decode code 621 = .ok (.iconst 1, 1) := by decide +kernel
theorem d_law_622 : decode code 622 = .ok (.iadd, 1) := by decide +kernel
theorem d_law_623 : decode code 623 = .ok (.iaload, 1) := by decide +kernel
theorem d_law_624 : decode code 624 = .ok (.aload_n 0, 1) := by decide +kernel
theorem d_law_625 : decode code 625 = .ok (.iload 4, 2) := by decide +kernel
theorem d_law_627 : decode code 627 = .ok (.iconst 2, 1) := by decide +kernel
theorem d_law_628 : decode code 628 = .ok (.iadd, 1) := by decide +kernel
theorem d_law_629 : decode code 629 = .ok (.iaload, 1) := by decide +kernel
theorem d_law_630 : decode code 630 = .ok (.invokevirtual 108, 3) := by decide +kernel
theorem d_law_633 : decode code 633 = .ok (.istore 6, 2) := by decide +kernel
theorem d_law_635 : decode code 635 = .ok (.aload_n 2, 1) := by decide +kernel
theorem d_law_636 : decode code 636 = .ok (.invokevirtual 77, 3) := by decide +kernel
theorem d_law_639 : decode code 639 = .ok (.iload 5, 2) := by decide +kernel
theorem d_law_641 : decode code 641 = .ok (.if_icmp .eq 5, 3) := by decide +kernel
theorem d_law_646 : decode code 646 = .ok (.iload 5, 2) := by decide +kernel
theorem d_law_648 : decode code 648 = .ok (.ifCond .ne 15, 3) := by decide +kernel
theorem d_law_663 : decode code 663 = .ok (.goto 413, 3) := by decide +kernel
theorem d_law_651 : decode code 651 = .ok (.aload_n 3, 1) := by decide +kernel
theorem d_law_652 : decode code 652 = .ok (.iconst 0, 1) := by decide +kernel
theorem d_law_653 : decode code 653 = .ok (.laload, 1) := by decide +kernel
theorem d_law_654 : decode code 654 = .ok (.iload 6, 2) := by decide +kernel
theorem d_law_656 : decode code 656 = .ok (.i2l, 1) := by decide +kernel
theorem d_law_657 : decode code 657 = .ok (.lcmp, 1) := by decide +kernel
theorem d_law_658 : decode code 658 = .ok (.ifCond .eq 5, 3) := by decide +kernel
theorem d_law_666 : decode code 666 = .ok (.aload_n 1, 1) := by decide +kernel
theorem d_law_667 : decode code 667 = .ok (.aload_n 0, 1) := by decide +kernel
theorem d_law_668 : decode code 668 = .ok (.iload 4, 2) := by decide +kernel
theorem d_law_670 : decode code 670 = .ok (.iconst 1, 1) := by decide +kernel
theorem d_law_671 : decode code 671 = .ok (.iadd, 1) := by decide +kernel
theorem d_law_672 : decode code 672 = .ok (.iaload, 1) := by decide +kernel
theorem d_law_673 : decode code 673 = .ok (.invokestatic 109, 3) := by decide +kernel
theorem d_law_676 : decode code 676 = .ok (.istore 5, 2) := by decide +kernel
theorem d_law_678 : decode code 678 = .ok (.aload_n 2, 1) := by decide +kernel
theorem d_law_679 : decode code 679 = .ok (.aload_n 0, 1) := by decide +kernel
theorem d_law_680 : decode code 680 = .ok (.iload 4, 2) := by decide +kernel
theorem d_law_682 : decode code 682 = .ok (.iconst 1, 1) := by decide +kernel
theorem d_law_683 : decode code 683 = .ok (.iadd, 1) := by decide +kernel
theorem d_law_684 : decode code 684 = .ok (.iaload, 1) := by decide +kernel
theorem d_law_685 : decode code 685 = .ok (.invokevirtual 111, 3) := by decide +kernel
theorem d_law_688 : decode code 688 = .ok (.aload_n 2, 1) := by decide +kernel
theorem d_law_689 : decode code 689 = .ok (.invokevirtual 77, 3) := by decide +kernel
theorem d_law_692 : decode code 692 = .ok (.iload 5, 2) := by decide +kernel
theorem d_law_694 : decode code 694 = .ok (.if_icmp .eq 5, 3) := by decide +kernel
theorem d_law_699 : decode code 699 = .ok (.goto 377, 3) := by decide +kernel
theorem d_law_702 : decode code 702 = .ok (.aload_n 1, 1) := by decide +kernel
theorem d_law_703 : decode code 703 = .ok (.aload_n 0, 1) := by decide +kernel
theorem d_law_704 : decode code 704 = .ok (.iload 4, 2) := by decide +kernel
theorem d_law_706 : decode code 706 = .ok (.iconst 1, 1) := by decide +kernel
theorem d_law_707 : decode code 707 = .ok (.iadd, 1) := by decide +kernel
theorem d_law_708 : decode code 708 = .ok (.iaload, 1) := by decide +kernel
theorem d_law_709 : decode code 709 = .ok (.aload_n 0, 1) := by decide +kernel
theorem d_law_710 : decode code 710 = .ok (.iload 4, 2) := by decide +kernel
theorem d_law_712 : decode code 712 = .ok (.iconst 2, 1) := by decide +kernel
theorem d_law_713 : decode code 713 = .ok (.iadd, 1) := by decide +kernel
theorem d_law_714 : decode code 714 = .ok (.iaload, 1) := by decide +kernel
theorem d_law_715 : decode code 715 = .ok (.aload_n 3, 1) := by decide +kernel
theorem d_law_716 : decode code 716 = .ok (.invokestatic 112, 3) := by decide +kernel
theorem d_law_719 : decode code 719 = .ok (.istore 5, 2) := by decide +kernel
theorem d_law_721 : decode code 721 = .ok (.aload_n 2, 1) := by decide +kernel
theorem d_law_722 : decode code 722 = .ok (.aload_n 0, 1) := by decide +kernel
theorem d_law_723 : decode code 723 = .ok (.iload 4, 2) := by decide +kernel
theorem d_law_725 : decode code 725 = .ok (.iconst 1, 1) := by decide +kernel
theorem d_law_726 : decode code 726 = .ok (.iadd, 1) := by decide +kernel
theorem d_law_727 : decode code 727 = .ok (.iaload, 1) := by decide +kernel
theorem d_law_728 : decode code 728 = .ok (.aload_n 0, 1) := by decide +kernel
theorem d_law_729 : decode code 729 = .ok (.iload 4, 2) := by decide +kernel
theorem d_law_731 : decode code 731 = .ok (.iconst 2, 1) := by decide +kernel
theorem d_law_732 : decode code 732 = .ok (.iadd, 1) := by decide +kernel
theorem d_law_733 : decode code 733 = .ok (.iaload, 1) := by decide +kernel
theorem d_law_734 : decode code 734 = .ok (.invokevirtual 114, 3) := by decide +kernel
theorem d_law_737 : decode code 737 = .ok (.lstore 6, 2) := by decide +kernel
theorem d_law_739 : decode code 739 = .ok (.aload_n 2, 1) := by decide +kernel
theorem d_law_740 : decode code 740 = .ok (.invokevirtual 77, 3) := by decide +kernel
theorem d_law_743 : decode code 743 = .ok (.iload 5, 2) := by decide +kernel
theorem d_law_745 : decode code 745 = .ok (.if_icmp .eq 5, 3) := by decide +kernel
theorem d_law_750 : decode code 750 = .ok (.iload 5, 2) := by decide +kernel
theorem d_law_752 : decode code 752 = .ok (.ifCond .ne 14, 3) := by decide +kernel
theorem d_law_766 : decode code 766 = .ok (.goto 310, 3) := by decide +kernel
theorem d_law_755 : decode code 755 = .ok (.aload_n 3, 1) := by decide +kernel
theorem d_law_756 : decode code 756 = .ok (.iconst 0, 1) := by decide +kernel
theorem d_law_757 : decode code 757 = .ok (.laload, 1) := by decide +kernel
theorem d_law_758 : decode code 758 = .ok (.lload 6, 2) := by decide +kernel
theorem d_law_760 : decode code 760 = .ok (.lcmp, 1) := by decide +kernel
theorem d_law_761 : decode code 761 = .ok (.ifCond .eq 5, 3) := by decide +kernel
theorem d_law_769 : decode code 769 = .ok (.aload_n 1, 1) := by decide +kernel
theorem d_law_770 : decode code 770 = .ok (.aload_n 0, 1) := by decide +kernel
theorem d_law_771 : decode code 771 = .ok (.iload 4, 2) := by decide +kernel
theorem d_law_773 : decode code 773 = .ok (.iconst 1, 1) := by decide +kernel
theorem d_law_774 : decode code 774 = .ok (.iadd, 1) := by decide +kernel
theorem d_law_775 : decode code 775 = .ok (.iaload, 1) := by decide +kernel
theorem d_law_776 : decode code 776 = .ok (.aload_n 0, 1) := by decide +kernel
theorem d_law_777 : decode code 777 = .ok (.iload 4, 2) := by decide +kernel
theorem d_law_779 : decode code 779 = .ok (.iconst 2, 1) := by decide +kernel
theorem d_law_780 : decode code 780 = .ok (.iadd, 1) := by decide +kernel
theorem d_law_781 : decode code 781 = .ok (.iaload, 1) := by decide +kernel
theorem d_law_782 : decode code 782 = .ok (.aload_n 0, 1) := by decide +kernel
theorem d_law_783 : decode code 783 = .ok (.iload 4, 2) := by decide +kernel
theorem d_law_785 : decode code 785 = .ok (.iconst 3, 1) := by decide +kernel
theorem d_law_786 : decode code 786 = .ok (.iadd, 1) := by decide +kernel
theorem d_law_787 : decode code 787 = .ok (.iaload, 1) := by decide +kernel
theorem d_law_788 : decode code 788 = .ok (.aload_n 0, 1) := by decide +kernel
theorem d_law_789 : decode code 789 = .ok (.iload 4, 2) := by decide +kernel
theorem d_law_791 : decode code 791 = .ok (.iconst 4, 1) := by decide +kernel
theorem d_law_792 : decode code 792 = .ok (.iadd, 1) := by decide +kernel
theorem d_law_793 : decode code 793 = .ok (.iaload, 1) := by decide +kernel
theorem d_law_794 : decode code 794 = .ok (.aload_n 3, 1) := by decide +kernel
theorem d_law_795 : decode code 795 = .ok (.invokestatic 115, 3) := by decide +kernel
theorem d_law_798 : decode code 798 = .ok (.istore 5, 2) := by decide +kernel
theorem d_law_800 : decode code 800 = .ok (.aload_n 2, 1) := by decide +kernel
theorem d_law_801 : decode code 801 = .ok (.aload_n 0, 1) := by decide +kernel
theorem d_law_802 : decode code 802 = .ok (.iload 4, 2) := by decide +kernel
theorem d_law_804 : decode code 804 = .ok (.iconst 1, 1) := by decide +kernel
theorem d_law_805 : decode code 805 = .ok (.iadd, 1) := by decide +kernel
theorem d_law_806 : decode code 806 = .ok (.iaload, 1) := by decide +kernel
theorem d_law_807 : decode code 807 = .ok (.aload_n 0, 1) := by decide +kernel
theorem d_law_808 : decode code 808 = .ok (.iload 4, 2) := by decide +kernel
theorem d_law_810 : decode code 810 = .ok (.iconst 2, 1) := by decide +kernel
theorem d_law_811 : decode code 811 = .ok (.iadd, 1) := by decide +kernel
theorem d_law_812 : decode code 812 = .ok (.iaload, 1) := by decide +kernel
theorem d_law_813 : decode code 813 = .ok (.aload_n 0, 1) := by decide +kernel
theorem d_law_814 : decode code 814 = .ok (.iload 4, 2) := by decide +kernel
theorem d_law_816 : decode code 816 = .ok (.iconst 3, 1) := by decide +kernel
theorem d_law_817 : decode code 817 = .ok (.iadd, 1) := by decide +kernel
theorem d_law_818 : decode code 818 = .ok (.iaload, 1) := by decide +kernel
theorem d_law_819 : decode code 819 = .ok (.aload_n 0, 1) := by decide +kernel
theorem d_law_820 : decode code 820 = .ok (.iload 4, 2) := by decide +kernel
theorem d_law_822 : decode code 822 = .ok (.iconst 4, 1) := by decide +kernel
theorem d_law_823 : decode code 823 = .ok (.iadd, 1) := by decide +kernel
theorem d_law_824 : decode code 824 = .ok (.iaload, 1) := by decide +kernel
theorem d_law_825 : decode code 825 = .ok (.invokevirtual 117, 3) := by decide +kernel
theorem d_law_828 : decode code 828 = .ok (.lstore 6, 2) := by decide +kernel
theorem d_law_830 : decode code 830 = .ok (.aload_n 2, 1) := by decide +kernel
theorem d_law_831 : decode code 831 = .ok (.invokevirtual 77, 3) := by decide +kernel
theorem d_law_834 : decode code 834 = .ok (.iload 5, 2) := by decide +kernel
theorem d_law_836 : decode code 836 = .ok (.if_icmp .eq 5, 3) := by decide +kernel
theorem d_law_841 : decode code 841 = .ok (.iload 5, 2) := by decide +kernel
theorem d_law_843 : decode code 843 = .ok (.ifCond .ne 14, 3) := by decide +kernel
theorem d_law_857 : decode code 857 = .ok (.goto 219, 3) := by decide +kernel
theorem d_law_846 : decode code 846 = .ok (.aload_n 3, 1) := by decide +kernel
theorem d_law_847 : decode code 847 = .ok (.iconst 0, 1) := by decide +kernel
theorem d_law_848 : decode code 848 = .ok (.laload, 1) := by decide +kernel
theorem d_law_849 : decode code 849 = .ok (.lload 6, 2) := by decide +kernel
theorem d_law_851 : decode code 851 = .ok (.lcmp, 1) := by decide +kernel
theorem d_law_852 : decode code 852 = .ok (.ifCond .eq 5, 3) := by decide +kernel
theorem d_law_860 : decode code 860 = .ok (.aload_n 1, 1) := by decide +kernel
theorem d_law_861 : decode code 861 = .ok (.aload_n 0, 1) := by decide +kernel
theorem d_law_862 : decode code 862 = .ok (.iload 4, 2) := by decide +kernel
theorem d_law_864 : decode code 864 = .ok (.iconst 1, 1) := by decide +kernel
theorem d_law_865 : decode code 865 = .ok (.iadd, 1) := by decide +kernel
theorem d_law_866 : decode code 866 = .ok (.iaload, 1) := by decide +kernel
theorem d_law_867 : decode code 867 = .ok (.aload_n 0, 1) := by decide +kernel
theorem d_law_868 : decode code 868 = .ok (.iload 4, 2) := by decide +kernel
theorem d_law_870 : decode code 870 = .ok (.iconst 2, 1) := by decide +kernel
theorem d_law_871 : decode code 871 = .ok (.iadd, 1) := by decide +kernel
theorem d_law_872 : decode code 872 = .ok (.iaload, 1) := by decide +kernel
theorem d_law_873 : decode code 873 = .ok (.aload_n 3, 1) := by decide +kernel
theorem d_law_874 : decode code 874 = .ok (.invokestatic 118, 3) := by decide +kernel
theorem d_law_877 : decode code 877 = .ok (.istore 5, 2) := by decide +kernel
theorem d_law_879 : decode code 879 = .ok (.aload_n 2, 1) := by decide +kernel
theorem d_law_880 : decode code 880 = .ok (.aload_n 0, 1) := by decide +kernel
theorem d_law_881 : decode code 881 = .ok (.iload 4, 2) := by decide +kernel
theorem d_law_883 : decode code 883 = .ok (.iconst 1, 1) := by decide +kernel
theorem d_law_884 : decode code 884 = .ok (.iadd, 1) := by decide +kernel
theorem d_law_885 : decode code 885 = .ok (.iaload, 1) := by decide +kernel
theorem d_law_886 : decode code 886 = .ok (.aload_n 0, 1) := by decide +kernel
theorem d_law_887 : decode code 887 = .ok (.iload 4, 2) := by decide +kernel
theorem d_law_889 : decode code 889 = .ok (.iconst 2, 1) := by decide +kernel
theorem d_law_890 : decode code 890 = .ok (.iadd, 1) := by decide +kernel
theorem d_law_891 : decode code 891 = .ok (.iaload, 1) := by decide +kernel
theorem d_law_892 : decode code 892 = .ok (.invokevirtual 120, 3) := by decide +kernel
theorem d_law_895 : decode code 895 = .ok (.istore 6, 2) := by decide +kernel
theorem d_law_897 : decode code 897 = .ok (.aload_n 2, 1) := by decide +kernel
theorem d_law_898 : decode code 898 = .ok (.invokevirtual 77, 3) := by decide +kernel
theorem d_law_901 : decode code 901 = .ok (.iload 5, 2) := by decide +kernel
theorem d_law_903 : decode code 903 = .ok (.if_icmp .eq 5, 3) := by decide +kernel
theorem d_law_908 : decode code 908 = .ok (.iload 5, 2) := by decide +kernel
theorem d_law_910 : decode code 910 = .ok (.ifCond .ne 15, 3) := by decide +kernel
theorem d_law_925 : decode code 925 = .ok (.goto 151, 3) := by decide +kernel
theorem d_law_913 : decode code 913 = .ok (.aload_n 3, 1) := by decide +kernel
theorem d_law_914 : decode code 914 = .ok (.iconst 0, 1) := by decide +kernel
theorem d_law_915 : decode code 915 = .ok (.laload, 1) := by decide +kernel
theorem d_law_916 : decode code 916 = .ok (.iload 6, 2) := by decide +kernel
theorem d_law_918 : decode code 918 = .ok (.i2l, 1) := by decide +kernel
theorem d_law_919 : decode code 919 = .ok (.lcmp, 1) := by decide +kernel
theorem d_law_920 : decode code 920 = .ok (.ifCond .eq 5, 3) := by decide +kernel
theorem d_law_928 : decode code 928 = .ok (.aload_n 1, 1) := by decide +kernel
theorem d_law_929 : decode code 929 = .ok (.aload_n 0, 1) := by decide +kernel
theorem d_law_930 : decode code 930 = .ok (.iload 4, 2) := by decide +kernel
theorem d_law_932 : decode code 932 = .ok (.iconst 1, 1) := by decide +kernel
theorem d_law_933 : decode code 933 = .ok (.iadd, 1) := by decide +kernel
theorem d_law_934 : decode code 934 = .ok (.iaload, 1) := by decide +kernel
theorem d_law_935 : decode code 935 = .ok (.aload_n 0, 1) := by decide +kernel
theorem d_law_936 : decode code 936 = .ok (.iload 4, 2) := by decide +kernel
theorem d_law_938 : decode code 938 = .ok (.iconst 2, 1) := by decide +kernel
theorem d_law_939 : decode code 939 = .ok (.iadd, 1) := by decide +kernel
theorem d_law_940 : decode code 940 = .ok (.iaload, 1) := by decide +kernel
theorem d_law_941 : decode code 941 = .ok (.aload_n 3, 1) := by decide +kernel
theorem d_law_942 : decode code 942 = .ok (.invokestatic 121, 3) := by decide +kernel
theorem d_law_945 : decode code 945 = .ok (.istore 5, 2) := by decide +kernel
theorem d_law_947 : decode code 947 = .ok (.aload_n 2, 1) := by decide +kernel
theorem d_law_948 : decode code 948 = .ok (.aload_n 0, 1) := by decide +kernel
theorem d_law_949 : decode code 949 = .ok (.iload 4, 2) := by decide +kernel
theorem d_law_951 : decode code 951 = .ok (.iconst 1, 1) := by decide +kernel
theorem d_law_952 : decode code 952 = .ok (.iadd, 1) := by decide +kernel
theorem d_law_953 : decode code 953 = .ok (.iaload, 1) := by decide +kernel
theorem d_law_954 : decode code 954 = .ok (.aload_n 0, 1) := by decide +kernel
theorem d_law_955 : decode code 955 = .ok (.iload 4, 2) := by decide +kernel
theorem d_law_957 : decode code 957 = .ok (.iconst 2, 1) := by decide +kernel
theorem d_law_958 : decode code 958 = .ok (.iadd, 1) := by decide +kernel
theorem d_law_959 : decode code 959 = .ok (.iaload, 1) := by decide +kernel
theorem d_law_960 : decode code 960 = .ok (.invokevirtual 123, 3) := by decide +kernel
theorem d_law_963 : decode code 963 = .ok (.istore 6, 2) := by decide +kernel
theorem d_law_965 : decode code 965 = .ok (.aload_n 2, 1) := by decide +kernel
theorem d_law_966 : decode code 966 = .ok (.invokevirtual 77, 3) := by decide +kernel
theorem d_law_969 : decode code 969 = .ok (.iload 5, 2) := by decide +kernel
theorem d_law_971 : decode code 971 = .ok (.if_icmp .eq 5, 3) := by decide +kernel
theorem d_law_976 : decode code 976 = .ok (.iload 5, 2) := by decide +kernel
theorem d_law_978 : decode code 978 = .ok (.ifCond .ne 15, 3) := by decide +kernel
theorem d_law_993 : decode code 993 = .ok (.goto 83, 3) := by decide +kernel
theorem d_law_981 : decode code 981 = .ok (.aload_n 3, 1) := by decide +kernel
theorem d_law_982 : decode code 982 = .ok (.iconst 0, 1) := by decide +kernel
theorem d_law_983 : decode code 983 = .ok (.laload, 1) := by decide +kernel
theorem d_law_984 : decode code 984 = .ok (.iload 6, 2) := by decide +kernel
theorem d_law_986 : decode code 986 = .ok (.i2l, 1) := by decide +kernel
theorem d_law_987 : decode code 987 = .ok (.lcmp, 1) := by decide +kernel
theorem d_law_988 : decode code 988 = .ok (.ifCond .eq 5, 3) := by decide +kernel
theorem d_law_996 : decode code 996 = .ok (.aload_n 1, 1) := by decide +kernel
theorem d_law_997 : decode code 997 = .ok (.aload_n 0, 1) := by decide +kernel
theorem d_law_998 : decode code 998 = .ok (.iload 4, 2) := by decide +kernel
theorem d_law_1000 : decode code 1000 = .ok (.iconst 1, 1) := by decide +kernel
theorem d_law_1001 : decode code 1001 = .ok (.iadd, 1) := by decide +kernel
theorem d_law_1002 : decode code 1002 = .ok (.iaload, 1) := by decide +kernel
theorem d_law_1003 : decode code 1003 = .ok (.aload_n 0, 1) := by decide +kernel
theorem d_law_1004 : decode code 1004 = .ok (.iload 4, 2) := by decide +kernel
theorem d_law_1006 : decode code 1006 = .ok (.iconst 2, 1) := by decide +kernel
theorem d_law_1007 : decode code 1007 = .ok (.iadd, 1) := by decide +kernel
theorem d_law_1008 : decode code 1008 = .ok (.iaload, 1) := by decide +kernel
theorem d_law_1009 : decode code 1009 = .ok (.aload_n 0, 1) := by decide +kernel
theorem d_law_1010 : decode code 1010 = .ok (.iload 4, 2) := by decide +kernel
theorem d_law_1012 : decode code 1012 = .ok (.iconst 3, 1) := by decide +kernel
theorem d_law_1013 : decode code 1013 = .ok (.iadd, 1) := by decide +kernel
theorem d_law_1014 : decode code 1014 = .ok (.iaload, 1) := by decide +kernel
theorem d_law_1015 : decode code 1015 = .ok (.aload_n 3, 1) := by decide +kernel
theorem d_law_1016 : decode code 1016 = .ok (.invokestatic 124, 3) := by decide +kernel
theorem d_law_1019 : decode code 1019 = .ok (.istore 5, 2) := by decide +kernel
theorem d_law_1021 : decode code 1021 = .ok (.aload_n 2, 1) := by decide +kernel
theorem d_law_1022 : decode code 1022 = .ok (.aload_n 0, 1) := by decide +kernel
theorem d_law_1023 : decode code 1023 = .ok (.iload 4, 2) := by decide +kernel
theorem d_law_1025 : decode code 1025 = .ok (.iconst 1, 1) := by decide +kernel
theorem d_law_1026 : decode code 1026 = .ok (.iadd, 1) := by decide +kernel
theorem d_law_1027 : decode code 1027 = .ok (.iaload, 1) := by decide +kernel
theorem d_law_1028 : decode code 1028 = .ok (.aload_n 0, 1) := by decide +kernel
theorem d_law_1029 : decode code 1029 = .ok (.iload 4, 2) := by decide +kernel
theorem d_law_1031 : decode code 1031 = .ok (.iconst 2, 1) := by decide +kernel
theorem d_law_1032 : decode code 1032 = .ok (.iadd, 1) := by decide +kernel
theorem d_law_1033 : decode code 1033 = .ok (.iaload, 1) := by decide +kernel
theorem d_law_1034 : decode code 1034 = .ok (.aload_n 0, 1) := by decide +kernel
theorem d_law_1035 : decode code 1035 = .ok (.iload 4, 2) := by decide +kernel
theorem d_law_1037 : decode code 1037 = .ok (.iconst 3, 1) := by decide +kernel
theorem d_law_1038 : decode code 1038 = .ok (.iadd, 1) := by decide +kernel
theorem d_law_1039 : decode code 1039 = .ok (.iaload, 1) := by decide +kernel
theorem d_law_1040 : decode code 1040 = .ok (.invokevirtual 127, 3) := by decide +kernel
theorem d_law_1043 : decode code 1043 = .ok (.istore 6, 2) := by decide +kernel
theorem d_law_1045 : decode code 1045 = .ok (.aload_n 2, 1) := by decide +kernel
theorem d_law_1046 : decode code 1046 = .ok (.invokevirtual 77, 3) := by decide +kernel
theorem d_law_1049 : decode code 1049 = .ok (.iload 5, 2) := by decide +kernel
theorem d_law_1051 : decode code 1051 = .ok (.if_icmp .eq 5, 3) := by decide +kernel
theorem d_law_1056 : decode code 1056 = .ok (.iload 5, 2) := by decide +kernel
theorem d_law_1058 : decode code 1058 = .ok (.ifCond .ne 15, 3) := by decide +kernel
theorem d_law_1073 : decode code 1073 = .ok (.goto 3, 3) := by decide +kernel
theorem d_law_1061 : decode code 1061 = .ok (.aload_n 3, 1) := by decide +kernel
theorem d_law_1062 : decode code 1062 = .ok (.iconst 0, 1) := by decide +kernel
theorem d_law_1063 : decode code 1063 = .ok (.laload, 1) := by decide +kernel
theorem d_law_1064 : decode code 1064 = .ok (.iload 6, 2) := by decide +kernel
theorem d_law_1066 : decode code 1066 = .ok (.i2l, 1) := by decide +kernel
theorem d_law_1067 : decode code 1067 = .ok (.lcmp, 1) := by decide +kernel
theorem d_law_1068 : decode code 1068 = .ok (.ifCond .eq 5, 3) := by decide +kernel
set_option maxHeartbeats 4000000 in
set_option maxRecDepth 100000 in
theorem law_begin {p : Program} {l : Launch} {e : Env} {s : State} {m : MethodId} {below : List Frame} {meth : Method} {c : Code} {Q : State → Prop} {dC : Nat → ClassId} {dI : Nat → Nat → Nat} {dA : Nat → ClassId} {zs : Nat → Nat} {b0 L : Nat} {xs : Nat → Int32} (C : lC p l s m c dC dI dA zs b0 L xs) (hL : L ≤ 2560) {j : Nat} (hj : j + 5 ≤ L) {w : mh_w} {x0 m0 o0 : Nat} {g : st_G} (hI : lI dA zs w x0 m0 o0 g) {H : Heap} {locs : List Loc} {ls : Array Slot} {cells slots : Nat} (hX : mh_P (dC, dI) s.heap.size w H) (hS : va_S (mh_A s.heap.size) s.heap H locs) (hl : lv_has ls 8 [(4, .int (nI j)), (0, .ref b0), (1, .ref x0), (2, .ref m0), (3, .ref o0)]) (hcc : cells + 40 ≤ 601024) (hss : slots + 2000 ≤ 7293034)
    (kk : ∀ (w' : mh_w) (g' : st_G) (H1 : Heap) (locs1 : List Loc) (ls1 : Array Slot), lI dA zs w' x0 m0 o0 g' → mh_P (dC, dI) s.heap.size w' H1 → va_S (mh_A s.heap.size) s.heap H1 locs1 → lv_has ls1 8 [(4, .int (nI j)), (0, .ref b0), (1, .ref x0), (2, .ref m0), (3, .ref o0)] → W p l e room_1 s m #[.ref b0] below meth c H1 locs1 (cells + 40) (slots + 2000) Q (F0 m 1076 ls1 [])) : W p l e room_1 s m #[.ref b0] below meth c H locs cells slots Q (F0 m 108 ls []) := by
  obtain ⟨K0, hOK, hl0, hml, hXs, hbl⟩ := C
  have K1 := K0
  obtain ⟨hx, hb, hown, hts, -, -⟩ := K1
  have hb0 : s.heap.size ≤ s.heap.size := Nat.le_refl _
  obtain ⟨hR, ⟨er, hM⟩, ⟨ov, hov⟩, hG⟩ := hI
  have hM2 := hM
  obtain ⟨aG, aO, aA, aV, aH, lg, op, at_, hQ⟩ := hM2
  refine lv_aload_n hx hb d_law_108 rfl (lv_at hl 2 rfl) ?_
  refine lv_aload_n hx hb d_law_109 rfl (lv_at hl 1 rfl) ?_
  refine lv_iload hx hb d_law_110 (lv_at hl 0 rfl) ?_
  refine lv_iconst (v := nI 1) hx hb d_law_112 (by decide) ?_
  refine mh_addN hx hb d_law_113 ?_
  refine mh_sld hx hb hXs hbl hS (j := (j + 1)) (by omega) (by omega) d_law_114 ?_
  refine lv_aload_n hx hb d_law_115 rfl (lv_at hl 1 rfl) ?_
  refine lv_iload hx hb d_law_116 (lv_at hl 0 rfl) ?_
  refine lv_iconst (v := nI 2) hx hb d_law_118 (by decide) ?_
  refine mh_addN hx hb d_law_119 ?_
  refine mh_sld hx hb hXs hbl hS (j := (j + 2)) (by omega) (by omega) d_law_120 ?_
  refine lv_aload_n hx hb d_law_121 rfl (lv_at hl 1 rfl) ?_
  refine lv_iload hx hb d_law_122 (lv_at hl 0 rfl) ?_
  refine lv_iconst (v := nI 3) hx hb d_law_124 (by decide) ?_
  refine mh_addN hx hb d_law_125 ?_
  refine mh_sld hx hb hXs hbl hS (j := (j + 3)) (by omega) (by omega) d_law_126 ?_
  have hlt := sl_begin hG (t := (xs (j + 1))) (u := (xs (j + 2))) (lv := (xs (j + 3)))
  refine mh_callV (mh_sS (rest := []) (av := [.ref x0, .int (xs (j + 1)), .int (xs (j + 2)), .int (xs (j + 3))]) K0 e_LW_begin l_LW_71 k135 rfl rfl d_law_127) (l_begin hl0 hR hG hov) K0 hOK hml hl.1 e_LW_begin hX hS d_law_127 (Nat.le_of_ble_eq_true rfl) (Nat.le_of_ble_eq_true rfl) (Nat.le_of_ble_eq_true rfl) (by dsimp only [mh_rm, room_1]; omega) (by dsimp only [mh_rm, room_1]; omega) (fun w1 H locs ⟨hC1, ⟨ov1, hov1, hans⟩, hFw⟩ hX hS => ?_)
  refine W.eq (g2 := F0 m 130 ls [.int (nI (sp_begin g (xs (j + 1)) (xs (j + 2)) (xs (j + 3))).1)]) rfl ?_
  refine lv_istore (lv' := [(5, .int (nI (sp_begin g (xs (j + 1)) (xs (j + 2)) (xs (j + 3))).1)), (4, .int (nI j)), (0, .ref b0), (1, .ref x0), (2, .ref m0), (3, .ref o0)]) hx hb d_law_130 hl (by decide) rfl (fun ls hl => ?_)
  refine lv_aload_n hx hb d_law_132 rfl (lv_at hl 4 rfl) ?_
  refine lv_aload_n hx hb d_law_133 rfl (lv_at hl 2 rfl) ?_
  refine lv_iload hx hb d_law_134 (lv_at hl 1 rfl) ?_
  refine lv_iconst (v := nI 1) hx hb d_law_136 (by decide) ?_
  refine mh_addN hx hb d_law_137 ?_
  refine mh_sld hx hb hXs hbl hS (j := (j + 1)) (by omega) (by omega) d_law_138 ?_
  refine lv_aload_n hx hb d_law_139 rfl (lv_at hl 2 rfl) ?_
  refine lv_iload hx hb d_law_140 (lv_at hl 1 rfl) ?_
  refine lv_iconst (v := nI 2) hx hb d_law_142 (by decide) ?_
  refine mh_addN hx hb d_law_143 ?_
  refine mh_sld hx hb hXs hbl hS (j := (j + 2)) (by omega) (by omega) d_law_144 ?_
  refine lv_aload_n hx hb d_law_145 rfl (lv_at hl 2 rfl) ?_
  refine lv_iload hx hb d_law_146 (lv_at hl 1 rfl) ?_
  refine lv_iconst (v := nI 3) hx hb d_law_148 (by decide) ?_
  refine mh_addN hx hb d_law_149 ?_
  refine mh_sld hx hb hXs hbl hS (j := (j + 3)) (by omega) (by omega) d_law_150 ?_
  refine mh_callV (mh_sV (rest := []) (av := [.int (xs (j + 1)), .int (xs (j + 2)), .int (xs (j + 3))]) K0 hX ((hFw 50 0 (by omega) (by omega)).trans hQ.1) rfl e_MM_begin l_LW_76 k740 k741 rfl rfl d_law_151) (r_begin (hM.to hFw) hG) K0 hOK hml hl.1 e_MM_begin hX hS d_law_151 (Nat.le_of_ble_eq_true rfl) (Nat.le_of_ble_eq_true rfl) (Nat.le_of_ble_eq_true rfl) (by dsimp only [mh_rm, room_1]; omega) (by dsimp only [mh_rm, room_1]; omega) (fun w2 H locs ⟨hM2, hD2⟩ hX hS => ?_)
  refine W.eq (g2 := F0 m 154 ls []) rfl ?_
  have hM3 := hM2
  obtain ⟨aG2, aO2, aA2, aV2, aH2, lg2, op2, at2, hQ2⟩ := hM3
  refine lv_aload_n hx hb d_law_154 rfl (lv_at hl 4 rfl) ?_
  refine mh_callR (mh_sV (rest := []) (av := []) K0 hX hQ2.1 rfl e_MM_thrown l_LW_77 k736 k737 rfl rfl d_law_155) (c_MM_thrown hQ2.1) K0 hOK hml hl.1 e_MM_thrown hX hS d_law_155 (Nat.le_of_ble_eq_true rfl) (Nat.le_of_ble_eq_true rfl) (Nat.le_of_ble_eq_true rfl) (by dsimp only [mh_rm, room_1]; omega) (by dsimp only [mh_rm, room_1]; omega) (fun H locs hX hS => ?_)
  refine W.eq (g2 := F0 m 158 ls [.int (nI (sp_begin g (xs (j + 1)) (xs (j + 2)) (xs (j + 3))).1)]) rfl ?_
  refine lv_iload hx hb d_law_158 (lv_at hl 0 rfl) ?_
  refine lv_icmp_eq (tgt := 165) hx hb d_law_160 (by decide) (fun _ => ?_) (fun z => absurd z (not_not_intro rfl))
  refine lv_goto (tgt := 1076) hx hb d_law_165 (by decide) ?_
  refine W.widen (k := cells + 40) (n := slots + 2000) (by dsimp only [mh_rm]; omega) (by dsimp only [mh_rm]; omega) ?_
  exact kk w2 _ _ _ _ ⟨hC1.c (fun k i hk => hD2 k i (by omega)), ⟨_, hM2⟩, ⟨ov1, (hD2 90 0 (by omega)).trans hov1⟩, so_begin hG⟩ hX hS (lv_sub hl [1, 2, 3, 4, 5] rfl)
set_option maxHeartbeats 4000000 in
set_option maxRecDepth 100000 in
theorem law_get {p : Program} {l : Launch} {e : Env} {s : State} {m : MethodId} {below : List Frame} {meth : Method} {c : Code} {Q : State → Prop} {dC : Nat → ClassId} {dI : Nat → Nat → Nat} {dA : Nat → ClassId} {zs : Nat → Nat} {b0 L : Nat} {xs : Nat → Int32} (C : lC p l s m c dC dI dA zs b0 L xs) (hL : L ≤ 2560) {j : Nat} (hj : j + 5 ≤ L) {w : mh_w} {x0 m0 o0 : Nat} {g : st_G} (hI : lI dA zs w x0 m0 o0 g) {H : Heap} {locs : List Loc} {ls : Array Slot} {cells slots : Nat} (hX : mh_P (dC, dI) s.heap.size w H) (hS : va_S (mh_A s.heap.size) s.heap H locs) (hl : lv_has ls 8 [(4, .int (nI j)), (0, .ref b0), (1, .ref x0), (2, .ref m0), (3, .ref o0)]) (hcc : cells + 40 ≤ 601024) (hss : slots + 2000 ≤ 7293034)
    (kk : ∀ (w' : mh_w) (g' : st_G) (H1 : Heap) (locs1 : List Loc) (ls1 : Array Slot), lI dA zs w' x0 m0 o0 g' → mh_P (dC, dI) s.heap.size w' H1 → va_S (mh_A s.heap.size) s.heap H1 locs1 → lv_has ls1 8 [(4, .int (nI j)), (0, .ref b0), (1, .ref x0), (2, .ref m0), (3, .ref o0)] → W p l e room_1 s m #[.ref b0] below meth c H1 locs1 (cells + 40) (slots + 2000) Q (F0 m 1076 ls1 [])) : W p l e room_1 s m #[.ref b0] below meth c H locs cells slots Q (F0 m 168 ls []) := by
  obtain ⟨K0, hOK, hl0, hml, hXs, hbl⟩ := C
  have K1 := K0
  obtain ⟨hx, hb, hown, hts, -, -⟩ := K1
  have hb0 : s.heap.size ≤ s.heap.size := Nat.le_refl _
  obtain ⟨hR, ⟨er, hM⟩, ⟨ov, hov⟩, hG⟩ := hI
  have hM2 := hM
  obtain ⟨aG, aO, aA, aV, aH, lg, op, at_, hQ⟩ := hM2
  refine lv_aload_n hx hb d_law_168 rfl (lv_at hl 2 rfl) ?_
  refine lv_aload_n hx hb d_law_169 rfl (lv_at hl 1 rfl) ?_
  refine lv_iload hx hb d_law_170 (lv_at hl 0 rfl) ?_
  refine lv_iconst (v := nI 1) hx hb d_law_172 (by decide) ?_
  refine mh_addN hx hb d_law_173 ?_
  refine mh_sld hx hb hXs hbl hS (j := (j + 1)) (by omega) (by omega) d_law_174 ?_
  refine lv_aload_n hx hb d_law_175 rfl (lv_at hl 1 rfl) ?_
  refine lv_iload hx hb d_law_176 (lv_at hl 0 rfl) ?_
  refine lv_iconst (v := nI 2) hx hb d_law_178 (by decide) ?_
  refine mh_addN hx hb d_law_179 ?_
  refine mh_sld hx hb hXs hbl hS (j := (j + 2)) (by omega) (by omega) d_law_180 ?_
  refine lv_aload_n hx hb d_law_181 rfl (lv_at hl 4 rfl) ?_
  have hlt := sl_get hG (t := (xs (j + 1))) (key := (xs (j + 2)))
  refine mh_callV (mh_sS (rest := []) (av := [.ref x0, .int (xs (j + 1)), .int (xs (j + 2)), .ref o0]) K0 e_LW_get l_LW_81 k294 rfl rfl d_law_182) (l_get hl0 hR hG hov) K0 hOK hml hl.1 e_LW_get hX hS d_law_182 (Nat.le_of_ble_eq_true rfl) (Nat.le_of_ble_eq_true rfl) (Nat.le_of_ble_eq_true rfl) (by dsimp only [mh_rm, room_1]; omega) (by dsimp only [mh_rm, room_1]; omega) (fun w1 H locs ⟨hC1, ⟨ov1, hov1, hans⟩, hFw⟩ hX hS => ?_)
  refine W.eq (g2 := F0 m 185 ls [.int (nI (sp_get g (xs (j + 1)) (xs (j + 2))).1)]) rfl ?_
  refine lv_istore (lv' := [(5, .int (nI (sp_get g (xs (j + 1)) (xs (j + 2))).1)), (4, .int (nI j)), (0, .ref b0), (1, .ref x0), (2, .ref m0), (3, .ref o0)]) hx hb d_law_185 hl (by decide) rfl (fun ls hl => ?_)
  refine lv_aload_n hx hb d_law_187 rfl (lv_at hl 4 rfl) ?_
  refine lv_aload_n hx hb d_law_188 rfl (lv_at hl 2 rfl) ?_
  refine lv_iload hx hb d_law_189 (lv_at hl 1 rfl) ?_
  refine lv_iconst (v := nI 1) hx hb d_law_191 (by decide) ?_
  refine mh_addN hx hb d_law_192 ?_
  refine mh_sld hx hb hXs hbl hS (j := (j + 1)) (by omega) (by omega) d_law_193 ?_
  refine lv_aload_n hx hb d_law_194 rfl (lv_at hl 2 rfl) ?_
  refine lv_iload hx hb d_law_195 (lv_at hl 1 rfl) ?_
  refine lv_iconst (v := nI 2) hx hb d_law_197 (by decide) ?_
  refine mh_addN hx hb d_law_198 ?_
  refine mh_sld hx hb hXs hbl hS (j := (j + 2)) (by omega) (by omega) d_law_199 ?_
  refine mh_callJ (mh_sV (rest := []) (av := [.int (xs (j + 1)), .int (xs (j + 2))]) K0 hX ((hFw 50 0 (by omega) (by omega)).trans hQ.1) rfl e_MM_get l_LW_84 k755 k756 rfl rfl d_law_200) (r_get (hM.to hFw) hG) K0 hOK hml hl.1 e_MM_get hX hS d_law_200 (Nat.le_of_ble_eq_true rfl) (Nat.le_of_ble_eq_true rfl) (Nat.le_of_ble_eq_true rfl) (by dsimp only [mh_rm, room_1]; omega) (by dsimp only [mh_rm, room_1]; omega) (fun zr w2 H locs hz hw hX hS => ?_)
  obtain ⟨hM2, hD2⟩ := hw
  have hM3 := hM2
  obtain ⟨aG2, aO2, aA2, aV2, aH2, lg2, op2, at2, hQ2⟩ := hM3
  refine lv_lstore (lv' := [(6, .long zr), (5, .int (nI (sp_get g (xs (j + 1)) (xs (j + 2))).1)), (4, .int (nI j)), (0, .ref b0), (1, .ref x0), (2, .ref m0), (3, .ref o0)]) hx hb d_law_203 hl (by decide) rfl (fun ls hl => ?_)
  refine lv_aload_n hx hb d_law_205 rfl (lv_at hl 5 rfl) ?_
  refine mh_callR (mh_sV (rest := []) (av := []) K0 hX hQ2.1 rfl e_MM_thrown l_LW_77 k736 k737 rfl rfl d_law_206) (c_MM_thrown hQ2.1) K0 hOK hml hl.1 e_MM_thrown hX hS d_law_206 (Nat.le_of_ble_eq_true rfl) (Nat.le_of_ble_eq_true rfl) (Nat.le_of_ble_eq_true rfl) (by dsimp only [mh_rm, room_1]; omega) (by dsimp only [mh_rm, room_1]; omega) (fun H locs hX hS => ?_)
  refine W.eq (g2 := F0 m 209 ls [.int (nI (sp_get g (xs (j + 1)) (xs (j + 2))).1)]) rfl ?_
  refine lv_iload hx hb d_law_209 (lv_at hl 1 rfl) ?_
  refine lv_icmp_eq (tgt := 216) hx hb d_law_211 (by decide) (fun _ => ?_) (fun z => absurd z (not_not_intro rfl))
  refine lv_iload hx hb d_law_216 (lv_at hl 1 rfl) ?_
  refine lv_if_ne (tgt := 232) hx hb d_law_218 (by decide) (fun ct => ?_) (fun cf => ?_)
  · skip
    refine lv_goto (tgt := 1076) hx hb d_law_232 (by decide) ?_
    refine W.widen (k := cells + 40) (n := slots + 2000) (by dsimp only [mh_rm]; omega) (by dsimp only [mh_rm]; omega) ?_
    exact kk w2 _ _ _ _ ⟨hC1.c (fun k i hk => hD2 k i (by omega)), ⟨_, hM2⟩, ⟨ov1, (hD2 90 0 (by omega)).trans hov1⟩, so_get hG⟩ hX hS (lv_sub hl [2, 3, 4, 5, 6] rfl)
  · skip
    have hz0 : (sp_get g (xs (j + 1)) (xs (j + 2))).1 = 0 := (nI_eq hlt (by decide)).mp cf
    refine lv_aload_n hx hb d_law_221 rfl (lv_at hl 6 rfl) ?_
    refine lv_iconst (v := nI 0) hx hb d_law_222 (by decide) ?_
    refine mh_laldN K0 hX ((hD2 90 0 (by omega)).trans hov1) (by omega) (by omega) d_law_223 ?_
    refine lv_lload hx hb d_law_224 (lv_at hl 0 rfl) ?_
    refine W.lcmp hx hb d_law_226 ?_
    refine lv_if_eq (tgt := 232) hx hb d_law_227 (by decide) (fun _ => ?_) (fun z => absurd z (not_not_intro ((mh_lc0 _ _).mpr ((hans rfl hz0).trans (hz hz0).symm))))
    refine lv_goto (tgt := 1076) hx hb d_law_232 (by decide) ?_
    refine W.widen (k := cells + 40) (n := slots + 2000) (by dsimp only [mh_rm]; omega) (by dsimp only [mh_rm]; omega) ?_
    exact kk w2 _ _ _ _ ⟨hC1.c (fun k i hk => hD2 k i (by omega)), ⟨_, hM2⟩, ⟨ov1, (hD2 90 0 (by omega)).trans hov1⟩, so_get hG⟩ hX hS (lv_sub hl [2, 3, 4, 5, 6] rfl)
set_option maxHeartbeats 4000000 in
set_option maxRecDepth 100000 in
theorem law_put {p : Program} {l : Launch} {e : Env} {s : State} {m : MethodId} {below : List Frame} {meth : Method} {c : Code} {Q : State → Prop} {dC : Nat → ClassId} {dI : Nat → Nat → Nat} {dA : Nat → ClassId} {zs : Nat → Nat} {b0 L : Nat} {xs : Nat → Int32} (C : lC p l s m c dC dI dA zs b0 L xs) (hL : L ≤ 2560) {j : Nat} (hj : j + 5 ≤ L) {w : mh_w} {x0 m0 o0 : Nat} {g : st_G} (hI : lI dA zs w x0 m0 o0 g) {H : Heap} {locs : List Loc} {ls : Array Slot} {cells slots : Nat} (hX : mh_P (dC, dI) s.heap.size w H) (hS : va_S (mh_A s.heap.size) s.heap H locs) (hl : lv_has ls 8 [(4, .int (nI j)), (0, .ref b0), (1, .ref x0), (2, .ref m0), (3, .ref o0)]) (hcc : cells + 40 ≤ 601024) (hss : slots + 2000 ≤ 7293034)
    (kk : ∀ (w' : mh_w) (g' : st_G) (H1 : Heap) (locs1 : List Loc) (ls1 : Array Slot), lI dA zs w' x0 m0 o0 g' → mh_P (dC, dI) s.heap.size w' H1 → va_S (mh_A s.heap.size) s.heap H1 locs1 → lv_has ls1 8 [(4, .int (nI j)), (0, .ref b0), (1, .ref x0), (2, .ref m0), (3, .ref o0)] → W p l e room_1 s m #[.ref b0] below meth c H1 locs1 (cells + 40) (slots + 2000) Q (F0 m 1076 ls1 [])) : W p l e room_1 s m #[.ref b0] below meth c H locs cells slots Q (F0 m 235 ls []) := by
  obtain ⟨K0, hOK, hl0, hml, hXs, hbl⟩ := C
  have K1 := K0
  obtain ⟨hx, hb, hown, hts, -, -⟩ := K1
  have hb0 : s.heap.size ≤ s.heap.size := Nat.le_refl _
  obtain ⟨hR, ⟨er, hM⟩, ⟨ov, hov⟩, hG⟩ := hI
  have hM2 := hM
  obtain ⟨aG, aO, aA, aV, aH, lg, op, at_, hQ⟩ := hM2
  refine lv_aload_n hx hb d_law_235 rfl (lv_at hl 2 rfl) ?_
  refine lv_aload_n hx hb d_law_236 rfl (lv_at hl 1 rfl) ?_
  refine lv_iload hx hb d_law_237 (lv_at hl 0 rfl) ?_
  refine lv_iconst (v := nI 1) hx hb d_law_239 (by decide) ?_
  refine mh_addN hx hb d_law_240 ?_
  refine mh_sld hx hb hXs hbl hS (j := (j + 1)) (by omega) (by omega) d_law_241 ?_
  refine lv_aload_n hx hb d_law_242 rfl (lv_at hl 1 rfl) ?_
  refine lv_iload hx hb d_law_243 (lv_at hl 0 rfl) ?_
  refine lv_iconst (v := nI 2) hx hb d_law_245 (by decide) ?_
  refine mh_addN hx hb d_law_246 ?_
  refine mh_sld hx hb hXs hbl hS (j := (j + 2)) (by omega) (by omega) d_law_247 ?_
  refine lv_aload_n hx hb d_law_248 rfl (lv_at hl 1 rfl) ?_
  refine lv_iload hx hb d_law_249 (lv_at hl 0 rfl) ?_
  refine lv_iconst (v := nI 3) hx hb d_law_251 (by decide) ?_
  refine mh_addN hx hb d_law_252 ?_
  refine mh_sld hx hb hXs hbl hS (j := (j + 3)) (by omega) (by omega) d_law_253 ?_
  refine lv_i2l hx hb d_law_254 rfl ?_
  refine lv_bipush (v := nI 32) hx hb d_law_255 (by decide) ?_
  refine lv_lshl hx hb d_law_257 rfl ?_
  refine lv_aload_n hx hb d_law_258 rfl (lv_at hl 1 rfl) ?_
  refine lv_iload hx hb d_law_259 (lv_at hl 0 rfl) ?_
  refine lv_iconst (v := nI 4) hx hb d_law_261 (by decide) ?_
  refine mh_addN hx hb d_law_262 ?_
  refine mh_sld hx hb hXs hbl hS (j := (j + 4)) (by omega) (by omega) d_law_263 ?_
  refine lv_i2l hx hb d_law_264 rfl ?_
  refine lv_ldc2 hx hb hown (hts _ k838) d_law_265 ?_
  refine lv_land hx hb d_law_268 ?_
  refine lv_lor hx hb d_law_269 ?_
  refine lv_aload_n hx hb d_law_270 rfl (lv_at hl 4 rfl) ?_
  have hlt := sl_put hG (t := (xs (j + 1))) (key := (xs (j + 2))) (v := (((((xs (j + 3))).toInt64) <<< ((nI 32).toInt64 &&& 63)) ||| (((xs (j + 4))).toInt64 &&& 4294967295)))
  refine mh_callV (mh_sS (rest := []) (av := [.ref x0, .int (xs (j + 1)), .int (xs (j + 2)), .long (((((xs (j + 3))).toInt64) <<< ((nI 32).toInt64 &&& 63)) ||| (((xs (j + 4))).toInt64 &&& 4294967295)), .ref o0]) K0 e_LW_put l_LW_87 k346 rfl rfl d_law_271) (l_put hl0 hR hG hov) K0 hOK hml hl.1 e_LW_put hX hS d_law_271 (Nat.le_of_ble_eq_true rfl) (Nat.le_of_ble_eq_true rfl) (Nat.le_of_ble_eq_true rfl) (by dsimp only [mh_rm, room_1]; omega) (by dsimp only [mh_rm, room_1]; omega) (fun w1 H locs ⟨hC1, ⟨ov1, hov1, hans⟩, hFw⟩ hX hS => ?_)
  refine W.eq (g2 := F0 m 274 ls [.int (nI (sp_write g (xs (j + 1)) (xs (j + 2)) (some (((((xs (j + 3))).toInt64) <<< ((nI 32).toInt64 &&& 63)) ||| (((xs (j + 4))).toInt64 &&& 4294967295)))).1)]) rfl ?_
  refine lv_istore (lv' := [(5, .int (nI (sp_write g (xs (j + 1)) (xs (j + 2)) (some (((((xs (j + 3))).toInt64) <<< ((nI 32).toInt64 &&& 63)) ||| (((xs (j + 4))).toInt64 &&& 4294967295)))).1)), (4, .int (nI j)), (0, .ref b0), (1, .ref x0), (2, .ref m0), (3, .ref o0)]) hx hb d_law_274 hl (by decide) rfl (fun ls hl => ?_)
  refine lv_aload_n hx hb d_law_276 rfl (lv_at hl 4 rfl) ?_
  refine lv_aload_n hx hb d_law_277 rfl (lv_at hl 2 rfl) ?_
  refine lv_iload hx hb d_law_278 (lv_at hl 1 rfl) ?_
  refine lv_iconst (v := nI 1) hx hb d_law_280 (by decide) ?_
  refine mh_addN hx hb d_law_281 ?_
  refine mh_sld hx hb hXs hbl hS (j := (j + 1)) (by omega) (by omega) d_law_282 ?_
  refine lv_aload_n hx hb d_law_283 rfl (lv_at hl 2 rfl) ?_
  refine lv_iload hx hb d_law_284 (lv_at hl 1 rfl) ?_
  refine lv_iconst (v := nI 2) hx hb d_law_286 (by decide) ?_
  refine mh_addN hx hb d_law_287 ?_
  refine mh_sld hx hb hXs hbl hS (j := (j + 2)) (by omega) (by omega) d_law_288 ?_
  refine lv_aload_n hx hb d_law_289 rfl (lv_at hl 2 rfl) ?_
  refine lv_iload hx hb d_law_290 (lv_at hl 1 rfl) ?_
  refine lv_iconst (v := nI 3) hx hb d_law_292 (by decide) ?_
  refine mh_addN hx hb d_law_293 ?_
  refine mh_sld hx hb hXs hbl hS (j := (j + 3)) (by omega) (by omega) d_law_294 ?_
  refine lv_i2l hx hb d_law_295 rfl ?_
  refine lv_bipush (v := nI 32) hx hb d_law_296 (by decide) ?_
  refine lv_lshl hx hb d_law_298 rfl ?_
  refine lv_aload_n hx hb d_law_299 rfl (lv_at hl 2 rfl) ?_
  refine lv_iload hx hb d_law_300 (lv_at hl 1 rfl) ?_
  refine lv_iconst (v := nI 4) hx hb d_law_302 (by decide) ?_
  refine mh_addN hx hb d_law_303 ?_
  refine mh_sld hx hb hXs hbl hS (j := (j + 4)) (by omega) (by omega) d_law_304 ?_
  refine lv_i2l hx hb d_law_305 rfl ?_
  refine lv_ldc2 hx hb hown (hts _ k838) d_law_306 ?_
  refine lv_land hx hb d_law_309 ?_
  refine lv_lor hx hb d_law_310 ?_
  refine mh_callI (mh_sV (rest := []) (av := [.int (xs (j + 1)), .int (xs (j + 2)), .long (((((xs (j + 3))).toInt64) <<< ((nI 32).toInt64 &&& 63)) ||| (((xs (j + 4))).toInt64 &&& 4294967295))]) K0 hX ((hFw 50 0 (by omega) (by omega)).trans hQ.1) rfl e_MM_put l_LW_90 k775 k776 rfl rfl d_law_311) (r_put (hM.to hFw) hG) K0 hOK hml hl.1 e_MM_put hX hS d_law_311 (Nat.le_of_ble_eq_true rfl) (Nat.le_of_ble_eq_true rfl) (Nat.le_of_ble_eq_true rfl) (by dsimp only [mh_rm, room_1]; omega) (by dsimp only [mh_rm, room_1]; omega) (fun zr w2 H locs hz hw hX hS => ?_)
  obtain ⟨hM2, hD2⟩ := hw
  have hM3 := hM2
  obtain ⟨aG2, aO2, aA2, aV2, aH2, lg2, op2, at2, hQ2⟩ := hM3
  refine lv_istore (lv' := [(6, .int zr), (5, .int (nI (sp_write g (xs (j + 1)) (xs (j + 2)) (some (((((xs (j + 3))).toInt64) <<< ((nI 32).toInt64 &&& 63)) ||| (((xs (j + 4))).toInt64 &&& 4294967295)))).1)), (4, .int (nI j)), (0, .ref b0), (1, .ref x0), (2, .ref m0), (3, .ref o0)]) hx hb d_law_314 hl (by decide) rfl (fun ls hl => ?_)
  refine lv_aload_n hx hb d_law_316 rfl (lv_at hl 5 rfl) ?_
  refine mh_callR (mh_sV (rest := []) (av := []) K0 hX hQ2.1 rfl e_MM_thrown l_LW_77 k736 k737 rfl rfl d_law_317) (c_MM_thrown hQ2.1) K0 hOK hml hl.1 e_MM_thrown hX hS d_law_317 (Nat.le_of_ble_eq_true rfl) (Nat.le_of_ble_eq_true rfl) (Nat.le_of_ble_eq_true rfl) (by dsimp only [mh_rm, room_1]; omega) (by dsimp only [mh_rm, room_1]; omega) (fun H locs hX hS => ?_)
  refine W.eq (g2 := F0 m 320 ls [.int (nI (sp_write g (xs (j + 1)) (xs (j + 2)) (some (((((xs (j + 3))).toInt64) <<< ((nI 32).toInt64 &&& 63)) ||| (((xs (j + 4))).toInt64 &&& 4294967295)))).1)]) rfl ?_
  refine lv_iload hx hb d_law_320 (lv_at hl 1 rfl) ?_
  refine lv_icmp_eq (tgt := 327) hx hb d_law_322 (by decide) (fun _ => ?_) (fun z => absurd z (not_not_intro rfl))
  refine lv_iload hx hb d_law_327 (lv_at hl 1 rfl) ?_
  refine lv_if_ne (tgt := 344) hx hb d_law_329 (by decide) (fun ct => ?_) (fun cf => ?_)
  · skip
    refine lv_goto (tgt := 1076) hx hb d_law_344 (by decide) ?_
    refine W.widen (k := cells + 40) (n := slots + 2000) (by dsimp only [mh_rm]; omega) (by dsimp only [mh_rm]; omega) ?_
    exact kk w2 _ _ _ _ ⟨hC1.c (fun k i hk => hD2 k i (by omega)), ⟨_, hM2⟩, ⟨ov1, (hD2 90 0 (by omega)).trans hov1⟩, so_put hG⟩ hX hS (lv_sub hl [2, 3, 4, 5, 6] rfl)
  · skip
    have hz0 : (sp_write g (xs (j + 1)) (xs (j + 2)) (some (((((xs (j + 3))).toInt64) <<< ((nI 32).toInt64 &&& 63)) ||| (((xs (j + 4))).toInt64 &&& 4294967295)))).1 = 0 := (nI_eq hlt (by decide)).mp cf
    refine lv_aload_n hx hb d_law_332 rfl (lv_at hl 6 rfl) ?_
    refine lv_iconst (v := nI 0) hx hb d_law_333 (by decide) ?_
    refine mh_laldN K0 hX ((hD2 90 0 (by omega)).trans hov1) (by omega) (by omega) d_law_334 ?_
    refine lv_iload hx hb d_law_335 (lv_at hl 0 rfl) ?_
    refine lv_i2l hx hb d_law_337 rfl ?_
    refine W.lcmp hx hb d_law_338 ?_
    refine lv_if_eq (tgt := 344) hx hb d_law_339 (by decide) (fun _ => ?_) (fun z => absurd z (not_not_intro ((mh_lc0 _ _).mpr ((hans rfl hz0).trans (hz hz0).symm))))
    refine lv_goto (tgt := 1076) hx hb d_law_344 (by decide) ?_
    refine W.widen (k := cells + 40) (n := slots + 2000) (by dsimp only [mh_rm]; omega) (by dsimp only [mh_rm]; omega) ?_
    exact kk w2 _ _ _ _ ⟨hC1.c (fun k i hk => hD2 k i (by omega)), ⟨_, hM2⟩, ⟨ov1, (hD2 90 0 (by omega)).trans hov1⟩, so_put hG⟩ hX hS (lv_sub hl [2, 3, 4, 5, 6] rfl)
set_option maxHeartbeats 4000000 in
set_option maxRecDepth 100000 in
theorem law_delete {p : Program} {l : Launch} {e : Env} {s : State} {m : MethodId} {below : List Frame} {meth : Method} {c : Code} {Q : State → Prop} {dC : Nat → ClassId} {dI : Nat → Nat → Nat} {dA : Nat → ClassId} {zs : Nat → Nat} {b0 L : Nat} {xs : Nat → Int32} (C : lC p l s m c dC dI dA zs b0 L xs) (hL : L ≤ 2560) {j : Nat} (hj : j + 5 ≤ L) {w : mh_w} {x0 m0 o0 : Nat} {g : st_G} (hI : lI dA zs w x0 m0 o0 g) {H : Heap} {locs : List Loc} {ls : Array Slot} {cells slots : Nat} (hX : mh_P (dC, dI) s.heap.size w H) (hS : va_S (mh_A s.heap.size) s.heap H locs) (hl : lv_has ls 8 [(4, .int (nI j)), (0, .ref b0), (1, .ref x0), (2, .ref m0), (3, .ref o0)]) (hcc : cells + 40 ≤ 601024) (hss : slots + 2000 ≤ 7293034)
    (kk : ∀ (w' : mh_w) (g' : st_G) (H1 : Heap) (locs1 : List Loc) (ls1 : Array Slot), lI dA zs w' x0 m0 o0 g' → mh_P (dC, dI) s.heap.size w' H1 → va_S (mh_A s.heap.size) s.heap H1 locs1 → lv_has ls1 8 [(4, .int (nI j)), (0, .ref b0), (1, .ref x0), (2, .ref m0), (3, .ref o0)] → W p l e room_1 s m #[.ref b0] below meth c H1 locs1 (cells + 40) (slots + 2000) Q (F0 m 1076 ls1 [])) : W p l e room_1 s m #[.ref b0] below meth c H locs cells slots Q (F0 m 347 ls []) := by
  obtain ⟨K0, hOK, hl0, hml, hXs, hbl⟩ := C
  have K1 := K0
  obtain ⟨hx, hb, hown, hts, -, -⟩ := K1
  have hb0 : s.heap.size ≤ s.heap.size := Nat.le_refl _
  obtain ⟨hR, ⟨er, hM⟩, ⟨ov, hov⟩, hG⟩ := hI
  have hM2 := hM
  obtain ⟨aG, aO, aA, aV, aH, lg, op, at_, hQ⟩ := hM2
  refine lv_aload_n hx hb d_law_347 rfl (lv_at hl 2 rfl) ?_
  refine lv_aload_n hx hb d_law_348 rfl (lv_at hl 1 rfl) ?_
  refine lv_iload hx hb d_law_349 (lv_at hl 0 rfl) ?_
  refine lv_iconst (v := nI 1) hx hb d_law_351 (by decide) ?_
  refine mh_addN hx hb d_law_352 ?_
  refine mh_sld hx hb hXs hbl hS (j := (j + 1)) (by omega) (by omega) d_law_353 ?_
  refine lv_aload_n hx hb d_law_354 rfl (lv_at hl 1 rfl) ?_
  refine lv_iload hx hb d_law_355 (lv_at hl 0 rfl) ?_
  refine lv_iconst (v := nI 2) hx hb d_law_357 (by decide) ?_
  refine mh_addN hx hb d_law_358 ?_
  refine mh_sld hx hb hXs hbl hS (j := (j + 2)) (by omega) (by omega) d_law_359 ?_
  refine lv_aload_n hx hb d_law_360 rfl (lv_at hl 4 rfl) ?_
  have hlt := sl_delete hG (t := (xs (j + 1))) (key := (xs (j + 2)))
  refine mh_callV (mh_sS (rest := []) (av := [.ref x0, .int (xs (j + 1)), .int (xs (j + 2)), .ref o0]) K0 e_LW_delete l_LW_91 k389 rfl rfl d_law_361) (l_delete hl0 hR hG hov) K0 hOK hml hl.1 e_LW_delete hX hS d_law_361 (Nat.le_of_ble_eq_true rfl) (Nat.le_of_ble_eq_true rfl) (Nat.le_of_ble_eq_true rfl) (by dsimp only [mh_rm, room_1]; omega) (by dsimp only [mh_rm, room_1]; omega) (fun w1 H locs ⟨hC1, ⟨ov1, hov1, hans⟩, hFw⟩ hX hS => ?_)
  refine W.eq (g2 := F0 m 364 ls [.int (nI (sp_write g (xs (j + 1)) (xs (j + 2)) none).1)]) rfl ?_
  refine lv_istore (lv' := [(5, .int (nI (sp_write g (xs (j + 1)) (xs (j + 2)) none).1)), (4, .int (nI j)), (0, .ref b0), (1, .ref x0), (2, .ref m0), (3, .ref o0)]) hx hb d_law_364 hl (by decide) rfl (fun ls hl => ?_)
  refine lv_aload_n hx hb d_law_366 rfl (lv_at hl 4 rfl) ?_
  refine lv_aload_n hx hb d_law_367 rfl (lv_at hl 2 rfl) ?_
  refine lv_iload hx hb d_law_368 (lv_at hl 1 rfl) ?_
  refine lv_iconst (v := nI 1) hx hb d_law_370 (by decide) ?_
  refine mh_addN hx hb d_law_371 ?_
  refine mh_sld hx hb hXs hbl hS (j := (j + 1)) (by omega) (by omega) d_law_372 ?_
  refine lv_aload_n hx hb d_law_373 rfl (lv_at hl 2 rfl) ?_
  refine lv_iload hx hb d_law_374 (lv_at hl 1 rfl) ?_
  refine lv_iconst (v := nI 2) hx hb d_law_376 (by decide) ?_
  refine mh_addN hx hb d_law_377 ?_
  refine mh_sld hx hb hXs hbl hS (j := (j + 2)) (by omega) (by omega) d_law_378 ?_
  refine mh_callI (mh_sV (rest := []) (av := [.int (xs (j + 1)), .int (xs (j + 2))]) K0 hX ((hFw 50 0 (by omega) (by omega)).trans hQ.1) rfl e_MM_delete l_LW_93 k783 k784 rfl rfl d_law_379) (r_delete (hM.to hFw) hG) K0 hOK hml hl.1 e_MM_delete hX hS d_law_379 (Nat.le_of_ble_eq_true rfl) (Nat.le_of_ble_eq_true rfl) (Nat.le_of_ble_eq_true rfl) (by dsimp only [mh_rm, room_1]; omega) (by dsimp only [mh_rm, room_1]; omega) (fun zr w2 H locs hz hw hX hS => ?_)
  obtain ⟨hM2, hD2⟩ := hw
  have hM3 := hM2
  obtain ⟨aG2, aO2, aA2, aV2, aH2, lg2, op2, at2, hQ2⟩ := hM3
  refine lv_istore (lv' := [(6, .int zr), (5, .int (nI (sp_write g (xs (j + 1)) (xs (j + 2)) none).1)), (4, .int (nI j)), (0, .ref b0), (1, .ref x0), (2, .ref m0), (3, .ref o0)]) hx hb d_law_382 hl (by decide) rfl (fun ls hl => ?_)
  refine lv_aload_n hx hb d_law_384 rfl (lv_at hl 5 rfl) ?_
  refine mh_callR (mh_sV (rest := []) (av := []) K0 hX hQ2.1 rfl e_MM_thrown l_LW_77 k736 k737 rfl rfl d_law_385) (c_MM_thrown hQ2.1) K0 hOK hml hl.1 e_MM_thrown hX hS d_law_385 (Nat.le_of_ble_eq_true rfl) (Nat.le_of_ble_eq_true rfl) (Nat.le_of_ble_eq_true rfl) (by dsimp only [mh_rm, room_1]; omega) (by dsimp only [mh_rm, room_1]; omega) (fun H locs hX hS => ?_)
  refine W.eq (g2 := F0 m 388 ls [.int (nI (sp_write g (xs (j + 1)) (xs (j + 2)) none).1)]) rfl ?_
  refine lv_iload hx hb d_law_388 (lv_at hl 1 rfl) ?_
  refine lv_icmp_eq (tgt := 395) hx hb d_law_390 (by decide) (fun _ => ?_) (fun z => absurd z (not_not_intro rfl))
  refine lv_iload hx hb d_law_395 (lv_at hl 1 rfl) ?_
  refine lv_if_ne (tgt := 412) hx hb d_law_397 (by decide) (fun ct => ?_) (fun cf => ?_)
  · skip
    refine lv_goto (tgt := 1076) hx hb d_law_412 (by decide) ?_
    refine W.widen (k := cells + 40) (n := slots + 2000) (by dsimp only [mh_rm]; omega) (by dsimp only [mh_rm]; omega) ?_
    exact kk w2 _ _ _ _ ⟨hC1.c (fun k i hk => hD2 k i (by omega)), ⟨_, hM2⟩, ⟨ov1, (hD2 90 0 (by omega)).trans hov1⟩, so_delete hG⟩ hX hS (lv_sub hl [2, 3, 4, 5, 6] rfl)
  · skip
    have hz0 : (sp_write g (xs (j + 1)) (xs (j + 2)) none).1 = 0 := (nI_eq hlt (by decide)).mp cf
    refine lv_aload_n hx hb d_law_400 rfl (lv_at hl 6 rfl) ?_
    refine lv_iconst (v := nI 0) hx hb d_law_401 (by decide) ?_
    refine mh_laldN K0 hX ((hD2 90 0 (by omega)).trans hov1) (by omega) (by omega) d_law_402 ?_
    refine lv_iload hx hb d_law_403 (lv_at hl 0 rfl) ?_
    refine lv_i2l hx hb d_law_405 rfl ?_
    refine W.lcmp hx hb d_law_406 ?_
    refine lv_if_eq (tgt := 412) hx hb d_law_407 (by decide) (fun _ => ?_) (fun z => absurd z (not_not_intro ((mh_lc0 _ _).mpr ((hans rfl hz0).trans (hz hz0).symm))))
    refine lv_goto (tgt := 1076) hx hb d_law_412 (by decide) ?_
    refine W.widen (k := cells + 40) (n := slots + 2000) (by dsimp only [mh_rm]; omega) (by dsimp only [mh_rm]; omega) ?_
    exact kk w2 _ _ _ _ ⟨hC1.c (fun k i hk => hD2 k i (by omega)), ⟨_, hM2⟩, ⟨ov1, (hD2 90 0 (by omega)).trans hov1⟩, so_delete hG⟩ hX hS (lv_sub hl [2, 3, 4, 5, 6] rfl)
set_option maxHeartbeats 4000000 in
set_option maxRecDepth 100000 in
theorem law_part {p : Program} {l : Launch} {e : Env} {s : State} {m : MethodId} {below : List Frame} {meth : Method} {c : Code} {Q : State → Prop} {dC : Nat → ClassId} {dI : Nat → Nat → Nat} {dA : Nat → ClassId} {zs : Nat → Nat} {b0 L : Nat} {xs : Nat → Int32} (C : lC p l s m c dC dI dA zs b0 L xs) (hL : L ≤ 2560) {j : Nat} (hj : j + 5 ≤ L) {w : mh_w} {x0 m0 o0 : Nat} {g : st_G} (hI : lI dA zs w x0 m0 o0 g) {H : Heap} {locs : List Loc} {ls : Array Slot} {cells slots : Nat} (hX : mh_P (dC, dI) s.heap.size w H) (hS : va_S (mh_A s.heap.size) s.heap H locs) (hl : lv_has ls 8 [(4, .int (nI j)), (0, .ref b0), (1, .ref x0), (2, .ref m0), (3, .ref o0)]) (hcc : cells + 40 ≤ 601024) (hss : slots + 2000 ≤ 7293034)
    (kk : ∀ (w' : mh_w) (g' : st_G) (H1 : Heap) (locs1 : List Loc) (ls1 : Array Slot), lI dA zs w' x0 m0 o0 g' → mh_P (dC, dI) s.heap.size w' H1 → va_S (mh_A s.heap.size) s.heap H1 locs1 → lv_has ls1 8 [(4, .int (nI j)), (0, .ref b0), (1, .ref x0), (2, .ref m0), (3, .ref o0)] → W p l e room_1 s m #[.ref b0] below meth c H1 locs1 (cells + 40) (slots + 2000) Q (F0 m 1076 ls1 [])) : W p l e room_1 s m #[.ref b0] below meth c H locs cells slots Q (F0 m 415 ls []) := by
  obtain ⟨K0, hOK, hl0, hml, hXs, hbl⟩ := C
  have K1 := K0
  obtain ⟨hx, hb, hown, hts, -, -⟩ := K1
  have hb0 : s.heap.size ≤ s.heap.size := Nat.le_refl _
  obtain ⟨hR, ⟨er, hM⟩, ⟨ov, hov⟩, hG⟩ := hI
  have hM2 := hM
  obtain ⟨aG, aO, aA, aV, aH, lg, op, at_, hQ⟩ := hM2
  refine lv_aload_n hx hb d_law_415 rfl (lv_at hl 2 rfl) ?_
  refine lv_aload_n hx hb d_law_416 rfl (lv_at hl 1 rfl) ?_
  refine lv_iload hx hb d_law_417 (lv_at hl 0 rfl) ?_
  refine lv_iconst (v := nI 1) hx hb d_law_419 (by decide) ?_
  refine mh_addN hx hb d_law_420 ?_
  refine mh_sld hx hb hXs hbl hS (j := (j + 1)) (by omega) (by omega) d_law_421 ?_
  refine lv_aload_n hx hb d_law_422 rfl (lv_at hl 1 rfl) ?_
  refine lv_iload hx hb d_law_423 (lv_at hl 0 rfl) ?_
  refine lv_iconst (v := nI 2) hx hb d_law_425 (by decide) ?_
  refine mh_addN hx hb d_law_426 ?_
  refine mh_sld hx hb hXs hbl hS (j := (j + 2)) (by omega) (by omega) d_law_427 ?_
  refine lv_aload_n hx hb d_law_428 rfl (lv_at hl 1 rfl) ?_
  refine lv_iload hx hb d_law_429 (lv_at hl 0 rfl) ?_
  refine lv_iconst (v := nI 3) hx hb d_law_431 (by decide) ?_
  refine mh_addN hx hb d_law_432 ?_
  refine mh_sld hx hb hXs hbl hS (j := (j + 3)) (by omega) (by omega) d_law_433 ?_
  refine lv_aload_n hx hb d_law_434 rfl (lv_at hl 1 rfl) ?_
  refine lv_iload hx hb d_law_435 (lv_at hl 0 rfl) ?_
  refine lv_iconst (v := nI 4) hx hb d_law_437 (by decide) ?_
  refine mh_addN hx hb d_law_438 ?_
  refine mh_sld hx hb hXs hbl hS (j := (j + 4)) (by omega) (by omega) d_law_439 ?_
  refine lv_aload_n hx hb d_law_440 rfl (lv_at hl 4 rfl) ?_
  have hlt := sl_part hG (t := (xs (j + 1))) (low := (xs (j + 2))) (high := (xs (j + 3))) (what := (xs (j + 4)))
  refine mh_callV (mh_sS (rest := []) (av := [.ref x0, .int (xs (j + 1)), .int (xs (j + 2)), .int (xs (j + 3)), .int (xs (j + 4)), .ref o0]) K0 e_LW_part l_LW_94 k405 rfl rfl d_law_441) (l_part hl0 hR hG hov) K0 hOK hml hl.1 e_LW_part hX hS d_law_441 (Nat.le_of_ble_eq_true rfl) (Nat.le_of_ble_eq_true rfl) (Nat.le_of_ble_eq_true rfl) (by dsimp only [mh_rm, room_1]; omega) (by dsimp only [mh_rm, room_1]; omega) (fun w1 H locs ⟨hC1, ⟨ov1, hov1, hans⟩, hFw⟩ hX hS => ?_)
  refine W.eq (g2 := F0 m 444 ls [.int (nI (sp_part g (xs (j + 1)) (xs (j + 2)) (xs (j + 3)) (xs (j + 4))).1)]) rfl ?_
  refine lv_istore (lv' := [(5, .int (nI (sp_part g (xs (j + 1)) (xs (j + 2)) (xs (j + 3)) (xs (j + 4))).1)), (4, .int (nI j)), (0, .ref b0), (1, .ref x0), (2, .ref m0), (3, .ref o0)]) hx hb d_law_444 hl (by decide) rfl (fun ls hl => ?_)
  refine lv_aload_n hx hb d_law_446 rfl (lv_at hl 4 rfl) ?_
  refine lv_aload_n hx hb d_law_447 rfl (lv_at hl 2 rfl) ?_
  refine lv_iload hx hb d_law_448 (lv_at hl 1 rfl) ?_
  refine lv_iconst (v := nI 1) hx hb d_law_450 (by decide) ?_
  refine mh_addN hx hb d_law_451 ?_
  refine mh_sld hx hb hXs hbl hS (j := (j + 1)) (by omega) (by omega) d_law_452 ?_
  refine lv_aload_n hx hb d_law_453 rfl (lv_at hl 2 rfl) ?_
  refine lv_iload hx hb d_law_454 (lv_at hl 1 rfl) ?_
  refine lv_iconst (v := nI 2) hx hb d_law_456 (by decide) ?_
  refine mh_addN hx hb d_law_457 ?_
  refine mh_sld hx hb hXs hbl hS (j := (j + 2)) (by omega) (by omega) d_law_458 ?_
  refine lv_aload_n hx hb d_law_459 rfl (lv_at hl 2 rfl) ?_
  refine lv_iload hx hb d_law_460 (lv_at hl 1 rfl) ?_
  refine lv_iconst (v := nI 3) hx hb d_law_462 (by decide) ?_
  refine mh_addN hx hb d_law_463 ?_
  refine mh_sld hx hb hXs hbl hS (j := (j + 3)) (by omega) (by omega) d_law_464 ?_
  refine lv_aload_n hx hb d_law_465 rfl (lv_at hl 2 rfl) ?_
  refine lv_iload hx hb d_law_466 (lv_at hl 1 rfl) ?_
  refine lv_iconst (v := nI 4) hx hb d_law_468 (by decide) ?_
  refine mh_addN hx hb d_law_469 ?_
  refine mh_sld hx hb hXs hbl hS (j := (j + 4)) (by omega) (by omega) d_law_470 ?_
  refine mh_callJ (mh_sV (rest := []) (av := [.int (xs (j + 1)), .int (xs (j + 2)), .int (xs (j + 3)), .int (xs (j + 4))]) K0 hX ((hFw 50 0 (by omega) (by omega)).trans hQ.1) rfl e_MM_part l_LW_97 k787 k788 rfl rfl d_law_471) (r_part (hM.to hFw) hG) K0 hOK hml hl.1 e_MM_part hX hS d_law_471 (Nat.le_of_ble_eq_true rfl) (Nat.le_of_ble_eq_true rfl) (Nat.le_of_ble_eq_true rfl) (by dsimp only [mh_rm, room_1]; omega) (by dsimp only [mh_rm, room_1]; omega) (fun zr w2 H locs hz hw hX hS => ?_)
  obtain ⟨hM2, hD2⟩ := hw
  have hM3 := hM2
  obtain ⟨aG2, aO2, aA2, aV2, aH2, lg2, op2, at2, hQ2⟩ := hM3
  refine lv_lstore (lv' := [(6, .long zr), (5, .int (nI (sp_part g (xs (j + 1)) (xs (j + 2)) (xs (j + 3)) (xs (j + 4))).1)), (4, .int (nI j)), (0, .ref b0), (1, .ref x0), (2, .ref m0), (3, .ref o0)]) hx hb d_law_474 hl (by decide) rfl (fun ls hl => ?_)
  refine lv_aload_n hx hb d_law_476 rfl (lv_at hl 5 rfl) ?_
  refine mh_callR (mh_sV (rest := []) (av := []) K0 hX hQ2.1 rfl e_MM_thrown l_LW_77 k736 k737 rfl rfl d_law_477) (c_MM_thrown hQ2.1) K0 hOK hml hl.1 e_MM_thrown hX hS d_law_477 (Nat.le_of_ble_eq_true rfl) (Nat.le_of_ble_eq_true rfl) (Nat.le_of_ble_eq_true rfl) (by dsimp only [mh_rm, room_1]; omega) (by dsimp only [mh_rm, room_1]; omega) (fun H locs hX hS => ?_)
  refine W.eq (g2 := F0 m 480 ls [.int (nI (sp_part g (xs (j + 1)) (xs (j + 2)) (xs (j + 3)) (xs (j + 4))).1)]) rfl ?_
  refine lv_iload hx hb d_law_480 (lv_at hl 1 rfl) ?_
  refine lv_icmp_eq (tgt := 487) hx hb d_law_482 (by decide) (fun _ => ?_) (fun z => absurd z (not_not_intro rfl))
  refine lv_iload hx hb d_law_487 (lv_at hl 1 rfl) ?_
  refine lv_if_ne (tgt := 503) hx hb d_law_489 (by decide) (fun ct => ?_) (fun cf => ?_)
  · skip
    refine lv_goto (tgt := 1076) hx hb d_law_503 (by decide) ?_
    refine W.widen (k := cells + 40) (n := slots + 2000) (by dsimp only [mh_rm]; omega) (by dsimp only [mh_rm]; omega) ?_
    exact kk w2 _ _ _ _ ⟨hC1.c (fun k i hk => hD2 k i (by omega)), ⟨_, hM2⟩, ⟨ov1, (hD2 90 0 (by omega)).trans hov1⟩, so_part hG⟩ hX hS (lv_sub hl [2, 3, 4, 5, 6] rfl)
  · skip
    have hz0 : (sp_part g (xs (j + 1)) (xs (j + 2)) (xs (j + 3)) (xs (j + 4))).1 = 0 := (nI_eq hlt (by decide)).mp cf
    refine lv_aload_n hx hb d_law_492 rfl (lv_at hl 6 rfl) ?_
    refine lv_iconst (v := nI 0) hx hb d_law_493 (by decide) ?_
    refine mh_laldN K0 hX ((hD2 90 0 (by omega)).trans hov1) (by omega) (by omega) d_law_494 ?_
    refine lv_lload hx hb d_law_495 (lv_at hl 0 rfl) ?_
    refine W.lcmp hx hb d_law_497 ?_
    refine lv_if_eq (tgt := 503) hx hb d_law_498 (by decide) (fun _ => ?_) (fun z => absurd z (not_not_intro ((mh_lc0 _ _).mpr ((hans rfl hz0).trans (hz hz0).symm))))
    refine lv_goto (tgt := 1076) hx hb d_law_503 (by decide) ?_
    refine W.widen (k := cells + 40) (n := slots + 2000) (by dsimp only [mh_rm]; omega) (by dsimp only [mh_rm]; omega) ?_
    exact kk w2 _ _ _ _ ⟨hC1.c (fun k i hk => hD2 k i (by omega)), ⟨_, hM2⟩, ⟨ov1, (hD2 90 0 (by omega)).trans hov1⟩, so_part hG⟩ hX hS (lv_sub hl [2, 3, 4, 5, 6] rfl)
set_option maxHeartbeats 4000000 in
set_option maxRecDepth 100000 in
theorem law_commit {p : Program} {l : Launch} {e : Env} {s : State} {m : MethodId} {below : List Frame} {meth : Method} {c : Code} {Q : State → Prop} {dC : Nat → ClassId} {dI : Nat → Nat → Nat} {dA : Nat → ClassId} {zs : Nat → Nat} {b0 L : Nat} {xs : Nat → Int32} (C : lC p l s m c dC dI dA zs b0 L xs) (hL : L ≤ 2560) {j : Nat} (hj : j + 5 ≤ L) {w : mh_w} {x0 m0 o0 : Nat} {g : st_G} (hI : lI dA zs w x0 m0 o0 g) {H : Heap} {locs : List Loc} {ls : Array Slot} {cells slots : Nat} (hX : mh_P (dC, dI) s.heap.size w H) (hS : va_S (mh_A s.heap.size) s.heap H locs) (hl : lv_has ls 8 [(4, .int (nI j)), (0, .ref b0), (1, .ref x0), (2, .ref m0), (3, .ref o0)]) (hcc : cells + 40 ≤ 601024) (hss : slots + 2000 ≤ 7293034)
    (kk : ∀ (w' : mh_w) (g' : st_G) (H1 : Heap) (locs1 : List Loc) (ls1 : Array Slot), lI dA zs w' x0 m0 o0 g' → mh_P (dC, dI) s.heap.size w' H1 → va_S (mh_A s.heap.size) s.heap H1 locs1 → lv_has ls1 8 [(4, .int (nI j)), (0, .ref b0), (1, .ref x0), (2, .ref m0), (3, .ref o0)] → W p l e room_1 s m #[.ref b0] below meth c H1 locs1 (cells + 40) (slots + 2000) Q (F0 m 1076 ls1 [])) : W p l e room_1 s m #[.ref b0] below meth c H locs cells slots Q (F0 m 506 ls []) := by
  obtain ⟨K0, hOK, hl0, hml, hXs, hbl⟩ := C
  have K1 := K0
  obtain ⟨hx, hb, hown, hts, -, -⟩ := K1
  have hb0 : s.heap.size ≤ s.heap.size := Nat.le_refl _
  obtain ⟨hR, ⟨er, hM⟩, ⟨ov, hov⟩, hG⟩ := hI
  have hM2 := hM
  obtain ⟨aG, aO, aA, aV, aH, lg, op, at_, hQ⟩ := hM2
  refine lv_aload_n hx hb d_law_506 rfl (lv_at hl 2 rfl) ?_
  refine lv_aload_n hx hb d_law_507 rfl (lv_at hl 1 rfl) ?_
  refine lv_iload hx hb d_law_508 (lv_at hl 0 rfl) ?_
  refine lv_iconst (v := nI 1) hx hb d_law_510 (by decide) ?_
  refine mh_addN hx hb d_law_511 ?_
  refine mh_sld hx hb hXs hbl hS (j := (j + 1)) (by omega) (by omega) d_law_512 ?_
  refine lv_aload_n hx hb d_law_513 rfl (lv_at hl 4 rfl) ?_
  have hlt := sl_commit hG (t := (xs (j + 1)))
  refine mh_callV (mh_sS (rest := []) (av := [.ref x0, .int (xs (j + 1)), .ref o0]) K0 e_LW_commit l_LW_98 k441 rfl rfl d_law_514) (l_commit hl0 hR hG hov) K0 hOK hml hl.1 e_LW_commit hX hS d_law_514 (Nat.le_of_ble_eq_true rfl) (Nat.le_of_ble_eq_true rfl) (Nat.le_of_ble_eq_true rfl) (by dsimp only [mh_rm, room_1]; omega) (by dsimp only [mh_rm, room_1]; omega) (fun w1 H locs ⟨hC1, ⟨ov1, hov1, hans⟩, hFw⟩ hX hS => ?_)
  refine W.eq (g2 := F0 m 517 ls [.int (nI (sp_commit g (xs (j + 1))).1)]) rfl ?_
  refine lv_istore (lv' := [(5, .int (nI (sp_commit g (xs (j + 1))).1)), (4, .int (nI j)), (0, .ref b0), (1, .ref x0), (2, .ref m0), (3, .ref o0)]) hx hb d_law_517 hl (by decide) rfl (fun ls hl => ?_)
  refine lv_aload_n hx hb d_law_519 rfl (lv_at hl 4 rfl) ?_
  refine lv_aload_n hx hb d_law_520 rfl (lv_at hl 2 rfl) ?_
  refine lv_iload hx hb d_law_521 (lv_at hl 1 rfl) ?_
  refine lv_iconst (v := nI 1) hx hb d_law_523 (by decide) ?_
  refine mh_addN hx hb d_law_524 ?_
  refine mh_sld hx hb hXs hbl hS (j := (j + 1)) (by omega) (by omega) d_law_525 ?_
  refine mh_callI (mh_sV (rest := []) (av := [.int (xs (j + 1))]) K0 hX ((hFw 50 0 (by omega) (by omega)).trans hQ.1) rfl e_MM_commit l_LW_101 k798 k799 rfl rfl d_law_526) (r_commit (hM.to hFw) hG) K0 hOK hml hl.1 e_MM_commit hX hS d_law_526 (Nat.le_of_ble_eq_true rfl) (Nat.le_of_ble_eq_true rfl) (Nat.le_of_ble_eq_true rfl) (by dsimp only [mh_rm, room_1]; omega) (by dsimp only [mh_rm, room_1]; omega) (fun zr w2 H locs hz hw hX hS => ?_)
  obtain ⟨hM2, hD2⟩ := hw
  have hM3 := hM2
  obtain ⟨aG2, aO2, aA2, aV2, aH2, lg2, op2, at2, hQ2⟩ := hM3
  refine lv_istore (lv' := [(6, .int zr), (5, .int (nI (sp_commit g (xs (j + 1))).1)), (4, .int (nI j)), (0, .ref b0), (1, .ref x0), (2, .ref m0), (3, .ref o0)]) hx hb d_law_529 hl (by decide) rfl (fun ls hl => ?_)
  refine lv_aload_n hx hb d_law_531 rfl (lv_at hl 5 rfl) ?_
  refine mh_callR (mh_sV (rest := []) (av := []) K0 hX hQ2.1 rfl e_MM_thrown l_LW_77 k736 k737 rfl rfl d_law_532) (c_MM_thrown hQ2.1) K0 hOK hml hl.1 e_MM_thrown hX hS d_law_532 (Nat.le_of_ble_eq_true rfl) (Nat.le_of_ble_eq_true rfl) (Nat.le_of_ble_eq_true rfl) (by dsimp only [mh_rm, room_1]; omega) (by dsimp only [mh_rm, room_1]; omega) (fun H locs hX hS => ?_)
  refine W.eq (g2 := F0 m 535 ls [.int (nI (sp_commit g (xs (j + 1))).1)]) rfl ?_
  refine lv_iload hx hb d_law_535 (lv_at hl 1 rfl) ?_
  refine lv_icmp_eq (tgt := 542) hx hb d_law_537 (by decide) (fun _ => ?_) (fun z => absurd z (not_not_intro rfl))
  refine lv_iload hx hb d_law_542 (lv_at hl 1 rfl) ?_
  refine lv_if_ne (tgt := 559) hx hb d_law_544 (by decide) (fun ct => ?_) (fun cf => ?_)
  · skip
    refine lv_goto (tgt := 1076) hx hb d_law_559 (by decide) ?_
    refine W.widen (k := cells + 40) (n := slots + 2000) (by dsimp only [mh_rm]; omega) (by dsimp only [mh_rm]; omega) ?_
    exact kk w2 _ _ _ _ ⟨hC1.c (fun k i hk => hD2 k i (by omega)), ⟨_, hM2⟩, ⟨ov1, (hD2 90 0 (by omega)).trans hov1⟩, so_commit hG⟩ hX hS (lv_sub hl [2, 3, 4, 5, 6] rfl)
  · skip
    have hz0 : (sp_commit g (xs (j + 1))).1 = 0 := (nI_eq hlt (by decide)).mp cf
    refine lv_aload_n hx hb d_law_547 rfl (lv_at hl 6 rfl) ?_
    refine lv_iconst (v := nI 0) hx hb d_law_548 (by decide) ?_
    refine mh_laldN K0 hX ((hD2 90 0 (by omega)).trans hov1) (by omega) (by omega) d_law_549 ?_
    refine lv_iload hx hb d_law_550 (lv_at hl 0 rfl) ?_
    refine lv_i2l hx hb d_law_552 rfl ?_
    refine W.lcmp hx hb d_law_553 ?_
    refine lv_if_eq (tgt := 559) hx hb d_law_554 (by decide) (fun _ => ?_) (fun z => absurd z (not_not_intro ((mh_lc0 _ _).mpr ((hans rfl hz0).trans (hz hz0).symm))))
    refine lv_goto (tgt := 1076) hx hb d_law_559 (by decide) ?_
    refine W.widen (k := cells + 40) (n := slots + 2000) (by dsimp only [mh_rm]; omega) (by dsimp only [mh_rm]; omega) ?_
    exact kk w2 _ _ _ _ ⟨hC1.c (fun k i hk => hD2 k i (by omega)), ⟨_, hM2⟩, ⟨ov1, (hD2 90 0 (by omega)).trans hov1⟩, so_commit hG⟩ hX hS (lv_sub hl [2, 3, 4, 5, 6] rfl)
set_option maxHeartbeats 4000000 in
set_option maxRecDepth 100000 in
theorem law_abort {p : Program} {l : Launch} {e : Env} {s : State} {m : MethodId} {below : List Frame} {meth : Method} {c : Code} {Q : State → Prop} {dC : Nat → ClassId} {dI : Nat → Nat → Nat} {dA : Nat → ClassId} {zs : Nat → Nat} {b0 L : Nat} {xs : Nat → Int32} (C : lC p l s m c dC dI dA zs b0 L xs) (hL : L ≤ 2560) {j : Nat} (hj : j + 5 ≤ L) {w : mh_w} {x0 m0 o0 : Nat} {g : st_G} (hI : lI dA zs w x0 m0 o0 g) {H : Heap} {locs : List Loc} {ls : Array Slot} {cells slots : Nat} (hX : mh_P (dC, dI) s.heap.size w H) (hS : va_S (mh_A s.heap.size) s.heap H locs) (hl : lv_has ls 8 [(4, .int (nI j)), (0, .ref b0), (1, .ref x0), (2, .ref m0), (3, .ref o0)]) (hcc : cells + 40 ≤ 601024) (hss : slots + 2000 ≤ 7293034)
    (kk : ∀ (w' : mh_w) (g' : st_G) (H1 : Heap) (locs1 : List Loc) (ls1 : Array Slot), lI dA zs w' x0 m0 o0 g' → mh_P (dC, dI) s.heap.size w' H1 → va_S (mh_A s.heap.size) s.heap H1 locs1 → lv_has ls1 8 [(4, .int (nI j)), (0, .ref b0), (1, .ref x0), (2, .ref m0), (3, .ref o0)] → W p l e room_1 s m #[.ref b0] below meth c H1 locs1 (cells + 40) (slots + 2000) Q (F0 m 1076 ls1 [])) : W p l e room_1 s m #[.ref b0] below meth c H locs cells slots Q (F0 m 562 ls []) := by
  obtain ⟨K0, hOK, hl0, hml, hXs, hbl⟩ := C
  have K1 := K0
  obtain ⟨hx, hb, hown, hts, -, -⟩ := K1
  have hb0 : s.heap.size ≤ s.heap.size := Nat.le_refl _
  obtain ⟨hR, ⟨er, hM⟩, ⟨ov, hov⟩, hG⟩ := hI
  have hM2 := hM
  obtain ⟨aG, aO, aA, aV, aH, lg, op, at_, hQ⟩ := hM2
  refine lv_aload_n hx hb d_law_562 rfl (lv_at hl 2 rfl) ?_
  refine lv_aload_n hx hb d_law_563 rfl (lv_at hl 1 rfl) ?_
  refine lv_iload hx hb d_law_564 (lv_at hl 0 rfl) ?_
  refine lv_iconst (v := nI 1) hx hb d_law_566 (by decide) ?_
  refine mh_addN hx hb d_law_567 ?_
  refine mh_sld hx hb hXs hbl hS (j := (j + 1)) (by omega) (by omega) d_law_568 ?_
  have hlt := sl_abort hG (t := (xs (j + 1)))
  refine mh_callV (mh_sS (rest := []) (av := [.ref x0, .int (xs (j + 1))]) K0 e_LW_abort l_LW_102 k535 rfl rfl d_law_569) (l_abort hl0 hR hG hov) K0 hOK hml hl.1 e_LW_abort hX hS d_law_569 (Nat.le_of_ble_eq_true rfl) (Nat.le_of_ble_eq_true rfl) (Nat.le_of_ble_eq_true rfl) (by dsimp only [mh_rm, room_1]; omega) (by dsimp only [mh_rm, room_1]; omega) (fun w1 H locs ⟨hC1, ⟨ov1, hov1, hans⟩, hFw⟩ hX hS => ?_)
  refine W.eq (g2 := F0 m 572 ls [.int (nI (sp_abort g (xs (j + 1))).1)]) rfl ?_
  refine lv_istore (lv' := [(5, .int (nI (sp_abort g (xs (j + 1))).1)), (4, .int (nI j)), (0, .ref b0), (1, .ref x0), (2, .ref m0), (3, .ref o0)]) hx hb d_law_572 hl (by decide) rfl (fun ls hl => ?_)
  refine lv_aload_n hx hb d_law_574 rfl (lv_at hl 4 rfl) ?_
  refine lv_aload_n hx hb d_law_575 rfl (lv_at hl 2 rfl) ?_
  refine lv_iload hx hb d_law_576 (lv_at hl 1 rfl) ?_
  refine lv_iconst (v := nI 1) hx hb d_law_578 (by decide) ?_
  refine mh_addN hx hb d_law_579 ?_
  refine mh_sld hx hb hXs hbl hS (j := (j + 1)) (by omega) (by omega) d_law_580 ?_
  refine mh_callV (mh_sV (rest := []) (av := [.int (xs (j + 1))]) K0 hX ((hFw 50 0 (by omega) (by omega)).trans hQ.1) rfl e_MM_abort l_LW_105 k806 k807 rfl rfl d_law_581) (r_abort (hM.to hFw) hG) K0 hOK hml hl.1 e_MM_abort hX hS d_law_581 (Nat.le_of_ble_eq_true rfl) (Nat.le_of_ble_eq_true rfl) (Nat.le_of_ble_eq_true rfl) (by dsimp only [mh_rm, room_1]; omega) (by dsimp only [mh_rm, room_1]; omega) (fun w2 H locs ⟨hM2, hD2⟩ hX hS => ?_)
  refine W.eq (g2 := F0 m 584 ls []) rfl ?_
  have hM3 := hM2
  obtain ⟨aG2, aO2, aA2, aV2, aH2, lg2, op2, at2, hQ2⟩ := hM3
  refine lv_aload_n hx hb d_law_584 rfl (lv_at hl 4 rfl) ?_
  refine mh_callR (mh_sV (rest := []) (av := []) K0 hX hQ2.1 rfl e_MM_thrown l_LW_77 k736 k737 rfl rfl d_law_585) (c_MM_thrown hQ2.1) K0 hOK hml hl.1 e_MM_thrown hX hS d_law_585 (Nat.le_of_ble_eq_true rfl) (Nat.le_of_ble_eq_true rfl) (Nat.le_of_ble_eq_true rfl) (by dsimp only [mh_rm, room_1]; omega) (by dsimp only [mh_rm, room_1]; omega) (fun H locs hX hS => ?_)
  refine W.eq (g2 := F0 m 588 ls [.int (nI (sp_abort g (xs (j + 1))).1)]) rfl ?_
  refine lv_iload hx hb d_law_588 (lv_at hl 0 rfl) ?_
  refine lv_icmp_eq (tgt := 595) hx hb d_law_590 (by decide) (fun _ => ?_) (fun z => absurd z (not_not_intro rfl))
  refine lv_goto (tgt := 1076) hx hb d_law_595 (by decide) ?_
  refine W.widen (k := cells + 40) (n := slots + 2000) (by dsimp only [mh_rm]; omega) (by dsimp only [mh_rm]; omega) ?_
  exact kk w2 _ _ _ _ ⟨hC1.c (fun k i hk => hD2 k i (by omega)), ⟨_, hM2⟩, ⟨ov1, (hD2 90 0 (by omega)).trans hov1⟩, so_abort hG⟩ hX hS (lv_sub hl [1, 2, 3, 4, 5] rfl)
set_option maxHeartbeats 4000000 in
set_option maxRecDepth 100000 in
theorem law_advance {p : Program} {l : Launch} {e : Env} {s : State} {m : MethodId} {below : List Frame} {meth : Method} {c : Code} {Q : State → Prop} {dC : Nat → ClassId} {dI : Nat → Nat → Nat} {dA : Nat → ClassId} {zs : Nat → Nat} {b0 L : Nat} {xs : Nat → Int32} (C : lC p l s m c dC dI dA zs b0 L xs) (hL : L ≤ 2560) {j : Nat} (hj : j + 5 ≤ L) {w : mh_w} {x0 m0 o0 : Nat} {g : st_G} (hI : lI dA zs w x0 m0 o0 g) {H : Heap} {locs : List Loc} {ls : Array Slot} {cells slots : Nat} (hX : mh_P (dC, dI) s.heap.size w H) (hS : va_S (mh_A s.heap.size) s.heap H locs) (hl : lv_has ls 8 [(4, .int (nI j)), (0, .ref b0), (1, .ref x0), (2, .ref m0), (3, .ref o0)]) (hcc : cells + 40 ≤ 601024) (hss : slots + 2000 ≤ 7293034)
    (kk : ∀ (w' : mh_w) (g' : st_G) (H1 : Heap) (locs1 : List Loc) (ls1 : Array Slot), lI dA zs w' x0 m0 o0 g' → mh_P (dC, dI) s.heap.size w' H1 → va_S (mh_A s.heap.size) s.heap H1 locs1 → lv_has ls1 8 [(4, .int (nI j)), (0, .ref b0), (1, .ref x0), (2, .ref m0), (3, .ref o0)] → W p l e room_1 s m #[.ref b0] below meth c H1 locs1 (cells + 40) (slots + 2000) Q (F0 m 1076 ls1 [])) : W p l e room_1 s m #[.ref b0] below meth c H locs cells slots Q (F0 m 598 ls []) := by
  obtain ⟨K0, hOK, hl0, hml, hXs, hbl⟩ := C
  have K1 := K0
  obtain ⟨hx, hb, hown, hts, -, -⟩ := K1
  have hb0 : s.heap.size ≤ s.heap.size := Nat.le_refl _
  obtain ⟨hR, ⟨er, hM⟩, ⟨ov, hov⟩, hG⟩ := hI
  have hM2 := hM
  obtain ⟨aG, aO, aA, aV, aH, lg, op, at_, hQ⟩ := hM2
  refine lv_aload_n hx hb d_law_598 rfl (lv_at hl 2 rfl) ?_
  refine lv_aload_n hx hb d_law_599 rfl (lv_at hl 1 rfl) ?_
  refine lv_iload hx hb d_law_600 (lv_at hl 0 rfl) ?_
  refine lv_iconst (v := nI 1) hx hb d_law_602 (by decide) ?_
  refine mh_addN hx hb d_law_603 ?_
  refine mh_sld hx hb hXs hbl hS (j := (j + 1)) (by omega) (by omega) d_law_604 ?_
  refine lv_aload_n hx hb d_law_605 rfl (lv_at hl 1 rfl) ?_
  refine lv_iload hx hb d_law_606 (lv_at hl 0 rfl) ?_
  refine lv_iconst (v := nI 2) hx hb d_law_608 (by decide) ?_
  refine mh_addN hx hb d_law_609 ?_
  refine mh_sld hx hb hXs hbl hS (j := (j + 2)) (by omega) (by omega) d_law_610 ?_
  refine lv_aload_n hx hb d_law_611 rfl (lv_at hl 4 rfl) ?_
  have hlt := sl_advance hG (u := (xs (j + 1))) (k := (xs (j + 2)))
  refine mh_callV (mh_sS (rest := []) (av := [.ref x0, .int (xs (j + 1)), .int (xs (j + 2)), .ref o0]) K0 e_LW_advance l_LW_106 k542 rfl rfl d_law_612) (l_advance hl0 hR hG hov) K0 hOK hml hl.1 e_LW_advance hX hS d_law_612 (Nat.le_of_ble_eq_true rfl) (Nat.le_of_ble_eq_true rfl) (Nat.le_of_ble_eq_true rfl) (by dsimp only [mh_rm, room_1]; omega) (by dsimp only [mh_rm, room_1]; omega) (fun w1 H locs ⟨hC1, ⟨ov1, hov1, hans⟩, hFw⟩ hX hS => ?_)
  refine W.eq (g2 := F0 m 615 ls [.int (nI (sp_advance g (xs (j + 1)) (xs (j + 2))).1)]) rfl ?_
  refine lv_istore (lv' := [(5, .int (nI (sp_advance g (xs (j + 1)) (xs (j + 2))).1)), (4, .int (nI j)), (0, .ref b0), (1, .ref x0), (2, .ref m0), (3, .ref o0)]) hx hb d_law_615 hl (by decide) rfl (fun ls hl => ?_)
  refine lv_aload_n hx hb d_law_617 rfl (lv_at hl 4 rfl) ?_
  refine lv_aload_n hx hb d_law_618 rfl (lv_at hl 2 rfl) ?_
  refine lv_iload hx hb d_law_619 (lv_at hl 1 rfl) ?_
  refine lv_iconst (v := nI 1) hx hb d_law_621 (by decide) ?_
  refine mh_addN hx hb d_law_622 ?_
  refine mh_sld hx hb hXs hbl hS (j := (j + 1)) (by omega) (by omega) d_law_623 ?_
  refine lv_aload_n hx hb d_law_624 rfl (lv_at hl 2 rfl) ?_
  refine lv_iload hx hb d_law_625 (lv_at hl 1 rfl) ?_
  refine lv_iconst (v := nI 2) hx hb d_law_627 (by decide) ?_
  refine mh_addN hx hb d_law_628 ?_
  refine mh_sld hx hb hXs hbl hS (j := (j + 2)) (by omega) (by omega) d_law_629 ?_
  refine mh_callI (mh_sV (rest := []) (av := [.int (xs (j + 1)), .int (xs (j + 2))]) K0 hX ((hFw 50 0 (by omega) (by omega)).trans hQ.1) rfl e_MM_advance l_LW_108 k810 k811 rfl rfl d_law_630) (r_advance (hM.to hFw) hG) K0 hOK hml hl.1 e_MM_advance hX hS d_law_630 (Nat.le_of_ble_eq_true rfl) (Nat.le_of_ble_eq_true rfl) (Nat.le_of_ble_eq_true rfl) (by dsimp only [mh_rm, room_1]; omega) (by dsimp only [mh_rm, room_1]; omega) (fun zr w2 H locs hz hw hX hS => ?_)
  obtain ⟨hM2, hD2⟩ := hw
  have hM3 := hM2
  obtain ⟨aG2, aO2, aA2, aV2, aH2, lg2, op2, at2, hQ2⟩ := hM3
  refine lv_istore (lv' := [(6, .int zr), (5, .int (nI (sp_advance g (xs (j + 1)) (xs (j + 2))).1)), (4, .int (nI j)), (0, .ref b0), (1, .ref x0), (2, .ref m0), (3, .ref o0)]) hx hb d_law_633 hl (by decide) rfl (fun ls hl => ?_)
  refine lv_aload_n hx hb d_law_635 rfl (lv_at hl 5 rfl) ?_
  refine mh_callR (mh_sV (rest := []) (av := []) K0 hX hQ2.1 rfl e_MM_thrown l_LW_77 k736 k737 rfl rfl d_law_636) (c_MM_thrown hQ2.1) K0 hOK hml hl.1 e_MM_thrown hX hS d_law_636 (Nat.le_of_ble_eq_true rfl) (Nat.le_of_ble_eq_true rfl) (Nat.le_of_ble_eq_true rfl) (by dsimp only [mh_rm, room_1]; omega) (by dsimp only [mh_rm, room_1]; omega) (fun H locs hX hS => ?_)
  refine W.eq (g2 := F0 m 639 ls [.int (nI (sp_advance g (xs (j + 1)) (xs (j + 2))).1)]) rfl ?_
  refine lv_iload hx hb d_law_639 (lv_at hl 1 rfl) ?_
  refine lv_icmp_eq (tgt := 646) hx hb d_law_641 (by decide) (fun _ => ?_) (fun z => absurd z (not_not_intro rfl))
  refine lv_iload hx hb d_law_646 (lv_at hl 1 rfl) ?_
  refine lv_if_ne (tgt := 663) hx hb d_law_648 (by decide) (fun ct => ?_) (fun cf => ?_)
  · skip
    refine lv_goto (tgt := 1076) hx hb d_law_663 (by decide) ?_
    refine W.widen (k := cells + 40) (n := slots + 2000) (by dsimp only [mh_rm]; omega) (by dsimp only [mh_rm]; omega) ?_
    exact kk w2 _ _ _ _ ⟨hC1.c (fun k i hk => hD2 k i (by omega)), ⟨_, hM2⟩, ⟨ov1, (hD2 90 0 (by omega)).trans hov1⟩, so_advance hG⟩ hX hS (lv_sub hl [2, 3, 4, 5, 6] rfl)
  · skip
    have hz0 : (sp_advance g (xs (j + 1)) (xs (j + 2))).1 = 0 := (nI_eq hlt (by decide)).mp cf
    refine lv_aload_n hx hb d_law_651 rfl (lv_at hl 6 rfl) ?_
    refine lv_iconst (v := nI 0) hx hb d_law_652 (by decide) ?_
    refine mh_laldN K0 hX ((hD2 90 0 (by omega)).trans hov1) (by omega) (by omega) d_law_653 ?_
    refine lv_iload hx hb d_law_654 (lv_at hl 0 rfl) ?_
    refine lv_i2l hx hb d_law_656 rfl ?_
    refine W.lcmp hx hb d_law_657 ?_
    refine lv_if_eq (tgt := 663) hx hb d_law_658 (by decide) (fun _ => ?_) (fun z => absurd z (not_not_intro ((mh_lc0 _ _).mpr ((hans rfl hz0).trans (hz hz0).symm))))
    refine lv_goto (tgt := 1076) hx hb d_law_663 (by decide) ?_
    refine W.widen (k := cells + 40) (n := slots + 2000) (by dsimp only [mh_rm]; omega) (by dsimp only [mh_rm]; omega) ?_
    exact kk w2 _ _ _ _ ⟨hC1.c (fun k i hk => hD2 k i (by omega)), ⟨_, hM2⟩, ⟨ov1, (hD2 90 0 (by omega)).trans hov1⟩, so_advance hG⟩ hX hS (lv_sub hl [2, 3, 4, 5, 6] rfl)
set_option maxHeartbeats 4000000 in
set_option maxRecDepth 100000 in
theorem law_restart {p : Program} {l : Launch} {e : Env} {s : State} {m : MethodId} {below : List Frame} {meth : Method} {c : Code} {Q : State → Prop} {dC : Nat → ClassId} {dI : Nat → Nat → Nat} {dA : Nat → ClassId} {zs : Nat → Nat} {b0 L : Nat} {xs : Nat → Int32} (C : lC p l s m c dC dI dA zs b0 L xs) (hL : L ≤ 2560) {j : Nat} (hj : j + 5 ≤ L) {w : mh_w} {x0 m0 o0 : Nat} {g : st_G} (hI : lI dA zs w x0 m0 o0 g) {H : Heap} {locs : List Loc} {ls : Array Slot} {cells slots : Nat} (hX : mh_P (dC, dI) s.heap.size w H) (hS : va_S (mh_A s.heap.size) s.heap H locs) (hl : lv_has ls 8 [(4, .int (nI j)), (0, .ref b0), (1, .ref x0), (2, .ref m0), (3, .ref o0)]) (hcc : cells + 40 ≤ 601024) (hss : slots + 2000 ≤ 7293034)
    (kk : ∀ (w' : mh_w) (g' : st_G) (H1 : Heap) (locs1 : List Loc) (ls1 : Array Slot), lI dA zs w' x0 m0 o0 g' → mh_P (dC, dI) s.heap.size w' H1 → va_S (mh_A s.heap.size) s.heap H1 locs1 → lv_has ls1 8 [(4, .int (nI j)), (0, .ref b0), (1, .ref x0), (2, .ref m0), (3, .ref o0)] → W p l e room_1 s m #[.ref b0] below meth c H1 locs1 (cells + 40) (slots + 2000) Q (F0 m 1076 ls1 [])) : W p l e room_1 s m #[.ref b0] below meth c H locs cells slots Q (F0 m 666 ls []) := by
  obtain ⟨K0, hOK, hl0, hml, hXs, hbl⟩ := C
  have K1 := K0
  obtain ⟨hx, hb, hown, hts, -, -⟩ := K1
  have hb0 : s.heap.size ≤ s.heap.size := Nat.le_refl _
  obtain ⟨hR, ⟨er, hM⟩, ⟨ov, hov⟩, hG⟩ := hI
  have hM2 := hM
  obtain ⟨aG, aO, aA, aV, aH, lg, op, at_, hQ⟩ := hM2
  refine lv_aload_n hx hb d_law_666 rfl (lv_at hl 2 rfl) ?_
  refine lv_aload_n hx hb d_law_667 rfl (lv_at hl 1 rfl) ?_
  refine lv_iload hx hb d_law_668 (lv_at hl 0 rfl) ?_
  refine lv_iconst (v := nI 1) hx hb d_law_670 (by decide) ?_
  refine mh_addN hx hb d_law_671 ?_
  refine mh_sld hx hb hXs hbl hS (j := (j + 1)) (by omega) (by omega) d_law_672 ?_
  have hlt := sl_restart hG (u := (xs (j + 1)))
  refine mh_callV (mh_sS (rest := []) (av := [.ref x0, .int (xs (j + 1))]) K0 e_LW_restart l_LW_109 k564 rfl rfl d_law_673) (l_restart hl0 hR hG hov) K0 hOK hml hl.1 e_LW_restart hX hS d_law_673 (Nat.le_of_ble_eq_true rfl) (Nat.le_of_ble_eq_true rfl) (Nat.le_of_ble_eq_true rfl) (by dsimp only [mh_rm, room_1]; omega) (by dsimp only [mh_rm, room_1]; omega) (fun w1 H locs ⟨hC1, ⟨ov1, hov1, hans⟩, hFw⟩ hX hS => ?_)
  refine W.eq (g2 := F0 m 676 ls [.int (nI (sp_restart g (xs (j + 1))).1)]) rfl ?_
  refine lv_istore (lv' := [(5, .int (nI (sp_restart g (xs (j + 1))).1)), (4, .int (nI j)), (0, .ref b0), (1, .ref x0), (2, .ref m0), (3, .ref o0)]) hx hb d_law_676 hl (by decide) rfl (fun ls hl => ?_)
  refine lv_aload_n hx hb d_law_678 rfl (lv_at hl 4 rfl) ?_
  refine lv_aload_n hx hb d_law_679 rfl (lv_at hl 2 rfl) ?_
  refine lv_iload hx hb d_law_680 (lv_at hl 1 rfl) ?_
  refine lv_iconst (v := nI 1) hx hb d_law_682 (by decide) ?_
  refine mh_addN hx hb d_law_683 ?_
  refine mh_sld hx hb hXs hbl hS (j := (j + 1)) (by omega) (by omega) d_law_684 ?_
  refine mh_callV (mh_sV (rest := []) (av := [.int (xs (j + 1))]) K0 hX ((hFw 50 0 (by omega) (by omega)).trans hQ.1) rfl e_MM_restart l_LW_111 k815 k816 rfl rfl d_law_685) (r_restart (hM.to hFw) hG) K0 hOK hml hl.1 e_MM_restart hX hS d_law_685 (Nat.le_of_ble_eq_true rfl) (Nat.le_of_ble_eq_true rfl) (Nat.le_of_ble_eq_true rfl) (by dsimp only [mh_rm, room_1]; omega) (by dsimp only [mh_rm, room_1]; omega) (fun w2 H locs ⟨hM2, hD2⟩ hX hS => ?_)
  refine W.eq (g2 := F0 m 688 ls []) rfl ?_
  have hM3 := hM2
  obtain ⟨aG2, aO2, aA2, aV2, aH2, lg2, op2, at2, hQ2⟩ := hM3
  refine lv_aload_n hx hb d_law_688 rfl (lv_at hl 4 rfl) ?_
  refine mh_callR (mh_sV (rest := []) (av := []) K0 hX hQ2.1 rfl e_MM_thrown l_LW_77 k736 k737 rfl rfl d_law_689) (c_MM_thrown hQ2.1) K0 hOK hml hl.1 e_MM_thrown hX hS d_law_689 (Nat.le_of_ble_eq_true rfl) (Nat.le_of_ble_eq_true rfl) (Nat.le_of_ble_eq_true rfl) (by dsimp only [mh_rm, room_1]; omega) (by dsimp only [mh_rm, room_1]; omega) (fun H locs hX hS => ?_)
  refine W.eq (g2 := F0 m 692 ls [.int (nI (sp_restart g (xs (j + 1))).1)]) rfl ?_
  refine lv_iload hx hb d_law_692 (lv_at hl 0 rfl) ?_
  refine lv_icmp_eq (tgt := 699) hx hb d_law_694 (by decide) (fun _ => ?_) (fun z => absurd z (not_not_intro rfl))
  refine lv_goto (tgt := 1076) hx hb d_law_699 (by decide) ?_
  refine W.widen (k := cells + 40) (n := slots + 2000) (by dsimp only [mh_rm]; omega) (by dsimp only [mh_rm]; omega) ?_
  exact kk w2 _ _ _ _ ⟨hC1.c (fun k i hk => hD2 k i (by omega)), ⟨_, hM2⟩, ⟨ov1, (hD2 90 0 (by omega)).trans hov1⟩, so_restart hG⟩ hX hS (lv_sub hl [1, 2, 3, 4, 5] rfl)
set_option maxHeartbeats 4000000 in
set_option maxRecDepth 100000 in
theorem law_state {p : Program} {l : Launch} {e : Env} {s : State} {m : MethodId} {below : List Frame} {meth : Method} {c : Code} {Q : State → Prop} {dC : Nat → ClassId} {dI : Nat → Nat → Nat} {dA : Nat → ClassId} {zs : Nat → Nat} {b0 L : Nat} {xs : Nat → Int32} (C : lC p l s m c dC dI dA zs b0 L xs) (hL : L ≤ 2560) {j : Nat} (hj : j + 5 ≤ L) {w : mh_w} {x0 m0 o0 : Nat} {g : st_G} (hI : lI dA zs w x0 m0 o0 g) {H : Heap} {locs : List Loc} {ls : Array Slot} {cells slots : Nat} (hX : mh_P (dC, dI) s.heap.size w H) (hS : va_S (mh_A s.heap.size) s.heap H locs) (hl : lv_has ls 8 [(4, .int (nI j)), (0, .ref b0), (1, .ref x0), (2, .ref m0), (3, .ref o0)]) (hcc : cells + 40 ≤ 601024) (hss : slots + 2000 ≤ 7293034)
    (kk : ∀ (w' : mh_w) (g' : st_G) (H1 : Heap) (locs1 : List Loc) (ls1 : Array Slot), lI dA zs w' x0 m0 o0 g' → mh_P (dC, dI) s.heap.size w' H1 → va_S (mh_A s.heap.size) s.heap H1 locs1 → lv_has ls1 8 [(4, .int (nI j)), (0, .ref b0), (1, .ref x0), (2, .ref m0), (3, .ref o0)] → W p l e room_1 s m #[.ref b0] below meth c H1 locs1 (cells + 40) (slots + 2000) Q (F0 m 1076 ls1 [])) : W p l e room_1 s m #[.ref b0] below meth c H locs cells slots Q (F0 m 702 ls []) := by
  obtain ⟨K0, hOK, hl0, hml, hXs, hbl⟩ := C
  have K1 := K0
  obtain ⟨hx, hb, hown, hts, -, -⟩ := K1
  have hb0 : s.heap.size ≤ s.heap.size := Nat.le_refl _
  obtain ⟨hR, ⟨er, hM⟩, ⟨ov, hov⟩, hG⟩ := hI
  have hM2 := hM
  obtain ⟨aG, aO, aA, aV, aH, lg, op, at_, hQ⟩ := hM2
  refine lv_aload_n hx hb d_law_702 rfl (lv_at hl 2 rfl) ?_
  refine lv_aload_n hx hb d_law_703 rfl (lv_at hl 1 rfl) ?_
  refine lv_iload hx hb d_law_704 (lv_at hl 0 rfl) ?_
  refine lv_iconst (v := nI 1) hx hb d_law_706 (by decide) ?_
  refine mh_addN hx hb d_law_707 ?_
  refine mh_sld hx hb hXs hbl hS (j := (j + 1)) (by omega) (by omega) d_law_708 ?_
  refine lv_aload_n hx hb d_law_709 rfl (lv_at hl 1 rfl) ?_
  refine lv_iload hx hb d_law_710 (lv_at hl 0 rfl) ?_
  refine lv_iconst (v := nI 2) hx hb d_law_712 (by decide) ?_
  refine mh_addN hx hb d_law_713 ?_
  refine mh_sld hx hb hXs hbl hS (j := (j + 2)) (by omega) (by omega) d_law_714 ?_
  refine lv_aload_n hx hb d_law_715 rfl (lv_at hl 4 rfl) ?_
  have hlt := sl_state hG (u := (xs (j + 1))) (key := (xs (j + 2)))
  refine mh_callV (mh_sS (rest := []) (av := [.ref x0, .int (xs (j + 1)), .int (xs (j + 2)), .ref o0]) K0 e_LW_state l_LW_112 k587 rfl rfl d_law_716) (l_state hl0 hR hG hov) K0 hOK hml hl.1 e_LW_state hX hS d_law_716 (Nat.le_of_ble_eq_true rfl) (Nat.le_of_ble_eq_true rfl) (Nat.le_of_ble_eq_true rfl) (by dsimp only [mh_rm, room_1]; omega) (by dsimp only [mh_rm, room_1]; omega) (fun w1 H locs ⟨hC1, ⟨ov1, hov1, hans⟩, hFw⟩ hX hS => ?_)
  refine W.eq (g2 := F0 m 719 ls [.int (nI (sp_state g (xs (j + 1)) (xs (j + 2))).1)]) rfl ?_
  refine lv_istore (lv' := [(5, .int (nI (sp_state g (xs (j + 1)) (xs (j + 2))).1)), (4, .int (nI j)), (0, .ref b0), (1, .ref x0), (2, .ref m0), (3, .ref o0)]) hx hb d_law_719 hl (by decide) rfl (fun ls hl => ?_)
  refine lv_aload_n hx hb d_law_721 rfl (lv_at hl 4 rfl) ?_
  refine lv_aload_n hx hb d_law_722 rfl (lv_at hl 2 rfl) ?_
  refine lv_iload hx hb d_law_723 (lv_at hl 1 rfl) ?_
  refine lv_iconst (v := nI 1) hx hb d_law_725 (by decide) ?_
  refine mh_addN hx hb d_law_726 ?_
  refine mh_sld hx hb hXs hbl hS (j := (j + 1)) (by omega) (by omega) d_law_727 ?_
  refine lv_aload_n hx hb d_law_728 rfl (lv_at hl 2 rfl) ?_
  refine lv_iload hx hb d_law_729 (lv_at hl 1 rfl) ?_
  refine lv_iconst (v := nI 2) hx hb d_law_731 (by decide) ?_
  refine mh_addN hx hb d_law_732 ?_
  refine mh_sld hx hb hXs hbl hS (j := (j + 2)) (by omega) (by omega) d_law_733 ?_
  refine mh_callJ (mh_sV (rest := []) (av := [.int (xs (j + 1)), .int (xs (j + 2))]) K0 hX ((hFw 50 0 (by omega) (by omega)).trans hQ.1) rfl e_MM_state l_LW_114 k819 k820 rfl rfl d_law_734) (r_state (hM.to hFw) hG) K0 hOK hml hl.1 e_MM_state hX hS d_law_734 (Nat.le_of_ble_eq_true rfl) (Nat.le_of_ble_eq_true rfl) (Nat.le_of_ble_eq_true rfl) (by dsimp only [mh_rm, room_1]; omega) (by dsimp only [mh_rm, room_1]; omega) (fun zr w2 H locs hz hw hX hS => ?_)
  obtain ⟨hM2, hD2⟩ := hw
  have hM3 := hM2
  obtain ⟨aG2, aO2, aA2, aV2, aH2, lg2, op2, at2, hQ2⟩ := hM3
  refine lv_lstore (lv' := [(6, .long zr), (5, .int (nI (sp_state g (xs (j + 1)) (xs (j + 2))).1)), (4, .int (nI j)), (0, .ref b0), (1, .ref x0), (2, .ref m0), (3, .ref o0)]) hx hb d_law_737 hl (by decide) rfl (fun ls hl => ?_)
  refine lv_aload_n hx hb d_law_739 rfl (lv_at hl 5 rfl) ?_
  refine mh_callR (mh_sV (rest := []) (av := []) K0 hX hQ2.1 rfl e_MM_thrown l_LW_77 k736 k737 rfl rfl d_law_740) (c_MM_thrown hQ2.1) K0 hOK hml hl.1 e_MM_thrown hX hS d_law_740 (Nat.le_of_ble_eq_true rfl) (Nat.le_of_ble_eq_true rfl) (Nat.le_of_ble_eq_true rfl) (by dsimp only [mh_rm, room_1]; omega) (by dsimp only [mh_rm, room_1]; omega) (fun H locs hX hS => ?_)
  refine W.eq (g2 := F0 m 743 ls [.int (nI (sp_state g (xs (j + 1)) (xs (j + 2))).1)]) rfl ?_
  refine lv_iload hx hb d_law_743 (lv_at hl 1 rfl) ?_
  refine lv_icmp_eq (tgt := 750) hx hb d_law_745 (by decide) (fun _ => ?_) (fun z => absurd z (not_not_intro rfl))
  refine lv_iload hx hb d_law_750 (lv_at hl 1 rfl) ?_
  refine lv_if_ne (tgt := 766) hx hb d_law_752 (by decide) (fun ct => ?_) (fun cf => ?_)
  · skip
    refine lv_goto (tgt := 1076) hx hb d_law_766 (by decide) ?_
    refine W.widen (k := cells + 40) (n := slots + 2000) (by dsimp only [mh_rm]; omega) (by dsimp only [mh_rm]; omega) ?_
    exact kk w2 _ _ _ _ ⟨hC1.c (fun k i hk => hD2 k i (by omega)), ⟨_, hM2⟩, ⟨ov1, (hD2 90 0 (by omega)).trans hov1⟩, so_state hG⟩ hX hS (lv_sub hl [2, 3, 4, 5, 6] rfl)
  · skip
    have hz0 : (sp_state g (xs (j + 1)) (xs (j + 2))).1 = 0 := (nI_eq hlt (by decide)).mp cf
    refine lv_aload_n hx hb d_law_755 rfl (lv_at hl 6 rfl) ?_
    refine lv_iconst (v := nI 0) hx hb d_law_756 (by decide) ?_
    refine mh_laldN K0 hX ((hD2 90 0 (by omega)).trans hov1) (by omega) (by omega) d_law_757 ?_
    refine lv_lload hx hb d_law_758 (lv_at hl 0 rfl) ?_
    refine W.lcmp hx hb d_law_760 ?_
    refine lv_if_eq (tgt := 766) hx hb d_law_761 (by decide) (fun _ => ?_) (fun z => absurd z (not_not_intro ((mh_lc0 _ _).mpr ((hans rfl hz0).trans (hz hz0).symm))))
    refine lv_goto (tgt := 1076) hx hb d_law_766 (by decide) ?_
    refine W.widen (k := cells + 40) (n := slots + 2000) (by dsimp only [mh_rm]; omega) (by dsimp only [mh_rm]; omega) ?_
    exact kk w2 _ _ _ _ ⟨hC1.c (fun k i hk => hD2 k i (by omega)), ⟨_, hM2⟩, ⟨ov1, (hD2 90 0 (by omega)).trans hov1⟩, so_state hG⟩ hX hS (lv_sub hl [2, 3, 4, 5, 6] rfl)
set_option maxHeartbeats 4000000 in
set_option maxRecDepth 100000 in
theorem law_look {p : Program} {l : Launch} {e : Env} {s : State} {m : MethodId} {below : List Frame} {meth : Method} {c : Code} {Q : State → Prop} {dC : Nat → ClassId} {dI : Nat → Nat → Nat} {dA : Nat → ClassId} {zs : Nat → Nat} {b0 L : Nat} {xs : Nat → Int32} (C : lC p l s m c dC dI dA zs b0 L xs) (hL : L ≤ 2560) {j : Nat} (hj : j + 5 ≤ L) {w : mh_w} {x0 m0 o0 : Nat} {g : st_G} (hI : lI dA zs w x0 m0 o0 g) {H : Heap} {locs : List Loc} {ls : Array Slot} {cells slots : Nat} (hX : mh_P (dC, dI) s.heap.size w H) (hS : va_S (mh_A s.heap.size) s.heap H locs) (hl : lv_has ls 8 [(4, .int (nI j)), (0, .ref b0), (1, .ref x0), (2, .ref m0), (3, .ref o0)]) (hcc : cells + 40 ≤ 601024) (hss : slots + 2000 ≤ 7293034)
    (kk : ∀ (w' : mh_w) (g' : st_G) (H1 : Heap) (locs1 : List Loc) (ls1 : Array Slot), lI dA zs w' x0 m0 o0 g' → mh_P (dC, dI) s.heap.size w' H1 → va_S (mh_A s.heap.size) s.heap H1 locs1 → lv_has ls1 8 [(4, .int (nI j)), (0, .ref b0), (1, .ref x0), (2, .ref m0), (3, .ref o0)] → W p l e room_1 s m #[.ref b0] below meth c H1 locs1 (cells + 40) (slots + 2000) Q (F0 m 1076 ls1 [])) : W p l e room_1 s m #[.ref b0] below meth c H locs cells slots Q (F0 m 769 ls []) := by
  obtain ⟨K0, hOK, hl0, hml, hXs, hbl⟩ := C
  have K1 := K0
  obtain ⟨hx, hb, hown, hts, -, -⟩ := K1
  have hb0 : s.heap.size ≤ s.heap.size := Nat.le_refl _
  obtain ⟨hR, ⟨er, hM⟩, ⟨ov, hov⟩, hG⟩ := hI
  have hM2 := hM
  obtain ⟨aG, aO, aA, aV, aH, lg, op, at_, hQ⟩ := hM2
  refine lv_aload_n hx hb d_law_769 rfl (lv_at hl 2 rfl) ?_
  refine lv_aload_n hx hb d_law_770 rfl (lv_at hl 1 rfl) ?_
  refine lv_iload hx hb d_law_771 (lv_at hl 0 rfl) ?_
  refine lv_iconst (v := nI 1) hx hb d_law_773 (by decide) ?_
  refine mh_addN hx hb d_law_774 ?_
  refine mh_sld hx hb hXs hbl hS (j := (j + 1)) (by omega) (by omega) d_law_775 ?_
  refine lv_aload_n hx hb d_law_776 rfl (lv_at hl 1 rfl) ?_
  refine lv_iload hx hb d_law_777 (lv_at hl 0 rfl) ?_
  refine lv_iconst (v := nI 2) hx hb d_law_779 (by decide) ?_
  refine mh_addN hx hb d_law_780 ?_
  refine mh_sld hx hb hXs hbl hS (j := (j + 2)) (by omega) (by omega) d_law_781 ?_
  refine lv_aload_n hx hb d_law_782 rfl (lv_at hl 1 rfl) ?_
  refine lv_iload hx hb d_law_783 (lv_at hl 0 rfl) ?_
  refine lv_iconst (v := nI 3) hx hb d_law_785 (by decide) ?_
  refine mh_addN hx hb d_law_786 ?_
  refine mh_sld hx hb hXs hbl hS (j := (j + 3)) (by omega) (by omega) d_law_787 ?_
  refine lv_aload_n hx hb d_law_788 rfl (lv_at hl 1 rfl) ?_
  refine lv_iload hx hb d_law_789 (lv_at hl 0 rfl) ?_
  refine lv_iconst (v := nI 4) hx hb d_law_791 (by decide) ?_
  refine mh_addN hx hb d_law_792 ?_
  refine mh_sld hx hb hXs hbl hS (j := (j + 4)) (by omega) (by omega) d_law_793 ?_
  refine lv_aload_n hx hb d_law_794 rfl (lv_at hl 4 rfl) ?_
  have hlt := sl_look hG (u := (xs (j + 1))) (low := (xs (j + 2))) (high := (xs (j + 3))) (what := (xs (j + 4)))
  refine mh_callV (mh_sS (rest := []) (av := [.ref x0, .int (xs (j + 1)), .int (xs (j + 2)), .int (xs (j + 3)), .int (xs (j + 4)), .ref o0]) K0 e_LW_look l_LW_115 k594 rfl rfl d_law_795) (l_look hl0 hR hG hov) K0 hOK hml hl.1 e_LW_look hX hS d_law_795 (Nat.le_of_ble_eq_true rfl) (Nat.le_of_ble_eq_true rfl) (Nat.le_of_ble_eq_true rfl) (by dsimp only [mh_rm, room_1]; omega) (by dsimp only [mh_rm, room_1]; omega) (fun w1 H locs ⟨hC1, ⟨ov1, hov1, hans⟩, hFw⟩ hX hS => ?_)
  refine W.eq (g2 := F0 m 798 ls [.int (nI (sp_look g (xs (j + 1)) (xs (j + 2)) (xs (j + 3)) (xs (j + 4))).1)]) rfl ?_
  refine lv_istore (lv' := [(5, .int (nI (sp_look g (xs (j + 1)) (xs (j + 2)) (xs (j + 3)) (xs (j + 4))).1)), (4, .int (nI j)), (0, .ref b0), (1, .ref x0), (2, .ref m0), (3, .ref o0)]) hx hb d_law_798 hl (by decide) rfl (fun ls hl => ?_)
  refine lv_aload_n hx hb d_law_800 rfl (lv_at hl 4 rfl) ?_
  refine lv_aload_n hx hb d_law_801 rfl (lv_at hl 2 rfl) ?_
  refine lv_iload hx hb d_law_802 (lv_at hl 1 rfl) ?_
  refine lv_iconst (v := nI 1) hx hb d_law_804 (by decide) ?_
  refine mh_addN hx hb d_law_805 ?_
  refine mh_sld hx hb hXs hbl hS (j := (j + 1)) (by omega) (by omega) d_law_806 ?_
  refine lv_aload_n hx hb d_law_807 rfl (lv_at hl 2 rfl) ?_
  refine lv_iload hx hb d_law_808 (lv_at hl 1 rfl) ?_
  refine lv_iconst (v := nI 2) hx hb d_law_810 (by decide) ?_
  refine mh_addN hx hb d_law_811 ?_
  refine mh_sld hx hb hXs hbl hS (j := (j + 2)) (by omega) (by omega) d_law_812 ?_
  refine lv_aload_n hx hb d_law_813 rfl (lv_at hl 2 rfl) ?_
  refine lv_iload hx hb d_law_814 (lv_at hl 1 rfl) ?_
  refine lv_iconst (v := nI 3) hx hb d_law_816 (by decide) ?_
  refine mh_addN hx hb d_law_817 ?_
  refine mh_sld hx hb hXs hbl hS (j := (j + 3)) (by omega) (by omega) d_law_818 ?_
  refine lv_aload_n hx hb d_law_819 rfl (lv_at hl 2 rfl) ?_
  refine lv_iload hx hb d_law_820 (lv_at hl 1 rfl) ?_
  refine lv_iconst (v := nI 4) hx hb d_law_822 (by decide) ?_
  refine mh_addN hx hb d_law_823 ?_
  refine mh_sld hx hb hXs hbl hS (j := (j + 4)) (by omega) (by omega) d_law_824 ?_
  refine mh_callJ (mh_sV (rest := []) (av := [.int (xs (j + 1)), .int (xs (j + 2)), .int (xs (j + 3)), .int (xs (j + 4))]) K0 hX ((hFw 50 0 (by omega) (by omega)).trans hQ.1) rfl e_MM_look l_LW_117 k823 k824 rfl rfl d_law_825) (r_look (hM.to hFw) hG) K0 hOK hml hl.1 e_MM_look hX hS d_law_825 (Nat.le_of_ble_eq_true rfl) (Nat.le_of_ble_eq_true rfl) (Nat.le_of_ble_eq_true rfl) (by dsimp only [mh_rm, room_1]; omega) (by dsimp only [mh_rm, room_1]; omega) (fun zr w2 H locs hz hw hX hS => ?_)
  obtain ⟨hM2, hD2⟩ := hw
  have hM3 := hM2
  obtain ⟨aG2, aO2, aA2, aV2, aH2, lg2, op2, at2, hQ2⟩ := hM3
  refine lv_lstore (lv' := [(6, .long zr), (5, .int (nI (sp_look g (xs (j + 1)) (xs (j + 2)) (xs (j + 3)) (xs (j + 4))).1)), (4, .int (nI j)), (0, .ref b0), (1, .ref x0), (2, .ref m0), (3, .ref o0)]) hx hb d_law_828 hl (by decide) rfl (fun ls hl => ?_)
  refine lv_aload_n hx hb d_law_830 rfl (lv_at hl 5 rfl) ?_
  refine mh_callR (mh_sV (rest := []) (av := []) K0 hX hQ2.1 rfl e_MM_thrown l_LW_77 k736 k737 rfl rfl d_law_831) (c_MM_thrown hQ2.1) K0 hOK hml hl.1 e_MM_thrown hX hS d_law_831 (Nat.le_of_ble_eq_true rfl) (Nat.le_of_ble_eq_true rfl) (Nat.le_of_ble_eq_true rfl) (by dsimp only [mh_rm, room_1]; omega) (by dsimp only [mh_rm, room_1]; omega) (fun H locs hX hS => ?_)
  refine W.eq (g2 := F0 m 834 ls [.int (nI (sp_look g (xs (j + 1)) (xs (j + 2)) (xs (j + 3)) (xs (j + 4))).1)]) rfl ?_
  refine lv_iload hx hb d_law_834 (lv_at hl 1 rfl) ?_
  refine lv_icmp_eq (tgt := 841) hx hb d_law_836 (by decide) (fun _ => ?_) (fun z => absurd z (not_not_intro rfl))
  refine lv_iload hx hb d_law_841 (lv_at hl 1 rfl) ?_
  refine lv_if_ne (tgt := 857) hx hb d_law_843 (by decide) (fun ct => ?_) (fun cf => ?_)
  · skip
    refine lv_goto (tgt := 1076) hx hb d_law_857 (by decide) ?_
    refine W.widen (k := cells + 40) (n := slots + 2000) (by dsimp only [mh_rm]; omega) (by dsimp only [mh_rm]; omega) ?_
    exact kk w2 _ _ _ _ ⟨hC1.c (fun k i hk => hD2 k i (by omega)), ⟨_, hM2⟩, ⟨ov1, (hD2 90 0 (by omega)).trans hov1⟩, so_look hG⟩ hX hS (lv_sub hl [2, 3, 4, 5, 6] rfl)
  · skip
    have hz0 : (sp_look g (xs (j + 1)) (xs (j + 2)) (xs (j + 3)) (xs (j + 4))).1 = 0 := (nI_eq hlt (by decide)).mp cf
    refine lv_aload_n hx hb d_law_846 rfl (lv_at hl 6 rfl) ?_
    refine lv_iconst (v := nI 0) hx hb d_law_847 (by decide) ?_
    refine mh_laldN K0 hX ((hD2 90 0 (by omega)).trans hov1) (by omega) (by omega) d_law_848 ?_
    refine lv_lload hx hb d_law_849 (lv_at hl 0 rfl) ?_
    refine W.lcmp hx hb d_law_851 ?_
    refine lv_if_eq (tgt := 857) hx hb d_law_852 (by decide) (fun _ => ?_) (fun z => absurd z (not_not_intro ((mh_lc0 _ _).mpr ((hans rfl hz0).trans (hz hz0).symm))))
    refine lv_goto (tgt := 1076) hx hb d_law_857 (by decide) ?_
    refine W.widen (k := cells + 40) (n := slots + 2000) (by dsimp only [mh_rm]; omega) (by dsimp only [mh_rm]; omega) ?_
    exact kk w2 _ _ _ _ ⟨hC1.c (fun k i hk => hD2 k i (by omega)), ⟨_, hM2⟩, ⟨ov1, (hD2 90 0 (by omega)).trans hov1⟩, so_look hG⟩ hX hS (lv_sub hl [2, 3, 4, 5, 6] rfl)
set_option maxHeartbeats 4000000 in
set_option maxRecDepth 100000 in
theorem law_verdict {p : Program} {l : Launch} {e : Env} {s : State} {m : MethodId} {below : List Frame} {meth : Method} {c : Code} {Q : State → Prop} {dC : Nat → ClassId} {dI : Nat → Nat → Nat} {dA : Nat → ClassId} {zs : Nat → Nat} {b0 L : Nat} {xs : Nat → Int32} (C : lC p l s m c dC dI dA zs b0 L xs) (hL : L ≤ 2560) {j : Nat} (hj : j + 5 ≤ L) {w : mh_w} {x0 m0 o0 : Nat} {g : st_G} (hI : lI dA zs w x0 m0 o0 g) {H : Heap} {locs : List Loc} {ls : Array Slot} {cells slots : Nat} (hX : mh_P (dC, dI) s.heap.size w H) (hS : va_S (mh_A s.heap.size) s.heap H locs) (hl : lv_has ls 8 [(4, .int (nI j)), (0, .ref b0), (1, .ref x0), (2, .ref m0), (3, .ref o0)]) (hcc : cells + 40 ≤ 601024) (hss : slots + 2000 ≤ 7293034)
    (kk : ∀ (w' : mh_w) (g' : st_G) (H1 : Heap) (locs1 : List Loc) (ls1 : Array Slot), lI dA zs w' x0 m0 o0 g' → mh_P (dC, dI) s.heap.size w' H1 → va_S (mh_A s.heap.size) s.heap H1 locs1 → lv_has ls1 8 [(4, .int (nI j)), (0, .ref b0), (1, .ref x0), (2, .ref m0), (3, .ref o0)] → W p l e room_1 s m #[.ref b0] below meth c H1 locs1 (cells + 40) (slots + 2000) Q (F0 m 1076 ls1 [])) : W p l e room_1 s m #[.ref b0] below meth c H locs cells slots Q (F0 m 860 ls []) := by
  obtain ⟨K0, hOK, hl0, hml, hXs, hbl⟩ := C
  have K1 := K0
  obtain ⟨hx, hb, hown, hts, -, -⟩ := K1
  have hb0 : s.heap.size ≤ s.heap.size := Nat.le_refl _
  obtain ⟨hR, ⟨er, hM⟩, ⟨ov, hov⟩, hG⟩ := hI
  have hM2 := hM
  obtain ⟨aG, aO, aA, aV, aH, lg, op, at_, hQ⟩ := hM2
  refine lv_aload_n hx hb d_law_860 rfl (lv_at hl 2 rfl) ?_
  refine lv_aload_n hx hb d_law_861 rfl (lv_at hl 1 rfl) ?_
  refine lv_iload hx hb d_law_862 (lv_at hl 0 rfl) ?_
  refine lv_iconst (v := nI 1) hx hb d_law_864 (by decide) ?_
  refine mh_addN hx hb d_law_865 ?_
  refine mh_sld hx hb hXs hbl hS (j := (j + 1)) (by omega) (by omega) d_law_866 ?_
  refine lv_aload_n hx hb d_law_867 rfl (lv_at hl 1 rfl) ?_
  refine lv_iload hx hb d_law_868 (lv_at hl 0 rfl) ?_
  refine lv_iconst (v := nI 2) hx hb d_law_870 (by decide) ?_
  refine mh_addN hx hb d_law_871 ?_
  refine mh_sld hx hb hXs hbl hS (j := (j + 2)) (by omega) (by omega) d_law_872 ?_
  refine lv_aload_n hx hb d_law_873 rfl (lv_at hl 4 rfl) ?_
  have hlt := sl_verdict hG (u := (xs (j + 1))) (k := (xs (j + 2)))
  refine mh_callV (mh_sS (rest := []) (av := [.ref x0, .int (xs (j + 1)), .int (xs (j + 2)), .ref o0]) K0 e_LW_verdict l_LW_118 k601 rfl rfl d_law_874) (l_verdict hl0 hR hG hov) K0 hOK hml hl.1 e_LW_verdict hX hS d_law_874 (Nat.le_of_ble_eq_true rfl) (Nat.le_of_ble_eq_true rfl) (Nat.le_of_ble_eq_true rfl) (by dsimp only [mh_rm, room_1]; omega) (by dsimp only [mh_rm, room_1]; omega) (fun w1 H locs ⟨hC1, ⟨ov1, hov1, hans⟩, hFw⟩ hX hS => ?_)
  refine W.eq (g2 := F0 m 877 ls [.int (nI (sp_verdict g (xs (j + 1)) (xs (j + 2))).1)]) rfl ?_
  refine lv_istore (lv' := [(5, .int (nI (sp_verdict g (xs (j + 1)) (xs (j + 2))).1)), (4, .int (nI j)), (0, .ref b0), (1, .ref x0), (2, .ref m0), (3, .ref o0)]) hx hb d_law_877 hl (by decide) rfl (fun ls hl => ?_)
  refine lv_aload_n hx hb d_law_879 rfl (lv_at hl 4 rfl) ?_
  refine lv_aload_n hx hb d_law_880 rfl (lv_at hl 2 rfl) ?_
  refine lv_iload hx hb d_law_881 (lv_at hl 1 rfl) ?_
  refine lv_iconst (v := nI 1) hx hb d_law_883 (by decide) ?_
  refine mh_addN hx hb d_law_884 ?_
  refine mh_sld hx hb hXs hbl hS (j := (j + 1)) (by omega) (by omega) d_law_885 ?_
  refine lv_aload_n hx hb d_law_886 rfl (lv_at hl 2 rfl) ?_
  refine lv_iload hx hb d_law_887 (lv_at hl 1 rfl) ?_
  refine lv_iconst (v := nI 2) hx hb d_law_889 (by decide) ?_
  refine mh_addN hx hb d_law_890 ?_
  refine mh_sld hx hb hXs hbl hS (j := (j + 2)) (by omega) (by omega) d_law_891 ?_
  refine mh_callI (mh_sV (rest := []) (av := [.int (xs (j + 1)), .int (xs (j + 2))]) K0 hX ((hFw 50 0 (by omega) (by omega)).trans hQ.1) rfl e_MM_verdict l_LW_120 k827 k828 rfl rfl d_law_892) (r_verdict (hM.to hFw) hG) K0 hOK hml hl.1 e_MM_verdict hX hS d_law_892 (Nat.le_of_ble_eq_true rfl) (Nat.le_of_ble_eq_true rfl) (Nat.le_of_ble_eq_true rfl) (by dsimp only [mh_rm, room_1]; omega) (by dsimp only [mh_rm, room_1]; omega) (fun zr w2 H locs hz hw hX hS => ?_)
  obtain ⟨hM2, hD2⟩ := hw
  have hM3 := hM2
  obtain ⟨aG2, aO2, aA2, aV2, aH2, lg2, op2, at2, hQ2⟩ := hM3
  refine lv_istore (lv' := [(6, .int zr), (5, .int (nI (sp_verdict g (xs (j + 1)) (xs (j + 2))).1)), (4, .int (nI j)), (0, .ref b0), (1, .ref x0), (2, .ref m0), (3, .ref o0)]) hx hb d_law_895 hl (by decide) rfl (fun ls hl => ?_)
  refine lv_aload_n hx hb d_law_897 rfl (lv_at hl 5 rfl) ?_
  refine mh_callR (mh_sV (rest := []) (av := []) K0 hX hQ2.1 rfl e_MM_thrown l_LW_77 k736 k737 rfl rfl d_law_898) (c_MM_thrown hQ2.1) K0 hOK hml hl.1 e_MM_thrown hX hS d_law_898 (Nat.le_of_ble_eq_true rfl) (Nat.le_of_ble_eq_true rfl) (Nat.le_of_ble_eq_true rfl) (by dsimp only [mh_rm, room_1]; omega) (by dsimp only [mh_rm, room_1]; omega) (fun H locs hX hS => ?_)
  refine W.eq (g2 := F0 m 901 ls [.int (nI (sp_verdict g (xs (j + 1)) (xs (j + 2))).1)]) rfl ?_
  refine lv_iload hx hb d_law_901 (lv_at hl 1 rfl) ?_
  refine lv_icmp_eq (tgt := 908) hx hb d_law_903 (by decide) (fun _ => ?_) (fun z => absurd z (not_not_intro rfl))
  refine lv_iload hx hb d_law_908 (lv_at hl 1 rfl) ?_
  refine lv_if_ne (tgt := 925) hx hb d_law_910 (by decide) (fun ct => ?_) (fun cf => ?_)
  · skip
    refine lv_goto (tgt := 1076) hx hb d_law_925 (by decide) ?_
    refine W.widen (k := cells + 40) (n := slots + 2000) (by dsimp only [mh_rm]; omega) (by dsimp only [mh_rm]; omega) ?_
    exact kk w2 _ _ _ _ ⟨hC1.c (fun k i hk => hD2 k i (by omega)), ⟨_, hM2⟩, ⟨ov1, (hD2 90 0 (by omega)).trans hov1⟩, so_verdict hG⟩ hX hS (lv_sub hl [2, 3, 4, 5, 6] rfl)
  · skip
    have hz0 : (sp_verdict g (xs (j + 1)) (xs (j + 2))).1 = 0 := (nI_eq hlt (by decide)).mp cf
    refine lv_aload_n hx hb d_law_913 rfl (lv_at hl 6 rfl) ?_
    refine lv_iconst (v := nI 0) hx hb d_law_914 (by decide) ?_
    refine mh_laldN K0 hX ((hD2 90 0 (by omega)).trans hov1) (by omega) (by omega) d_law_915 ?_
    refine lv_iload hx hb d_law_916 (lv_at hl 0 rfl) ?_
    refine lv_i2l hx hb d_law_918 rfl ?_
    refine W.lcmp hx hb d_law_919 ?_
    refine lv_if_eq (tgt := 925) hx hb d_law_920 (by decide) (fun _ => ?_) (fun z => absurd z (not_not_intro ((mh_lc0 _ _).mpr ((hans rfl hz0).trans (hz hz0).symm))))
    refine lv_goto (tgt := 1076) hx hb d_law_925 (by decide) ?_
    refine W.widen (k := cells + 40) (n := slots + 2000) (by dsimp only [mh_rm]; omega) (by dsimp only [mh_rm]; omega) ?_
    exact kk w2 _ _ _ _ ⟨hC1.c (fun k i hk => hD2 k i (by omega)), ⟨_, hM2⟩, ⟨ov1, (hD2 90 0 (by omega)).trans hov1⟩, so_verdict hG⟩ hX hS (lv_sub hl [2, 3, 4, 5, 6] rfl)
set_option maxHeartbeats 4000000 in
set_option maxRecDepth 100000 in
theorem law_intention {p : Program} {l : Launch} {e : Env} {s : State} {m : MethodId} {below : List Frame} {meth : Method} {c : Code} {Q : State → Prop} {dC : Nat → ClassId} {dI : Nat → Nat → Nat} {dA : Nat → ClassId} {zs : Nat → Nat} {b0 L : Nat} {xs : Nat → Int32} (C : lC p l s m c dC dI dA zs b0 L xs) (hL : L ≤ 2560) {j : Nat} (hj : j + 5 ≤ L) {w : mh_w} {x0 m0 o0 : Nat} {g : st_G} (hI : lI dA zs w x0 m0 o0 g) {H : Heap} {locs : List Loc} {ls : Array Slot} {cells slots : Nat} (hX : mh_P (dC, dI) s.heap.size w H) (hS : va_S (mh_A s.heap.size) s.heap H locs) (hl : lv_has ls 8 [(4, .int (nI j)), (0, .ref b0), (1, .ref x0), (2, .ref m0), (3, .ref o0)]) (hcc : cells + 40 ≤ 601024) (hss : slots + 2000 ≤ 7293034)
    (kk : ∀ (w' : mh_w) (g' : st_G) (H1 : Heap) (locs1 : List Loc) (ls1 : Array Slot), lI dA zs w' x0 m0 o0 g' → mh_P (dC, dI) s.heap.size w' H1 → va_S (mh_A s.heap.size) s.heap H1 locs1 → lv_has ls1 8 [(4, .int (nI j)), (0, .ref b0), (1, .ref x0), (2, .ref m0), (3, .ref o0)] → W p l e room_1 s m #[.ref b0] below meth c H1 locs1 (cells + 40) (slots + 2000) Q (F0 m 1076 ls1 [])) : W p l e room_1 s m #[.ref b0] below meth c H locs cells slots Q (F0 m 928 ls []) := by
  obtain ⟨K0, hOK, hl0, hml, hXs, hbl⟩ := C
  have K1 := K0
  obtain ⟨hx, hb, hown, hts, -, -⟩ := K1
  have hb0 : s.heap.size ≤ s.heap.size := Nat.le_refl _
  obtain ⟨hR, ⟨er, hM⟩, ⟨ov, hov⟩, hG⟩ := hI
  have hM2 := hM
  obtain ⟨aG, aO, aA, aV, aH, lg, op, at_, hQ⟩ := hM2
  refine lv_aload_n hx hb d_law_928 rfl (lv_at hl 2 rfl) ?_
  refine lv_aload_n hx hb d_law_929 rfl (lv_at hl 1 rfl) ?_
  refine lv_iload hx hb d_law_930 (lv_at hl 0 rfl) ?_
  refine lv_iconst (v := nI 1) hx hb d_law_932 (by decide) ?_
  refine mh_addN hx hb d_law_933 ?_
  refine mh_sld hx hb hXs hbl hS (j := (j + 1)) (by omega) (by omega) d_law_934 ?_
  refine lv_aload_n hx hb d_law_935 rfl (lv_at hl 1 rfl) ?_
  refine lv_iload hx hb d_law_936 (lv_at hl 0 rfl) ?_
  refine lv_iconst (v := nI 2) hx hb d_law_938 (by decide) ?_
  refine mh_addN hx hb d_law_939 ?_
  refine mh_sld hx hb hXs hbl hS (j := (j + 2)) (by omega) (by omega) d_law_940 ?_
  refine lv_aload_n hx hb d_law_941 rfl (lv_at hl 4 rfl) ?_
  have hlt := sl_intention hG (k := (xs (j + 1))) (what := (xs (j + 2)))
  refine mh_callV (mh_sS (rest := []) (av := [.ref x0, .int (xs (j + 1)), .int (xs (j + 2)), .ref o0]) K0 e_LW_intention l_LW_121 k613 rfl rfl d_law_942) (l_intention hl0 hR hG hov) K0 hOK hml hl.1 e_LW_intention hX hS d_law_942 (Nat.le_of_ble_eq_true rfl) (Nat.le_of_ble_eq_true rfl) (Nat.le_of_ble_eq_true rfl) (by dsimp only [mh_rm, room_1]; omega) (by dsimp only [mh_rm, room_1]; omega) (fun w1 H locs ⟨hC1, ⟨ov1, hov1, hans⟩, hFw⟩ hX hS => ?_)
  refine W.eq (g2 := F0 m 945 ls [.int (nI (sp_intention g (xs (j + 1)) (xs (j + 2))).1)]) rfl ?_
  refine lv_istore (lv' := [(5, .int (nI (sp_intention g (xs (j + 1)) (xs (j + 2))).1)), (4, .int (nI j)), (0, .ref b0), (1, .ref x0), (2, .ref m0), (3, .ref o0)]) hx hb d_law_945 hl (by decide) rfl (fun ls hl => ?_)
  refine lv_aload_n hx hb d_law_947 rfl (lv_at hl 4 rfl) ?_
  refine lv_aload_n hx hb d_law_948 rfl (lv_at hl 2 rfl) ?_
  refine lv_iload hx hb d_law_949 (lv_at hl 1 rfl) ?_
  refine lv_iconst (v := nI 1) hx hb d_law_951 (by decide) ?_
  refine mh_addN hx hb d_law_952 ?_
  refine mh_sld hx hb hXs hbl hS (j := (j + 1)) (by omega) (by omega) d_law_953 ?_
  refine lv_aload_n hx hb d_law_954 rfl (lv_at hl 2 rfl) ?_
  refine lv_iload hx hb d_law_955 (lv_at hl 1 rfl) ?_
  refine lv_iconst (v := nI 2) hx hb d_law_957 (by decide) ?_
  refine mh_addN hx hb d_law_958 ?_
  refine mh_sld hx hb hXs hbl hS (j := (j + 2)) (by omega) (by omega) d_law_959 ?_
  refine mh_callI (mh_sV (rest := []) (av := [.int (xs (j + 1)), .int (xs (j + 2))]) K0 hX ((hFw 50 0 (by omega) (by omega)).trans hQ.1) rfl e_MM_intention l_LW_123 k831 k832 rfl rfl d_law_960) (r_intention (hM.to hFw) hG) K0 hOK hml hl.1 e_MM_intention hX hS d_law_960 (Nat.le_of_ble_eq_true rfl) (Nat.le_of_ble_eq_true rfl) (Nat.le_of_ble_eq_true rfl) (by dsimp only [mh_rm, room_1]; omega) (by dsimp only [mh_rm, room_1]; omega) (fun zr w2 H locs hz hw hX hS => ?_)
  obtain ⟨hM2, hD2⟩ := hw
  have hM3 := hM2
  obtain ⟨aG2, aO2, aA2, aV2, aH2, lg2, op2, at2, hQ2⟩ := hM3
  refine lv_istore (lv' := [(6, .int zr), (5, .int (nI (sp_intention g (xs (j + 1)) (xs (j + 2))).1)), (4, .int (nI j)), (0, .ref b0), (1, .ref x0), (2, .ref m0), (3, .ref o0)]) hx hb d_law_963 hl (by decide) rfl (fun ls hl => ?_)
  refine lv_aload_n hx hb d_law_965 rfl (lv_at hl 5 rfl) ?_
  refine mh_callR (mh_sV (rest := []) (av := []) K0 hX hQ2.1 rfl e_MM_thrown l_LW_77 k736 k737 rfl rfl d_law_966) (c_MM_thrown hQ2.1) K0 hOK hml hl.1 e_MM_thrown hX hS d_law_966 (Nat.le_of_ble_eq_true rfl) (Nat.le_of_ble_eq_true rfl) (Nat.le_of_ble_eq_true rfl) (by dsimp only [mh_rm, room_1]; omega) (by dsimp only [mh_rm, room_1]; omega) (fun H locs hX hS => ?_)
  refine W.eq (g2 := F0 m 969 ls [.int (nI (sp_intention g (xs (j + 1)) (xs (j + 2))).1)]) rfl ?_
  refine lv_iload hx hb d_law_969 (lv_at hl 1 rfl) ?_
  refine lv_icmp_eq (tgt := 976) hx hb d_law_971 (by decide) (fun _ => ?_) (fun z => absurd z (not_not_intro rfl))
  refine lv_iload hx hb d_law_976 (lv_at hl 1 rfl) ?_
  refine lv_if_ne (tgt := 993) hx hb d_law_978 (by decide) (fun ct => ?_) (fun cf => ?_)
  · skip
    refine lv_goto (tgt := 1076) hx hb d_law_993 (by decide) ?_
    refine W.widen (k := cells + 40) (n := slots + 2000) (by dsimp only [mh_rm]; omega) (by dsimp only [mh_rm]; omega) ?_
    exact kk w2 _ _ _ _ ⟨hC1.c (fun k i hk => hD2 k i (by omega)), ⟨_, hM2⟩, ⟨ov1, (hD2 90 0 (by omega)).trans hov1⟩, so_intention hG⟩ hX hS (lv_sub hl [2, 3, 4, 5, 6] rfl)
  · skip
    have hz0 : (sp_intention g (xs (j + 1)) (xs (j + 2))).1 = 0 := (nI_eq hlt (by decide)).mp cf
    refine lv_aload_n hx hb d_law_981 rfl (lv_at hl 6 rfl) ?_
    refine lv_iconst (v := nI 0) hx hb d_law_982 (by decide) ?_
    refine mh_laldN K0 hX ((hD2 90 0 (by omega)).trans hov1) (by omega) (by omega) d_law_983 ?_
    refine lv_iload hx hb d_law_984 (lv_at hl 0 rfl) ?_
    refine lv_i2l hx hb d_law_986 rfl ?_
    refine W.lcmp hx hb d_law_987 ?_
    refine lv_if_eq (tgt := 993) hx hb d_law_988 (by decide) (fun _ => ?_) (fun z => absurd z (not_not_intro ((mh_lc0 _ _).mpr ((hans rfl hz0).trans (hz hz0).symm))))
    refine lv_goto (tgt := 1076) hx hb d_law_993 (by decide) ?_
    refine W.widen (k := cells + 40) (n := slots + 2000) (by dsimp only [mh_rm]; omega) (by dsimp only [mh_rm]; omega) ?_
    exact kk w2 _ _ _ _ ⟨hC1.c (fun k i hk => hD2 k i (by omega)), ⟨_, hM2⟩, ⟨ov1, (hD2 90 0 (by omega)).trans hov1⟩, so_intention hG⟩ hX hS (lv_sub hl [2, 3, 4, 5, 6] rfl)
set_option maxHeartbeats 4000000 in
set_option maxRecDepth 100000 in
theorem law_count {p : Program} {l : Launch} {e : Env} {s : State} {m : MethodId} {below : List Frame} {meth : Method} {c : Code} {Q : State → Prop} {dC : Nat → ClassId} {dI : Nat → Nat → Nat} {dA : Nat → ClassId} {zs : Nat → Nat} {b0 L : Nat} {xs : Nat → Int32} (C : lC p l s m c dC dI dA zs b0 L xs) (hL : L ≤ 2560) {j : Nat} (hj : j + 5 ≤ L) {w : mh_w} {x0 m0 o0 : Nat} {g : st_G} (hI : lI dA zs w x0 m0 o0 g) {H : Heap} {locs : List Loc} {ls : Array Slot} {cells slots : Nat} (hX : mh_P (dC, dI) s.heap.size w H) (hS : va_S (mh_A s.heap.size) s.heap H locs) (hl : lv_has ls 8 [(4, .int (nI j)), (0, .ref b0), (1, .ref x0), (2, .ref m0), (3, .ref o0)]) (hcc : cells + 40 ≤ 601024) (hss : slots + 2000 ≤ 7293034)
    (kk : ∀ (w' : mh_w) (g' : st_G) (H1 : Heap) (locs1 : List Loc) (ls1 : Array Slot), lI dA zs w' x0 m0 o0 g' → mh_P (dC, dI) s.heap.size w' H1 → va_S (mh_A s.heap.size) s.heap H1 locs1 → lv_has ls1 8 [(4, .int (nI j)), (0, .ref b0), (1, .ref x0), (2, .ref m0), (3, .ref o0)] → W p l e room_1 s m #[.ref b0] below meth c H1 locs1 (cells + 40) (slots + 2000) Q (F0 m 1076 ls1 [])) : W p l e room_1 s m #[.ref b0] below meth c H locs cells slots Q (F0 m 996 ls []) := by
  obtain ⟨K0, hOK, hl0, hml, hXs, hbl⟩ := C
  have K1 := K0
  obtain ⟨hx, hb, hown, hts, -, -⟩ := K1
  have hb0 : s.heap.size ≤ s.heap.size := Nat.le_refl _
  obtain ⟨hR, ⟨er, hM⟩, ⟨ov, hov⟩, hG⟩ := hI
  have hM2 := hM
  obtain ⟨aG, aO, aA, aV, aH, lg, op, at_, hQ⟩ := hM2
  refine lv_aload_n hx hb d_law_996 rfl (lv_at hl 2 rfl) ?_
  refine lv_aload_n hx hb d_law_997 rfl (lv_at hl 1 rfl) ?_
  refine lv_iload hx hb d_law_998 (lv_at hl 0 rfl) ?_
  refine lv_iconst (v := nI 1) hx hb d_law_1000 (by decide) ?_
  refine mh_addN hx hb d_law_1001 ?_
  refine mh_sld hx hb hXs hbl hS (j := (j + 1)) (by omega) (by omega) d_law_1002 ?_
  refine lv_aload_n hx hb d_law_1003 rfl (lv_at hl 1 rfl) ?_
  refine lv_iload hx hb d_law_1004 (lv_at hl 0 rfl) ?_
  refine lv_iconst (v := nI 2) hx hb d_law_1006 (by decide) ?_
  refine mh_addN hx hb d_law_1007 ?_
  refine mh_sld hx hb hXs hbl hS (j := (j + 2)) (by omega) (by omega) d_law_1008 ?_
  refine lv_aload_n hx hb d_law_1009 rfl (lv_at hl 1 rfl) ?_
  refine lv_iload hx hb d_law_1010 (lv_at hl 0 rfl) ?_
  refine lv_iconst (v := nI 3) hx hb d_law_1012 (by decide) ?_
  refine mh_addN hx hb d_law_1013 ?_
  refine mh_sld hx hb hXs hbl hS (j := (j + 3)) (by omega) (by omega) d_law_1014 ?_
  refine lv_aload_n hx hb d_law_1015 rfl (lv_at hl 4 rfl) ?_
  have hlt := sl_count hG (what := (xs (j + 1))) (k := (xs (j + 2))) (j := (xs (j + 3)))
  refine mh_callV (mh_sS (rest := []) (av := [.ref x0, .int (xs (j + 1)), .int (xs (j + 2)), .int (xs (j + 3)), .ref o0]) K0 e_LW_count l_LW_124 k634 rfl rfl d_law_1016) (l_count hl0 hR hG hov) K0 hOK hml hl.1 e_LW_count hX hS d_law_1016 (Nat.le_of_ble_eq_true rfl) (Nat.le_of_ble_eq_true rfl) (Nat.le_of_ble_eq_true rfl) (by dsimp only [mh_rm, room_1]; omega) (by dsimp only [mh_rm, room_1]; omega) (fun w1 H locs ⟨hC1, ⟨ov1, hov1, hans⟩, hFw⟩ hX hS => ?_)
  refine W.eq (g2 := F0 m 1019 ls [.int (nI (sp_count g (xs (j + 1)) (xs (j + 2)) (xs (j + 3))).1)]) rfl ?_
  refine lv_istore (lv' := [(5, .int (nI (sp_count g (xs (j + 1)) (xs (j + 2)) (xs (j + 3))).1)), (4, .int (nI j)), (0, .ref b0), (1, .ref x0), (2, .ref m0), (3, .ref o0)]) hx hb d_law_1019 hl (by decide) rfl (fun ls hl => ?_)
  refine lv_aload_n hx hb d_law_1021 rfl (lv_at hl 4 rfl) ?_
  refine lv_aload_n hx hb d_law_1022 rfl (lv_at hl 2 rfl) ?_
  refine lv_iload hx hb d_law_1023 (lv_at hl 1 rfl) ?_
  refine lv_iconst (v := nI 1) hx hb d_law_1025 (by decide) ?_
  refine mh_addN hx hb d_law_1026 ?_
  refine mh_sld hx hb hXs hbl hS (j := (j + 1)) (by omega) (by omega) d_law_1027 ?_
  refine lv_aload_n hx hb d_law_1028 rfl (lv_at hl 2 rfl) ?_
  refine lv_iload hx hb d_law_1029 (lv_at hl 1 rfl) ?_
  refine lv_iconst (v := nI 2) hx hb d_law_1031 (by decide) ?_
  refine mh_addN hx hb d_law_1032 ?_
  refine mh_sld hx hb hXs hbl hS (j := (j + 2)) (by omega) (by omega) d_law_1033 ?_
  refine lv_aload_n hx hb d_law_1034 rfl (lv_at hl 2 rfl) ?_
  refine lv_iload hx hb d_law_1035 (lv_at hl 1 rfl) ?_
  refine lv_iconst (v := nI 3) hx hb d_law_1037 (by decide) ?_
  refine mh_addN hx hb d_law_1038 ?_
  refine mh_sld hx hb hXs hbl hS (j := (j + 3)) (by omega) (by omega) d_law_1039 ?_
  refine mh_callI (mh_sV (rest := []) (av := [.int (xs (j + 1)), .int (xs (j + 2)), .int (xs (j + 3))]) K0 hX ((hFw 50 0 (by omega) (by omega)).trans hQ.1) rfl e_MM_count l_LW_127 k835 k836 rfl rfl d_law_1040) (r_count (hM.to hFw) hG) K0 hOK hml hl.1 e_MM_count hX hS d_law_1040 (Nat.le_of_ble_eq_true rfl) (Nat.le_of_ble_eq_true rfl) (Nat.le_of_ble_eq_true rfl) (by dsimp only [mh_rm, room_1]; omega) (by dsimp only [mh_rm, room_1]; omega) (fun zr w2 H locs hz hw hX hS => ?_)
  obtain ⟨hM2, hD2⟩ := hw
  have hM3 := hM2
  obtain ⟨aG2, aO2, aA2, aV2, aH2, lg2, op2, at2, hQ2⟩ := hM3
  refine lv_istore (lv' := [(6, .int zr), (5, .int (nI (sp_count g (xs (j + 1)) (xs (j + 2)) (xs (j + 3))).1)), (4, .int (nI j)), (0, .ref b0), (1, .ref x0), (2, .ref m0), (3, .ref o0)]) hx hb d_law_1043 hl (by decide) rfl (fun ls hl => ?_)
  refine lv_aload_n hx hb d_law_1045 rfl (lv_at hl 5 rfl) ?_
  refine mh_callR (mh_sV (rest := []) (av := []) K0 hX hQ2.1 rfl e_MM_thrown l_LW_77 k736 k737 rfl rfl d_law_1046) (c_MM_thrown hQ2.1) K0 hOK hml hl.1 e_MM_thrown hX hS d_law_1046 (Nat.le_of_ble_eq_true rfl) (Nat.le_of_ble_eq_true rfl) (Nat.le_of_ble_eq_true rfl) (by dsimp only [mh_rm, room_1]; omega) (by dsimp only [mh_rm, room_1]; omega) (fun H locs hX hS => ?_)
  refine W.eq (g2 := F0 m 1049 ls [.int (nI (sp_count g (xs (j + 1)) (xs (j + 2)) (xs (j + 3))).1)]) rfl ?_
  refine lv_iload hx hb d_law_1049 (lv_at hl 1 rfl) ?_
  refine lv_icmp_eq (tgt := 1056) hx hb d_law_1051 (by decide) (fun _ => ?_) (fun z => absurd z (not_not_intro rfl))
  refine lv_iload hx hb d_law_1056 (lv_at hl 1 rfl) ?_
  refine lv_if_ne (tgt := 1073) hx hb d_law_1058 (by decide) (fun ct => ?_) (fun cf => ?_)
  · skip
    refine lv_goto (tgt := 1076) hx hb d_law_1073 (by decide) ?_
    refine W.widen (k := cells + 40) (n := slots + 2000) (by dsimp only [mh_rm]; omega) (by dsimp only [mh_rm]; omega) ?_
    exact kk w2 _ _ _ _ ⟨hC1.c (fun k i hk => hD2 k i (by omega)), ⟨_, hM2⟩, ⟨ov1, (hD2 90 0 (by omega)).trans hov1⟩, so_count hG⟩ hX hS (lv_sub hl [2, 3, 4, 5, 6] rfl)
  · skip
    have hz0 : (sp_count g (xs (j + 1)) (xs (j + 2)) (xs (j + 3))).1 = 0 := (nI_eq hlt (by decide)).mp cf
    refine lv_aload_n hx hb d_law_1061 rfl (lv_at hl 6 rfl) ?_
    refine lv_iconst (v := nI 0) hx hb d_law_1062 (by decide) ?_
    refine mh_laldN K0 hX ((hD2 90 0 (by omega)).trans hov1) (by omega) (by omega) d_law_1063 ?_
    refine lv_iload hx hb d_law_1064 (lv_at hl 0 rfl) ?_
    refine lv_i2l hx hb d_law_1066 rfl ?_
    refine W.lcmp hx hb d_law_1067 ?_
    refine lv_if_eq (tgt := 1073) hx hb d_law_1068 (by decide) (fun _ => ?_) (fun z => absurd z (not_not_intro ((mh_lc0 _ _).mpr ((hans rfl hz0).trans (hz hz0).symm))))
    refine lv_goto (tgt := 1076) hx hb d_law_1073 (by decide) ?_
    refine W.widen (k := cells + 40) (n := slots + 2000) (by dsimp only [mh_rm]; omega) (by dsimp only [mh_rm]; omega) ?_
    exact kk w2 _ _ _ _ ⟨hC1.c (fun k i hk => hD2 k i (by omega)), ⟨_, hM2⟩, ⟨ov1, (hD2 90 0 (by omega)).trans hov1⟩, so_count hG⟩ hX hS (lv_sub hl [2, 3, 4, 5, 6] rfl)
