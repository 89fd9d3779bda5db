/-! THE STORE IN THE WORLD -/
def mh_x (w w' : mh_w) : Prop := ∀ k i, k ≠ 99 → w' k i = w k i
def mh_C (w w' : mh_w) : Prop := ∀ k i, 40 ≤ k → k ≠ 99 → w' k i = w k i
theorem mh_x.of {w : mh_w} {q : Option (Nat × va_E)} : mh_x w (mh_set w 99 0 q) := fun k i hk => mh_set_ne w 99 0 q (fun z => hk z.1)
def cS (dA : Nat → ClassId) (w : mh_w) (log : Nat → st_I) (m s a : Nat) : Prop := rS dA w s a (st_st log m) (fun key => st_lw log key m) m (pb_cnt (fun i => iv_gd (log i)) m)
def cV (dA : Nat → ClassId) (w : mh_w) (log : Nat → st_I) (d : Option st_I) (t a : Nat) : Prop := ∃ st, rN dA w 12 t a st ∧ ∀ x, d = some x → ∀ j, j < 256 → st j = st_vw log x j
def cD (dA : Nat → ClassId) (w : mh_w) (d : Option st_I) (t : Nat) (r : Option Nat) : Prop := match d with
  | none => r = none
  | some x => ∃ a, r = some a ∧ rI dA w 16 t a x
theorem cS.to {dA : Nat → ClassId} {w w' : mh_w} {log log' : Nat → st_I} {m s a : Nat} (h : cS dA w log m s a) (h1 : ∀ k, 4 ≤ k → k < 10 → w' k s = w k s) (h2 : ∀ i, i < m → log i = log' i) : cS dA w' log' m s a := by
  have := rS.to h h1 (st' := st_st log' m) (lw' := fun key => st_lw log' key m) (fun j _ => by rw [st_st_congr h2]) (fun j _ => st_lw_congr h2)
  unfold cS
  rw [← pb_cnt_congr (f := fun i => iv_gd (log i)) (g := fun i => iv_gd (log' i)) (n := m) (fun i hi => by rw [h2 i hi])]
  exact this
theorem cV.to {dA : Nat → ClassId} {w w' : mh_w} {log log' : Nat → st_I} {d : Option st_I} {t a : Nat} (h : cV dA w log d t a) (h1 : ∀ k, 12 ≤ k → k < 16 → w' k t = w k t) (h2 : ∀ x, d = some x → ∀ i, i < iv_sn x → log i = log' i) : cV dA w' log' d t a := by
  obtain ⟨st, e1, e2⟩ := h
  refine ⟨st, e1.to (fun z hz => h1 (12 + z) (by omega) (by omega)) (fun _ _ => rfl), fun x hx j hj => ?_⟩
  rw [e2 x hx j hj]
  unfold st_vw
  rw [st_st_congr (h2 x hx)]
theorem cD.to {dA : Nat → ClassId} {w w' : mh_w} {d : Option st_I} {t : Nat} {r : Option Nat} (h : cD dA w d t r) (h1 : ∀ k, 16 ≤ k → k < 24 → w' k t = w k t) : cD dA w' d t r := by
  unfold cD at h ⊢
  cases d with
  | none => exact h
  | some x =>
    obtain ⟨a, e1, e2⟩ := h
    exact ⟨a, e1, e2.to (fun z hz => h1 (16 + z) (by omega) (by omega))⟩
def rP (dA : Nat → ClassId) (zs : Nat → Nat) (w : mh_w) (x0 : Nat) (g : st_G) (aL aS aD aV : Nat) (sv dr vw lg : Nat → Option Nat) : Prop :=
  w 0 0 = some (x0, .inr (4, [.ref aL, .ref aS, .ref aD, .ref aV, .int (nI (sg_rs g))])) ∧ rL dA zs w aL (sg_n g) lg ∧ w 3 0 = some (aS, .inl (dA 4, 4, .inr (.inr (.inr (.inr sv))))) ∧ w 10 0 = some (aD, .inl (dA 5, 16, .inr (.inr (.inr (.inr dr))))) ∧ w 11 0 = some (aV, .inl (dA 6, 16, .inr (.inr (.inr (.inr vw))))) ∧
  (∀ s, s < 4 → ∃ a, sv s = some a ∧ cS dA w (sg_lg g) (sg_at g s) s a) ∧ (∀ t, t < 16 → ∃ a, vw t = some a ∧ cV dA w (sg_lg g) (sg_dr g t) t a) ∧ (∀ t, t < 16 → cD dA w (sg_dr g t) t (dr t)) ∧ ∀ i, i < sg_n g → ∃ a, lg i = some a ∧ rI dA w 24 i a (sg_lg g i)
def rC (dA : Nat → ClassId) (zs : Nat → Nat) (w : mh_w) (x0 : Nat) (g : st_G) : Prop := ∃ (aL aS aD aV : Nat) (sv dr vw lg : Nat → Option Nat), rP dA zs w x0 g aL aS aD aV sv dr vw lg
theorem rP.to {dA : Nat → ClassId} {zs : Nat → Nat} {w w' : mh_w} {x0 : Nat} {g : st_G} {aL aS aD aV : Nat} {sv dr vw lg : Nat → Option Nat} (h : rP dA zs w x0 g aL aS aD aV sv dr vw lg) (hw : ∀ k i, k < 40 → w' k i = w k i) : rP dA zs w' x0 g aL aS aD aV sv dr vw lg := by
  obtain ⟨r0, rLg, r3, r10, r11, rs, rv, rd, rl⟩ := h
  refine ⟨(hw 0 0 (by omega)).trans r0, rLg.to (hw 1 0 (by omega)) (fun i => hw 2 i (by omega)) (fun _ _ => rfl), (hw 3 0 (by omega)).trans r3, (hw 10 0 (by omega)).trans r10, (hw 11 0 (by omega)).trans r11, fun s hs => ?_, fun t ht => ?_, fun t ht => (rd t ht).to (fun k _ h => hw k t (by omega)), fun i hi => ?_⟩
  · obtain ⟨a, e1, e2⟩ := rs s hs
    exact ⟨a, e1, e2.to (fun k _ h => hw k s (by omega)) (fun _ _ => rfl)⟩
  · obtain ⟨a, e1, e2⟩ := rv t ht
    exact ⟨a, e1, e2.to (fun k _ h => hw k t (by omega)) (fun _ _ _ _ => rfl)⟩
  · obtain ⟨a, e1, e2⟩ := rl i hi
    exact ⟨a, e1, e2.to (fun z hz => hw (24 + z) i (by omega))⟩
theorem rC.x {dA : Nat → ClassId} {zs : Nat → Nat} {w w' : mh_w} {x0 : Nat} {g : st_G} (h : rC dA zs w x0 g) (hw : mh_x w w') : rC dA zs w' x0 g := by
  obtain ⟨aL, aS, aD, aV, sv, dr, vw, lg, h⟩ := h
  exact ⟨aL, aS, aD, aV, sv, dr, vw, lg, h.to (fun k i hk => hw k i (by omega))⟩
theorem mh_x.C {w w' : mh_w} (h : mh_x w w') : mh_C w w' := fun k i _ hk => h k i hk
theorem rC.c {dA : Nat → ClassId} {zs : Nat → Nat} {w w' : mh_w} {x0 : Nat} {g : st_G} (h : rC dA zs w x0 g) (hw : ∀ k i, k < 40 → w' k i = w k i) : rC dA zs w' x0 g := by
  obtain ⟨aL, aS, aD, aV, sv, dr, vw, lg, h⟩ := h
  exact ⟨aL, aS, aD, aV, sv, dr, vw, lg, h.to hw⟩
/-- what is of transaction t has changed -/
theorem rP.tx {dA : Nat → ClassId} {zs : Nat → Nat} {w w' : mh_w} {x0 : Nat} {g : st_G} {aL aS aD aV : Nat} {sv dr vw lg : Nat → Option Nat} (h : rP dA zs w x0 g aL aS aD aV sv dr vw lg) {t : Nat} {d' : Option st_I} {dr' : Nat → Option Nat} (hw : ∀ k i, k < 40 → ¬ (k = 10 ∧ i = 0) → ¬ (12 ≤ k ∧ k < 24 ∧ i = t) → w' k i = w k i)
    (h10 : w' 10 0 = some (aD, .inl (dA 5, 16, .inr (.inr (.inr (.inr dr')))))) (hdr : ∀ z, z ≠ t → dr' z = dr z) (hD : cD dA w' d' t (dr' t)) (hV : ∃ a, vw t = some a ∧ cV dA w' (sg_lg g) d' t a) : rP dA zs w' x0 (g.1, g.2.1, va_up (sg_dr g) t d', g.2.2.2) aL aS aD aV sv dr' vw lg := by
  obtain ⟨r0, rLg, r3, r10, r11, rs, rv, rd, rl⟩ := h
  refine ⟨(hw 0 0 (by omega) (by omega) (by omega)).trans r0, rLg.to (hw 1 0 (by omega) (by omega) (by omega)) (fun i => hw 2 i (by omega) (by omega) (by omega)) (fun _ _ => rfl), (hw 3 0 (by omega) (by omega) (by omega)).trans r3, h10, (hw 11 0 (by omega) (by omega) (by omega)).trans r11, fun s hs => ?_, fun z hz => ?_, fun z hz => ?_, fun i hi => ?_⟩
  · obtain ⟨a, e1, e2⟩ := rs s hs
    exact ⟨a, e1, e2.to (fun k _ h => hw k s (by omega) (by omega) (by omega)) (fun _ _ => rfl)⟩
  · show ∃ a, vw z = some a ∧ cV dA w' (sg_lg g) (va_up (sg_dr g) t d' z) z a
    by_cases e : z = t
    · subst e; rw [va_up_self]; exact hV
    · rw [va_up_ne _ _ e]
      obtain ⟨a, e1, e2⟩ := rv z hz
      exact ⟨a, e1, e2.to (fun k h1 h2 => hw k z (by omega) (by omega) (by omega)) (fun _ _ _ _ => rfl)⟩
  · show cD dA w' (va_up (sg_dr g) t d' z) z (dr' z)
    by_cases e : z = t
    · subst e; rw [va_up_self]; exact hD
    · rw [va_up_ne _ _ e, hdr z e]
      exact (rd z hz).to (fun k h1 h2 => hw k z (by omega) (by omega) (by omega))
  · obtain ⟨a, e1, e2⟩ := rl i hi
    exact ⟨a, e1, e2.to (fun z hz => hw (24 + z) i (by omega) (by omega) (by omega))⟩
/-- a server has gone on, or is back at the start -/
theorem rP.sv {dA : Nat → ClassId} {zs : Nat → Nat} {w w' : mh_w} {x0 : Nat} {g : st_G} {aL aS aD aV : Nat} {sv dr vw lg : Nat → Option Nat} (h : rP dA zs w x0 g aL aS aD aV sv dr vw lg) {s m : Nat} (hw : ∀ k i, k < 40 → ¬ (4 ≤ k ∧ k < 10 ∧ i = s) → w' k i = w k i)
    (hV : ∃ a, sv s = some a ∧ cS dA w' (sg_lg g) m s a) : rP dA zs w' x0 (g.1, va_up (sg_at g) s m, g.2.2) aL aS aD aV sv dr vw lg := by
  obtain ⟨r0, rLg, r3, r10, r11, rs, rv, rd, rl⟩ := h
  refine ⟨(hw 0 0 (by omega) (by omega)).trans r0, rLg.to (hw 1 0 (by omega) (by omega)) (fun i => hw 2 i (by omega) (by omega)) (fun _ _ => rfl), (hw 3 0 (by omega) (by omega)).trans r3, (hw 10 0 (by omega) (by omega)).trans r10, (hw 11 0 (by omega) (by omega)).trans r11, fun z hz => ?_, fun z hz => ?_, fun z hz => ?_, fun i hi => ?_⟩
  · show ∃ a, sv z = some a ∧ cS dA w' (sg_lg g) (va_up (sg_at g) s m z) z a
    by_cases e : z = s
    · subst e; rw [va_up_self]; exact hV
    · rw [va_up_ne _ _ e]
      obtain ⟨a, e1, e2⟩ := rs z hz
      exact ⟨a, e1, e2.to (fun k _ h => hw k z (by omega) (by omega)) (fun _ _ => rfl)⟩
  · obtain ⟨a, e1, e2⟩ := rv z hz
    exact ⟨a, e1, e2.to (fun k h1 h2 => hw k z (by omega) (by omega)) (fun _ _ _ _ => rfl)⟩
  · exact (rd z hz).to (fun k h1 h2 => hw k z (by omega) (by omega))
  · obtain ⟨a, e1, e2⟩ := rl i hi
    exact ⟨a, e1, e2.to (fun z hz => hw (24 + z) i (by omega) (by omega))⟩
/-- the draft of t: it is there -/
theorem cD.some {dA : Nat → ClassId} {w : mh_w} {d : Option st_I} {x : st_I} {t : Nat} {r : Option Nat} (h : cD dA w d t r) (e : d = some x) : ∃ a, r = Option.some a ∧ rI dA w 16 t a x := by subst e; exact h
theorem cD.none {dA : Nat → ClassId} {w : mh_w} {d : Option st_I} {t : Nat} {r : Option Nat} (h : cD dA w d t r) (e : d = Option.none) : r = Option.none := by subst e; exact h
theorem rI.fst {dA : Nat → ClassId} {w : mh_w} {k i a : Nat} {x : st_I} (h : rI dA w k i a x) : ∃ (a1 a3 a4 a5 a6 a7 : Nat), w k i = some (a, .inr (2, [.int (nI (iv_sv x)), .int (nI (iv_sn x)), .int (nI (iv_lv x)), .ref a1, .ref a3, .ref a4, .ref a5, .ref a6, .ref a7, .int (nI (iv_np x)), .int (nI (iv_nw x)), .int (mh_b (iv_gd x))])) := by
  obtain ⟨a1, a3, a4, a5, a6, a7, lo, hi, wk, hn, nn, i0, -⟩ := h
  exact ⟨a1, a3, a4, a5, a6, a7, i0⟩
theorem rN.fst {dA : Nat → ClassId} {w : mh_w} {k i a : Nat} {st : Nat → Option Int64} (h : rN dA w k i a st) : ∃ (a1 a3 : Nat), w k i = some (a, .inr (1, [.ref a1, .ref a3])) := by
  obtain ⟨a1, a3, f, i0, -⟩ := h
  exact ⟨a1, a3, i0⟩
theorem rL.el {dA : Nat → ClassId} {zs : Nat → Nat} {w : mh_w} {x0 : Nat} {g : st_G} {aL aS aD aV : Nat} {sv dr vw lg : Nat → Option Nat} (h : rP dA zs w x0 g aL aS aD aV sv dr vw lg) : mh_el w (sg_n g) lg := fun j y hj hy => by
  obtain ⟨a, e1, e2⟩ := h.2.2.2.2.2.2.2.2 j hj
  cases e1.symm.trans hy
  obtain ⟨a1, a3, a4, a5, a6, a7, i0⟩ := e2.fst
  exact ⟨24, j, _, by omega, i0⟩
/-- the array of the list, if it holds something -/
theorem rA.in {dA : Nat → ClassId} {zs : Nat → Nat} {w : mh_w} {ar n j : Nat} {f : Nat → Option Nat} (h : rA dA zs w ar n f) (hj : j < n) : ∃ (ix cap : Nat) (g : Nat → Option Nat), n ≤ cap ∧ cap ≤ 600 ∧ w 2 ix = some (ar, .inl (dA 3, cap, .inr (.inr (.inr (.inr g))))) ∧ g j = f j := by
  rcases h with ⟨e, -⟩ | ⟨ix, cap, g, g1, g2, g3, g4, g5⟩
  · omega
  · exact ⟨ix, cap, g, g1, g3, g4, g5 j hj⟩
theorem d_MH_needBelow_0 : decode b_MH_needBelow 0 = .ok (.iload_n 0, 1) := by decide +kernel
theorem d_MH_needBelow_1 : decode b_MH_needBelow 1 = .ok (.ifCond .lt 8, 3) := by decide +kernel
theorem d_MH_needBelow_4 : decode b_MH_needBelow 4 = .ok (.iload_n 0, 1) := by decide +kernel
theorem d_MH_needBelow_5 : decode b_MH_needBelow 5 = .ok (.iload_n 1, 1) := by decide +kernel
theorem d_MH_needBelow_6 : decode b_MH_needBelow 6 = .ok (.if_icmp .lt 13, 3) := by decide +kernel
theorem d_MH_needBelow_19 : decode b_MH_needBelow 19 = .ok (.return_, 1) := by decide +kernel
theorem d_MH_needBelow_9 : decode b_MH_needBelow 9 = .ok (.new 165, 3) := by decide +kernel
theorem d_MH_needBelow_12 : decode b_MH_needBelow 12 = .ok (.dup, 1) := by decide +kernel
theorem d_MH_needBelow_13 : decode b_MH_needBelow 13 = .ok (.ldc 167, 2) := by decide +kernel
theorem d_MH_needBelow_15 : decode b_MH_needBelow 15 = .ok (.invokespecial 169, 3) := by decide +kernel
theorem d_MH_needBelow_18 : decode b_MH_needBelow 18 = .ok (.athrow, 1) := by decide +kernel
theorem d_MH_needPart_0 : decode b_MH_needPart 0 = .ok (.iload_n 1, 1) := by decide +kernel
theorem d_MH_needPart_1 : decode b_MH_needPart 1 = .ok (.sipush 256, 3) := by decide +kernel
theorem d_MH_needPart_4 : decode b_MH_needPart 4 = .ok (.invokestatic 40, 3) := by decide +kernel
theorem d_MH_needPart_7 : decode b_MH_needPart 7 = .ok (.iload_n 0, 1) := by decide +kernel
theorem d_MH_needPart_8 : decode b_MH_needPart 8 = .ok (.iload_n 1, 1) := by decide +kernel
theorem d_MH_needPart_9 : decode b_MH_needPart 9 = .ok (.iconst 1, 1) := by decide +kernel
theorem d_MH_needPart_10 : decode b_MH_needPart 10 = .ok (.iadd, 1) := by decide +kernel
theorem d_MH_needPart_11 : decode b_MH_needPart 11 = .ok (.invokestatic 40, 3) := by decide +kernel
theorem d_MH_needPart_14 : decode b_MH_needPart 14 = .ok (.iload_n 2, 1) := by decide +kernel
theorem d_MH_needPart_15 : decode b_MH_needPart 15 = .ok (.iconst 4, 1) := by decide +kernel
theorem d_MH_needPart_16 : decode b_MH_needPart 16 = .ok (.invokestatic 40, 3) := by decide +kernel
theorem d_MH_needPart_19 : decode b_MH_needPart 19 = .ok (.return_, 1) := by decide +kernel
theorem d_MH_openDraft_0 : decode b_MH_openDraft 0 = .ok (.aload_n 0, 1) := by decide +kernel
theorem d_MH_openDraft_1 : decode b_MH_openDraft 1 = .ok (.getfield 25, 3) := by decide +kernel
theorem d_MH_openDraft_4 : decode b_MH_openDraft 4 = .ok (.iload_n 1, 1) := by decide +kernel
theorem d_MH_openDraft_5 : decode b_MH_openDraft 5 = .ok (.aaload, 1) := by decide +kernel
theorem d_MH_openDraft_6 : decode b_MH_openDraft 6 = .ok (.astore_n 2, 1) := by decide +kernel
theorem d_MH_openDraft_7 : decode b_MH_openDraft 7 = .ok (.aload_n 2, 1) := by decide +kernel
theorem d_MH_openDraft_8 : decode b_MH_openDraft 8 = .ok (.ifnonnull 13, 3) := by decide +kernel
theorem d_MH_openDraft_21 : decode b_MH_openDraft 21 = .ok (.aload_n 2, 1) := by decide +kernel
theorem d_MH_openDraft_22 : decode b_MH_openDraft 22 = .ok (.areturn, 1) := by decide +kernel
theorem d_MH_openDraft_11 : decode b_MH_openDraft 11 = .ok (.new 44, 3) := by decide +kernel
theorem d_MH_openDraft_14 : decode b_MH_openDraft 14 = .ok (.dup, 1) := by decide +kernel
theorem d_MH_openDraft_15 : decode b_MH_openDraft 15 = .ok (.ldc 170, 2) := by decide +kernel
theorem d_MH_openDraft_17 : decode b_MH_openDraft 17 = .ok (.invokespecial 48, 3) := by decide +kernel
theorem d_MH_openDraft_20 : decode b_MH_openDraft 20 = .ok (.athrow, 1) := by decide +kernel
theorem d_MH_logged_0 : decode b_MH_logged 0 = .ok (.iload_n 1, 1) := by decide +kernel
theorem d_MH_logged_1 : decode b_MH_logged 1 = .ok (.ifCond .lt 14, 3) := by decide +kernel
theorem d_MH_logged_4 : decode b_MH_logged 4 = .ok (.iload_n 1, 1) := by decide +kernel
theorem d_MH_logged_5 : decode b_MH_logged 5 = .ok (.aload_n 0, 1) := by decide +kernel
theorem d_MH_logged_6 : decode b_MH_logged 6 = .ok (.getfield 10, 3) := by decide +kernel
theorem d_MH_logged_9 : decode b_MH_logged 9 = .ok (.invokevirtual 109, 3) := by decide +kernel
theorem d_MH_logged_12 : decode b_MH_logged 12 = .ok (.if_icmp .lt 13, 3) := by decide +kernel
theorem d_MH_logged_25 : decode b_MH_logged 25 = .ok (.aload_n 0, 1) := by decide +kernel
theorem d_MH_logged_26 : decode b_MH_logged 26 = .ok (.getfield 10, 3) := by decide +kernel
theorem d_MH_logged_29 : decode b_MH_logged 29 = .ok (.iload_n 1, 1) := by decide +kernel
theorem d_MH_logged_30 : decode b_MH_logged 30 = .ok (.invokevirtual 133, 3) := by decide +kernel
theorem d_MH_logged_33 : decode b_MH_logged 33 = .ok (.checkcast 23, 3) := by decide +kernel
theorem d_MH_logged_36 : decode b_MH_logged 36 = .ok (.areturn, 1) := by decide +kernel
theorem d_MH_logged_15 : decode b_MH_logged 15 = .ok (.new 94, 3) := by decide +kernel
theorem d_MH_logged_18 : decode b_MH_logged 18 = .ok (.dup, 1) := by decide +kernel
theorem d_MH_logged_19 : decode b_MH_logged 19 = .ok (.ldc 172, 2) := by decide +kernel
theorem d_MH_logged_21 : decode b_MH_logged 21 = .ok (.invokespecial 98, 3) := by decide +kernel
theorem d_MH_logged_24 : decode b_MH_logged 24 = .ok (.athrow, 1) := by decide +kernel
theorem d_MH_numberIn_0 : decode b_MH_numberIn 0 = .ok (.aload_n 0, 1) := by decide +kernel
theorem d_MH_numberIn_1 : decode b_MH_numberIn 1 = .ok (.getfield 174, 3) := by decide +kernel
theorem d_MH_numberIn_4 : decode b_MH_numberIn 4 = .ok (.iload_n 1, 1) := by decide +kernel
theorem d_MH_numberIn_5 : decode b_MH_numberIn 5 = .ok (.invokevirtual 178, 3) := by decide +kernel
theorem d_MH_numberIn_8 : decode b_MH_numberIn 8 = .ok (.ifCond .ne 13, 3) := by decide +kernel
theorem d_MH_numberIn_21 : decode b_MH_numberIn 21 = .ok (.aload_n 0, 1) := by decide +kernel
theorem d_MH_numberIn_22 : decode b_MH_numberIn 22 = .ok (.getfield 189, 3) := by decide +kernel
theorem d_MH_numberIn_25 : decode b_MH_numberIn 25 = .ok (.iload_n 1, 1) := by decide +kernel
theorem d_MH_numberIn_26 : decode b_MH_numberIn 26 = .ok (.laload, 1) := by decide +kernel
theorem d_MH_numberIn_27 : decode b_MH_numberIn 27 = .ok (.lreturn, 1) := by decide +kernel
theorem d_MH_numberIn_11 : decode b_MH_numberIn 11 = .ok (.new 184, 3) := by decide +kernel
theorem d_MH_numberIn_14 : decode b_MH_numberIn 14 = .ok (.dup, 1) := by decide +kernel
theorem d_MH_numberIn_15 : decode b_MH_numberIn 15 = .ok (.ldc 186, 2) := by decide +kernel
theorem d_MH_numberIn_17 : decode b_MH_numberIn 17 = .ok (.invokespecial 188, 3) := by decide +kernel
theorem d_MH_numberIn_20 : decode b_MH_numberIn 20 = .ok (.athrow, 1) := by decide +kernel
theorem d_MH_writeKey_0 : decode b_MH_writeKey 0 = .ok (.aload_n 0, 1) := by decide +kernel
theorem d_MH_writeKey_1 : decode b_MH_writeKey 1 = .ok (.iload_n 1, 1) := by decide +kernel
theorem d_MH_writeKey_2 : decode b_MH_writeKey 2 = .ok (.invokevirtual 192, 3) := by decide +kernel
theorem d_MH_writeKey_5 : decode b_MH_writeKey 5 = .ok (.ifCond .ne 13, 3) := by decide +kernel
theorem d_MH_writeKey_18 : decode b_MH_writeKey 18 = .ok (.aload_n 0, 1) := by decide +kernel
theorem d_MH_writeKey_19 : decode b_MH_writeKey 19 = .ok (.iload_n 1, 1) := by decide +kernel
theorem d_MH_writeKey_20 : decode b_MH_writeKey 20 = .ok (.iload_n 2, 1) := by decide +kernel
theorem d_MH_writeKey_21 : decode b_MH_writeKey 21 = .ok (.lload_n 3, 1) := by decide +kernel
theorem d_MH_writeKey_22 : decode b_MH_writeKey 22 = .ok (.invokevirtual 197, 3) := by decide +kernel
theorem d_MH_writeKey_25 : decode b_MH_writeKey 25 = .ok (.aload_n 0, 1) := by decide +kernel
theorem d_MH_writeKey_26 : decode b_MH_writeKey 26 = .ok (.getfield 106, 3) := by decide +kernel
theorem d_MH_writeKey_29 : decode b_MH_writeKey 29 = .ok (.ireturn, 1) := by decide +kernel
theorem d_MH_writeKey_8 : decode b_MH_writeKey 8 = .ok (.new 94, 3) := by decide +kernel
theorem d_MH_writeKey_11 : decode b_MH_writeKey 11 = .ok (.dup, 1) := by decide +kernel
theorem d_MH_writeKey_12 : decode b_MH_writeKey 12 = .ok (.ldc 195, 2) := by decide +kernel
theorem d_MH_writeKey_14 : decode b_MH_writeKey 14 = .ok (.invokespecial 98, 3) := by decide +kernel
theorem d_MH_writeKey_17 : decode b_MH_writeKey 17 = .ok (.athrow, 1) := by decide +kernel
theorem d_MH_canBeDone_0 : decode b_MH_canBeDone 0 = .ok (.aload_n 1, 1) := by decide +kernel
theorem d_MH_canBeDone_1 : decode b_MH_canBeDone 1 = .ok (.getfield 201, 3) := by decide +kernel
theorem d_MH_canBeDone_4 : decode b_MH_canBeDone 4 = .ok (.istore_n 2, 1) := by decide +kernel
theorem d_MH_canBeDone_5 : decode b_MH_canBeDone 5 = .ok (.iload_n 2, 1) := by decide +kernel
theorem d_MH_canBeDone_6 : decode b_MH_canBeDone 6 = .ok (.aload_n 0, 1) := by decide +kernel
theorem d_MH_canBeDone_7 : decode b_MH_canBeDone 7 = .ok (.getfield 10, 3) := by decide +kernel
theorem d_MH_canBeDone_10 : decode b_MH_canBeDone 10 = .ok (.invokevirtual 109, 3) := by decide +kernel
theorem d_MH_canBeDone_13 : decode b_MH_canBeDone 13 = .ok (.if_icmp .ge 38, 3) := by decide +kernel
theorem d_MH_canBeDone_51 : decode b_MH_canBeDone 51 = .ok (.iconst 1, 1) := by decide +kernel
theorem d_MH_canBeDone_52 : decode b_MH_canBeDone 52 = .ok (.ireturn, 1) := by decide +kernel
theorem d_MH_canBeDone_16 : decode b_MH_canBeDone 16 = .ok (.aload_n 0, 1) := by decide +kernel
theorem d_MH_canBeDone_17 : decode b_MH_canBeDone 17 = .ok (.getfield 10, 3) := by decide +kernel
theorem d_MH_canBeDone_20 : decode b_MH_canBeDone 20 = .ok (.iload_n 2, 1) := by decide +kernel
theorem d_MH_canBeDone_21 : decode b_MH_canBeDone 21 = .ok (.invokevirtual 133, 3) := by decide +kernel
theorem d_MH_canBeDone_24 : decode b_MH_canBeDone 24 = .ok (.checkcast 23, 3) := by decide +kernel
theorem d_MH_canBeDone_27 : decode b_MH_canBeDone 27 = .ok (.astore_n 3, 1) := by decide +kernel
theorem d_MH_canBeDone_28 : decode b_MH_canBeDone 28 = .ok (.aload_n 3, 1) := by decide +kernel
theorem d_MH_canBeDone_29 : decode b_MH_canBeDone 29 = .ok (.getfield 119, 3) := by decide +kernel
theorem d_MH_canBeDone_32 : decode b_MH_canBeDone 32 = .ok (.ifCond .eq 13, 3) := by decide +kernel
theorem d_MH_canBeDone_45 : decode b_MH_canBeDone 45 = .ok (.iinc 2 1, 3) := by decide +kernel
theorem d_MH_canBeDone_48 : decode b_MH_canBeDone 48 = .ok (.goto (-43), 3) := by decide +kernel
theorem d_MH_canBeDone_35 : decode b_MH_canBeDone 35 = .ok (.aload_n 1, 1) := by decide +kernel
theorem d_MH_canBeDone_36 : decode b_MH_canBeDone 36 = .ok (.aload_n 3, 1) := by decide +kernel
theorem d_MH_canBeDone_37 : decode b_MH_canBeDone 37 = .ok (.invokevirtual 204, 3) := by decide +kernel
theorem d_MH_canBeDone_40 : decode b_MH_canBeDone 40 = .ok (.ifCond .eq 5, 3) := by decide +kernel
theorem d_MH_canBeDone_43 : decode b_MH_canBeDone 43 = .ok (.iconst 0, 1) := by decide +kernel
theorem d_MH_canBeDone_44 : decode b_MH_canBeDone 44 = .ok (.ireturn, 1) := by decide +kernel
theorem d_MH_howManyOpen_0 : decode b_MH_howManyOpen 0 = .ok (.iconst 0, 1) := by decide +kernel
theorem d_MH_howManyOpen_1 : decode b_MH_howManyOpen 1 = .ok (.istore_n 1, 1) := by decide +kernel
theorem d_MH_howManyOpen_2 : decode b_MH_howManyOpen 2 = .ok (.iconst 0, 1) := by decide +kernel
theorem d_MH_howManyOpen_3 : decode b_MH_howManyOpen 3 = .ok (.istore_n 2, 1) := by decide +kernel
theorem d_MH_howManyOpen_4 : decode b_MH_howManyOpen 4 = .ok (.iload_n 2, 1) := by decide +kernel
theorem d_MH_howManyOpen_5 : decode b_MH_howManyOpen 5 = .ok (.bipush 16, 2) := by decide +kernel
theorem d_MH_howManyOpen_7 : decode b_MH_howManyOpen 7 = .ok (.if_icmp .ge 21, 3) := by decide +kernel
theorem d_MH_howManyOpen_28 : decode b_MH_howManyOpen 28 = .ok (.iload_n 1, 1) := by decide +kernel
theorem d_MH_howManyOpen_29 : decode b_MH_howManyOpen 29 = .ok (.ireturn, 1) := by decide +kernel
theorem d_MH_howManyOpen_10 : decode b_MH_howManyOpen 10 = .ok (.aload_n 0, 1) := by decide +kernel
theorem d_MH_howManyOpen_11 : decode b_MH_howManyOpen 11 = .ok (.getfield 25, 3) := by decide +kernel
theorem d_MH_howManyOpen_14 : decode b_MH_howManyOpen 14 = .ok (.iload_n 2, 1) := by decide +kernel
theorem d_MH_howManyOpen_15 : decode b_MH_howManyOpen 15 = .ok (.aaload, 1) := by decide +kernel
theorem d_MH_howManyOpen_16 : decode b_MH_howManyOpen 16 = .ok (.ifnull 6, 3) := by decide +kernel
theorem d_MH_howManyOpen_22 : decode b_MH_howManyOpen 22 = .ok (.iinc 2 1, 3) := by decide +kernel
theorem d_MH_howManyOpen_25 : decode b_MH_howManyOpen 25 = .ok (.goto (-21), 3) := by decide +kernel
theorem d_MH_howManyOpen_19 : decode b_MH_howManyOpen 19 = .ok (.iinc 1 1, 3) := by decide +kernel
set_option maxHeartbeats 4000000 in
set_option maxRecDepth 100000 in
theorem c_MH_needBelow {l : Launch} {b : Nat} {dC : Nat → ClassId} {dI : Nat → Nat → Nat} {dA : Nat → ClassId} {zs : Nat → Nat} {w : mh_w} {v bd : Nat} (h : v < bd) (hbd : bd < 2 ^ 31) : mh_Met l b dC dI dA zs y_MH_needBelow (mh_rm 0 0 0) [.int (nI v), .int (nI bd)] w (mh_V none (fun w' => w' = w)) := by
  refine mh_ofW (cc := b_MH_needBelow) (n := 2) (ret := none) (hs := []) (by decide) k145 ?_
  intro p e s m below meth c hx hb hr hml hown hts hlocks hnm hT hOK hadm
  have K0 : mh_K0 p s m ([.int (nI v), .int (nI bd)]).toArray c "MeldHost" b_MH_needBelow dC dI dA := ⟨hx, hb, hown, hts, hOK.1, hOK.2.1⟩
  have hX := hOK.2.2.2.2
  have hb0 := hOK.2.2.2.1
  have hS : va_S (mh_A b) s.heap s.heap [] := va_S.rf
  have hl := lv_entry ([.int (nI v), .int (nI bd)]) (n := 2) (Nat.le_of_ble_eq_true rfl)
  rw [lg_entry_eq]
  generalize (lg_sl ([.int (nI v), .int (nI bd)]) ++ List.replicate (2 - (lg_sl ([.int (nI v), .int (nI bd)])).length) Slot.unset).toArray = ls at hl ⊢
  have hl : lv_has ls 2 [(0, .int (nI v)), (1, .int (nI bd))] := hl
  refine lv_iload_n hx hb d_MH_needBelow_0 rfl (lv_at hl 0 rfl) ?_
  refine mh_if_lt (tgt := 9) hx hb (by omega) d_MH_needBelow_1 (by decide) (fun z => absurd z (by omega)) (fun _ => ?_)
  refine lv_iload_n hx hb d_MH_needBelow_4 rfl (lv_at hl 0 rfl) ?_
  refine lv_iload_n hx hb d_MH_needBelow_5 rfl (lv_at hl 1 rfl) ?_
  refine mh_icmp_lt (tgt := 19) hx hb (by omega) (by omega) d_MH_needBelow_6 (by decide) (fun _ => ?_) (fun z => absurd z (by omega))
  exact mh_vret K0 hr hlocks hX hS (⟨rfl, rfl⟩) (Nat.le_of_ble_eq_true rfl) (Nat.le_of_ble_eq_true rfl) d_MH_needBelow_19
set_option maxHeartbeats 4000000 in
set_option maxRecDepth 100000 in
theorem c_MH_needBelow_no {l : Launch} {b : Nat} {dC : Nat → ClassId} {dI : Nat → Nat → Nat} {dA : Nat → ClassId} {zs : Nat → Nat} {w : mh_w} (hl0 : l.stackTraces = false) {v : Int32} {bd : Nat} (h : st_in v bd = false) : mh_Met l b dC dI dA zs y_MH_needBelow (mh_rm 6 1 6) [.int v, .int (nI bd)] w (mh_T 8 (mh_x w)) := by
  refine mh_ofW (cc := b_MH_needBelow) (n := 2) (ret := none) (hs := []) (by decide) k145 ?_
  intro p e s m below meth c hx hb hr hml hown hts hlocks hnm hT hOK hadm
  have K0 : mh_K0 p s m ([.int v, .int (nI bd)]).toArray c "MeldHost" b_MH_needBelow dC dI dA := ⟨hx, hb, hown, hts, hOK.1, hOK.2.1⟩
  have hX := hOK.2.2.2.2
  have hb0 := hOK.2.2.2.1
  have hS : va_S (mh_A b) s.heap s.heap [] := va_S.rf
  have hl := lv_entry ([.int v, .int (nI bd)]) (n := 2) (Nat.le_of_ble_eq_true rfl)
  rw [lg_entry_eq]
  generalize (lg_sl ([.int v, .int (nI bd)]) ++ List.replicate (2 - (lg_sl ([.int v, .int (nI bd)])).length) Slot.unset).toArray = ls at hl ⊢
  have hl : lv_has ls 2 [(0, .int v), (1, .int (nI bd))] := hl
  refine lv_iload_n hx hb d_MH_needBelow_0 rfl (lv_at hl 0 rfl) ?_
  refine lv_if_lt (tgt := 9) hx hb d_MH_needBelow_1 (by decide) (fun ct => ?_) (fun cf => ?_)
  · skip
    exact mh_throw hl0 K0 hOK ex_IA (is := 167) (tx := "an argument is out of its bounds") (by decide) k146 hlocks hT hml hl.1 hX hS (fun q => ⟨q, rfl, mh_set_eq _ _ _ _, mh_x.of⟩) (Nat.le_of_ble_eq_true rfl) (Nat.le_of_ble_eq_true rfl) (Nat.le_of_ble_eq_true rfl) (Nat.le_of_ble_eq_true rfl) (Nat.le_of_ble_eq_true rfl) (Nat.le_of_ble_eq_true rfl) d_MH_needBelow_9 d_MH_needBelow_12 d_MH_needBelow_13 d_MH_needBelow_15 d_MH_needBelow_18
  · skip
    refine lv_iload_n hx hb d_MH_needBelow_4 rfl (lv_at hl 0 rfl) ?_
    refine lv_iload_n hx hb d_MH_needBelow_5 rfl (lv_at hl 1 rfl) ?_
    refine lv_icmp_lt (tgt := 19) hx hb d_MH_needBelow_6 (by decide) (fun c2 => ?_) (fun c2 => ?_)
    · skip
      exact absurd h (by simp [st_in, cf, c2])
    · skip
      exact mh_throw hl0 K0 hOK ex_IA (is := 167) (tx := "an argument is out of its bounds") (by decide) k146 hlocks hT hml hl.1 hX hS (fun q => ⟨q, rfl, mh_set_eq _ _ _ _, mh_x.of⟩) (Nat.le_of_ble_eq_true rfl) (Nat.le_of_ble_eq_true rfl) (Nat.le_of_ble_eq_true rfl) (Nat.le_of_ble_eq_true rfl) (Nat.le_of_ble_eq_true rfl) (Nat.le_of_ble_eq_true rfl) d_MH_needBelow_9 d_MH_needBelow_12 d_MH_needBelow_13 d_MH_needBelow_15 d_MH_needBelow_18
set_option maxHeartbeats 4000000 in
set_option maxRecDepth 100000 in
theorem c_MH_needPart {l : Launch} {b : Nat} {dC : Nat → ClassId} {dI : Nat → Nat → Nat} {dA : Nat → ClassId} {zs : Nat → Nat} {w : mh_w} {low high q : Nat} (h1 : low ≤ high) (h2 : high < 256) (h3 : q < 4) : mh_Met l b dC dI dA zs y_MH_needPart (mh_rm 1 0 0) [.int (nI low), .int (nI high), .int (nI q)] w (mh_V none (fun w' => w' = w)) := by
  refine mh_ofW (cc := b_MH_needPart) (n := 3) (ret := none) (hs := []) (by decide) k413 ?_
  intro p e s m below meth c hx hb hr hml hown hts hlocks hnm hT hOK hadm
  have K0 : mh_K0 p s m ([.int (nI low), .int (nI high), .int (nI q)]).toArray c "MeldHost" b_MH_needPart dC dI dA := ⟨hx, hb, hown, hts, hOK.1, hOK.2.1⟩
  have hX := hOK.2.2.2.2
  have hb0 := hOK.2.2.2.1
  have hS : va_S (mh_A b) s.heap s.heap [] := va_S.rf
  have hl := lv_entry ([.int (nI low), .int (nI high), .int (nI q)]) (n := 3) (Nat.le_of_ble_eq_true rfl)
  rw [lg_entry_eq]
  generalize (lg_sl ([.int (nI low), .int (nI high), .int (nI q)]) ++ List.replicate (3 - (lg_sl ([.int (nI low), .int (nI high), .int (nI q)])).length) Slot.unset).toArray = ls at hl ⊢
  have hl : lv_has ls 3 [(0, .int (nI low)), (1, .int (nI high)), (2, .int (nI q))] := hl
  refine lv_iload_n hx hb d_MH_needPart_0 rfl (lv_at hl 1 rfl) ?_
  refine lv_sipush (v := nI 256) hx hb d_MH_needPart_1 (by decide) ?_
  refine mh_callR (mh_sS (rest := []) (av := [.int (nI high), .int (nI 256)]) K0 e_MH_needBelow l_MH_40 k144 rfl rfl d_MH_needPart_4) (c_MH_needBelow h2 (by decide)) K0 hOK hml hl.1 e_MH_needBelow hX hS d_MH_needPart_4 (Nat.le_of_ble_eq_true rfl) (Nat.le_of_ble_eq_true rfl) (Nat.le_of_ble_eq_true rfl) (Nat.le_of_ble_eq_true rfl) (Nat.le_of_ble_eq_true rfl) (fun H locs hX hS => ?_)
  refine W.eq (g2 := F0 m 7 ls []) rfl ?_
  refine lv_iload_n hx hb d_MH_needPart_7 rfl (lv_at hl 0 rfl) ?_
  refine lv_iload_n hx hb d_MH_needPart_8 rfl (lv_at hl 1 rfl) ?_
  refine lv_iconst (v := nI 1) hx hb d_MH_needPart_9 (by decide) ?_
  refine mh_addN hx hb d_MH_needPart_10 ?_
  refine mh_callR (mh_sS (rest := []) (av := [.int (nI low), .int (nI (high + 1))]) K0 e_MH_needBelow l_MH_40 k144 rfl rfl d_MH_needPart_11) (c_MH_needBelow (bd := high + 1) (by omega) (by omega)) K0 hOK hml hl.1 e_MH_needBelow hX hS d_MH_needPart_11 (Nat.le_of_ble_eq_true rfl) (Nat.le_of_ble_eq_true rfl) (Nat.le_of_ble_eq_true rfl) (Nat.le_of_ble_eq_true rfl) (Nat.le_of_ble_eq_true rfl) (fun H locs hX hS => ?_)
  refine W.eq (g2 := F0 m 14 ls []) rfl ?_
  refine lv_iload_n hx hb d_MH_needPart_14 rfl (lv_at hl 2 rfl) ?_
  refine lv_iconst (v := nI 4) hx hb d_MH_needPart_15 (by decide) ?_
  refine mh_callR (mh_sS (rest := []) (av := [.int (nI q), .int (nI 4)]) K0 e_MH_needBelow l_MH_40 k144 rfl rfl d_MH_needPart_16) (c_MH_needBelow h3 (by decide)) K0 hOK hml hl.1 e_MH_needBelow hX hS d_MH_needPart_16 (Nat.le_of_ble_eq_true rfl) (Nat.le_of_ble_eq_true rfl) (Nat.le_of_ble_eq_true rfl) (Nat.le_of_ble_eq_true rfl) (Nat.le_of_ble_eq_true rfl) (fun H locs hX hS => ?_)
  refine W.eq (g2 := F0 m 19 ls []) rfl ?_
  exact mh_vret K0 hr hlocks hX hS (⟨rfl, rfl⟩) (Nat.le_of_ble_eq_true rfl) (Nat.le_of_ble_eq_true rfl) d_MH_needPart_19
set_option maxHeartbeats 4000000 in
set_option maxRecDepth 100000 in
theorem c_MH_needPart_no {l : Launch} {b : Nat} {dC : Nat → ClassId} {dI : Nat → Nat → Nat} {dA : Nat → ClassId} {zs : Nat → Nat} {w : mh_w} (hl0 : l.stackTraces = false) {low high what : Int32} (h : sp_pt low high what = false) : mh_Met l b dC dI dA zs y_MH_needPart (mh_rm 7 1 6) [.int low, .int high, .int what] w (mh_T 8 (mh_x w)) := by
  refine mh_ofW (cc := b_MH_needPart) (n := 3) (ret := none) (hs := []) (by decide) k413 ?_
  intro p e s m below meth c hx hb hr hml hown hts hlocks hnm hT hOK hadm
  have K0 : mh_K0 p s m ([.int low, .int high, .int what]).toArray c "MeldHost" b_MH_needPart dC dI dA := ⟨hx, hb, hown, hts, hOK.1, hOK.2.1⟩
  have hX := hOK.2.2.2.2
  have hb0 := hOK.2.2.2.1
  have hS : va_S (mh_A b) s.heap s.heap [] := va_S.rf
  have hl := lv_entry ([.int low, .int high, .int what]) (n := 3) (Nat.le_of_ble_eq_true rfl)
  rw [lg_entry_eq]
  generalize (lg_sl ([.int low, .int high, .int what]) ++ List.replicate (3 - (lg_sl ([.int low, .int high, .int what])).length) Slot.unset).toArray = ls at hl ⊢
  have hl : lv_has ls 3 [(0, .int low), (1, .int high), (2, .int what)] := hl
  refine lv_iload_n hx hb d_MH_needPart_0 rfl (lv_at hl 1 rfl) ?_
  refine lv_sipush (v := nI 256) hx hb d_MH_needPart_1 (by decide) ?_
  by_cases c1 : st_in high 256 = true
  · skip
    obtain ⟨hi, h2, e1⟩ := st_in_of (by decide) c1
    subst e1
    refine mh_callR (mh_sS (rest := []) (av := [.int (nI hi), .int (nI 256)]) K0 e_MH_needBelow l_MH_40 k144 rfl rfl d_MH_needPart_4) (c_MH_needBelow h2 (by decide)) K0 hOK hml hl.1 e_MH_needBelow hX hS d_MH_needPart_4 (Nat.le_of_ble_eq_true rfl) (Nat.le_of_ble_eq_true rfl) (Nat.le_of_ble_eq_true rfl) (Nat.le_of_ble_eq_true rfl) (Nat.le_of_ble_eq_true rfl) (fun H locs hX hS => ?_)
    refine W.eq (g2 := F0 m 7 ls []) rfl ?_
    refine lv_iload_n hx hb d_MH_needPart_7 rfl (lv_at hl 0 rfl) ?_
    refine lv_iload_n hx hb d_MH_needPart_8 rfl (lv_at hl 1 rfl) ?_
    refine lv_iconst (v := nI 1) hx hb d_MH_needPart_9 (by decide) ?_
    refine mh_addN hx hb d_MH_needPart_10 ?_
    by_cases c2 : st_in low (hi + 1) = true
    · skip
      obtain ⟨lo, h1, e1⟩ := st_in_of (by omega) c2
      subst e1
      refine mh_callR (mh_sS (rest := []) (av := [.int (nI lo), .int (nI (hi + 1))]) K0 e_MH_needBelow l_MH_40 k144 rfl rfl d_MH_needPart_11) (c_MH_needBelow (bd := hi + 1) (by omega) (by omega)) K0 hOK hml hl.1 e_MH_needBelow hX hS d_MH_needPart_11 (Nat.le_of_ble_eq_true rfl) (Nat.le_of_ble_eq_true rfl) (Nat.le_of_ble_eq_true rfl) (Nat.le_of_ble_eq_true rfl) (Nat.le_of_ble_eq_true rfl) (fun H locs hX hS => ?_)
      refine W.eq (g2 := F0 m 14 ls []) rfl ?_
      refine lv_iload_n hx hb d_MH_needPart_14 rfl (lv_at hl 2 rfl) ?_
      refine lv_iconst (v := nI 4) hx hb d_MH_needPart_15 (by decide) ?_
      by_cases c3 : st_in what 4 = true
      · skip
        exfalso
        have e5 : nI lo ≤ nI hi := nI_le (by omega) (by omega)
        simp [sp_pt, c1, c3, st_in_nI (j := lo) (n := 256) (by omega) (by decide), e5] at h
      · skip
        refine mh_callT (mh_sS (rest := []) (av := [.int what, .int (nI 4)]) K0 e_MH_needBelow l_MH_40 k144 rfl rfl d_MH_needPart_16) (c_MH_needBelow_no hl0 (Bool.eq_false_iff.mpr c3)) K0 hOK hml hl.1 e_MH_needBelow hX hS d_MH_needPart_16 (Nat.le_of_ble_eq_true rfl) (Nat.le_of_ble_eq_true rfl) (Nat.le_of_ble_eq_true rfl) (Nat.le_of_ble_eq_true rfl) (Nat.le_of_ble_eq_true rfl) (fun q w1 H locs hq hw hX hS => ?_)
        exact mh_leave hlocks hT hX hS (⟨q, rfl, hq, hw⟩) (Nat.le_of_ble_eq_true rfl) (Nat.le_of_ble_eq_true rfl)
    · skip
      refine mh_callT (mh_sS (rest := []) (av := [.int low, .int (nI (hi + 1))]) K0 e_MH_needBelow l_MH_40 k144 rfl rfl d_MH_needPart_11) (c_MH_needBelow_no hl0 (Bool.eq_false_iff.mpr c2)) K0 hOK hml hl.1 e_MH_needBelow hX hS d_MH_needPart_11 (Nat.le_of_ble_eq_true rfl) (Nat.le_of_ble_eq_true rfl) (Nat.le_of_ble_eq_true rfl) (Nat.le_of_ble_eq_true rfl) (Nat.le_of_ble_eq_true rfl) (fun q w1 H locs hq hw hX hS => ?_)
      exact mh_leave hlocks hT hX hS (⟨q, rfl, hq, hw⟩) (Nat.le_of_ble_eq_true rfl) (Nat.le_of_ble_eq_true rfl)
  · skip
    refine mh_callT (mh_sS (rest := []) (av := [.int high, .int (nI 256)]) K0 e_MH_needBelow l_MH_40 k144 rfl rfl d_MH_needPart_4) (c_MH_needBelow_no hl0 (Bool.eq_false_iff.mpr c1)) K0 hOK hml hl.1 e_MH_needBelow hX hS d_MH_needPart_4 (Nat.le_of_ble_eq_true rfl) (Nat.le_of_ble_eq_true rfl) (Nat.le_of_ble_eq_true rfl) (Nat.le_of_ble_eq_true rfl) (Nat.le_of_ble_eq_true rfl) (fun q w1 H locs hq hw hX hS => ?_)
    exact mh_leave hlocks hT hX hS (⟨q, rfl, hq, hw⟩) (Nat.le_of_ble_eq_true rfl) (Nat.le_of_ble_eq_true rfl)
set_option maxHeartbeats 4000000 in
set_option maxRecDepth 100000 in
theorem c_MH_openDraft {l : Launch} {b : Nat} {dC : Nat → ClassId} {dI : Nat → Nat → Nat} {dA : Nat → ClassId} {zs : Nat → Nat} {w : mh_w} {x0 aL aS aD aV rs : Nat} (r0 : w 0 0 = some (x0, .inr (4, [.ref aL, .ref aS, .ref aD, .ref aV, .int (nI rs)]))) {dr : Nat → Option Nat} (r10 : w 10 0 = some (aD, .inl (dA 5, 16, .inr (.inr (.inr (.inr dr)))))) {t y : Nat} (ht : t < 16) (hy : dr t = some y) : mh_Met l b dC dI dA zs y_MH_openDraft (mh_rm 0 0 0) [.ref x0, .int (nI t)] w (mh_V (some (.ref y)) (fun w' => w' = w)) := by
  refine mh_ofW (cc := b_MH_openDraft) (n := 3) (ret := (some (.object "MeldHost$Intention"))) (hs := []) (by decide) k304 ?_
  intro p e s m below meth c hx hb hr hml hown hts hlocks hnm hT hOK hadm
  have K0 : mh_K0 p s m ([.ref x0, .int (nI t)]).toArray c "MeldHost" b_MH_openDraft dC dI dA := ⟨hx, hb, hown, hts, hOK.1, hOK.2.1⟩
  have hX := hOK.2.2.2.2
  have hb0 := hOK.2.2.2.1
  have hS : va_S (mh_A b) s.heap s.heap [] := va_S.rf
  have hl := lv_entry ([.ref x0, .int (nI t)]) (n := 3) (Nat.le_of_ble_eq_true rfl)
  rw [lg_entry_eq]
  generalize (lg_sl ([.ref x0, .int (nI t)]) ++ List.replicate (3 - (lg_sl ([.ref x0, .int (nI t)])).length) Slot.unset).toArray = ls at hl ⊢
  have hl : lv_has ls 3 [(0, .ref x0), (1, .int (nI t))] := hl
  refine lv_aload_n hx hb d_MH_openDraft_0 rfl (lv_at hl 0 rfl) ?_
  refine mh_get K0 hX r0 f_MH_25 rfl d_MH_openDraft_1 ?_
  refine lv_iload_n hx hb d_MH_openDraft_4 rfl (lv_at hl 1 rfl) ?_
  refine mh_aaldN 5 rfl K0 hX r10 (by omega) (by omega) (r := (some y)) (hy) d_MH_openDraft_5 ?_
  refine W.eq (g2 := F0 m 6 ls [.ref y]) rfl ?_
  refine lv_astore_n (lv' := [(2, .ref y), (0, .ref x0), (1, .int (nI t))]) hx hb d_MH_openDraft_6 rfl hl (by decide) rfl (fun ls hl => ?_)
  refine lv_aload_n hx hb d_MH_openDraft_7 rfl (lv_at hl 0 rfl) ?_
  refine lv_ifnonnull (tgt := 21) hx hb d_MH_openDraft_8 (by decide) ?_
  refine lv_aload_n hx hb d_MH_openDraft_21 rfl (lv_at hl 0 rfl) ?_
  exact mh_aret K0 hr (Or.inl ⟨_, rfl⟩) (Or.inr ⟨_, rfl⟩) hlocks hX hS (⟨rfl, rfl⟩) (Nat.le_of_ble_eq_true rfl) (Nat.le_of_ble_eq_true rfl) d_MH_openDraft_22
set_option maxHeartbeats 4000000 in
set_option maxRecDepth 100000 in
theorem c_MH_openDraft_no {l : Launch} {b : Nat} {dC : Nat → ClassId} {dI : Nat → Nat → Nat} {dA : Nat → ClassId} {zs : Nat → Nat} {w : mh_w} (hl0 : l.stackTraces = false) {x0 aL aS aD aV rs : Nat} (r0 : w 0 0 = some (x0, .inr (4, [.ref aL, .ref aS, .ref aD, .ref aV, .int (nI rs)]))) {dr : Nat → Option Nat} (r10 : w 10 0 = some (aD, .inl (dA 5, 16, .inr (.inr (.inr (.inr dr)))))) {t : Nat} (ht : t < 16) (hy : dr t = none) : mh_Met l b dC dI dA zs y_MH_openDraft (mh_rm 6 1 6) [.ref x0, .int (nI t)] w (mh_T 9 (mh_x w)) := by
  refine mh_ofW (cc := b_MH_openDraft) (n := 3) (ret := (some (.object "MeldHost$Intention"))) (hs := []) (by decide) k304 ?_
  intro p e s m below meth c hx hb hr hml hown hts hlocks hnm hT hOK hadm
  have K0 : mh_K0 p s m ([.ref x0, .int (nI t)]).toArray c "MeldHost" b_MH_openDraft dC dI dA := ⟨hx, hb, hown, hts, hOK.1, hOK.2.1⟩
  have hX := hOK.2.2.2.2
  have hb0 := hOK.2.2.2.1
  have hS : va_S (mh_A b) s.heap s.heap [] := va_S.rf
  have hl := lv_entry ([.ref x0, .int (nI t)]) (n := 3) (Nat.le_of_ble_eq_true rfl)
  rw [lg_entry_eq]
  generalize (lg_sl ([.ref x0, .int (nI t)]) ++ List.replicate (3 - (lg_sl ([.ref x0, .int (nI t)])).length) Slot.unset).toArray = ls at hl ⊢
  have hl : lv_has ls 3 [(0, .ref x0), (1, .int (nI t))] := hl
  refine lv_aload_n hx hb d_MH_openDraft_0 rfl (lv_at hl 0 rfl) ?_
  refine mh_get K0 hX r0 f_MH_25 rfl d_MH_openDraft_1 ?_
  refine lv_iload_n hx hb d_MH_openDraft_4 rfl (lv_at hl 1 rfl) ?_
  refine mh_aaldN 5 rfl K0 hX r10 (by omega) (by omega) (r := none) (hy) d_MH_openDraft_5 ?_
  refine W.eq (g2 := F0 m 6 ls [.null]) rfl ?_
  refine lv_astore_nN (lv' := [(2, .null), (0, .ref x0), (1, .int (nI t))]) hx hb d_MH_openDraft_6 rfl hl (by decide) rfl (fun ls hl => ?_)
  refine lv_aload_nN hx hb d_MH_openDraft_7 rfl (lv_at hl 0 rfl) ?_
  refine lv_ifnonnullN hx hb d_MH_openDraft_8 ?_
  exact mh_throw hl0 K0 hOK ex_IS (is := 170) (tx := "the transaction is not open") (by decide) k215 hlocks hT hml hl.1 hX hS (fun q => ⟨q, rfl, mh_set_eq _ _ _ _, mh_x.of⟩) (Nat.le_of_ble_eq_true rfl) (Nat.le_of_ble_eq_true rfl) (Nat.le_of_ble_eq_true rfl) (Nat.le_of_ble_eq_true rfl) (Nat.le_of_ble_eq_true rfl) (Nat.le_of_ble_eq_true rfl) d_MH_openDraft_11 d_MH_openDraft_14 d_MH_openDraft_15 d_MH_openDraft_17 d_MH_openDraft_20
set_option maxHeartbeats 4000000 in
set_option maxRecDepth 100000 in
theorem c_MH_logged {l : Launch} {b : Nat} {dC : Nat → ClassId} {dI : Nat → Nat → Nat} {dA : Nat → ClassId} {zs : Nat → Nat} {w : mh_w} {x0 aL aS aD aV rs : Nat} (r0 : w 0 0 = some (x0, .inr (4, [.ref aL, .ref aS, .ref aD, .ref aV, .int (nI rs)]))) {mc : Int32} {ar n0 : Nat} (r1 : w 1 0 = some (aL, .inr (5, [.int mc, .ref ar, .int (nI n0)]))) (hn : n0 ≤ 400) {ix cap : Nat} {ga : Nat → Option Nat} (hga : w 2 ix = some (ar, .inl (dA 3, cap, .inr (.inr (.inr (.inr ga)))))) (hcap : cap ≤ 600) (hnc : n0 ≤ cap) {j y ky iy : Nat} {ys : List Value} (hj : j < n0) (hy : ga j = some y) (hyw : w ky iy = some (y, .inr (2, ys))) : mh_Met l b dC dI dA zs y_MH_logged (mh_rm 3 0 0) [.ref x0, .int (nI j)] w (mh_V (some (.ref y)) (fun w' => w' = w)) := by
  refine mh_ofW (cc := b_MH_logged) (n := 2) (ret := (some (.object "MeldHost$Intention"))) (hs := []) (by decide) k610 ?_
  intro p e s m below meth c hx hb hr hml hown hts hlocks hnm hT hOK hadm
  have K0 : mh_K0 p s m ([.ref x0, .int (nI j)]).toArray c "MeldHost" b_MH_logged dC dI dA := ⟨hx, hb, hown, hts, hOK.1, hOK.2.1⟩
  have hX := hOK.2.2.2.2
  have hb0 := hOK.2.2.2.1
  have hS : va_S (mh_A b) s.heap s.heap [] := va_S.rf
  have hl := lv_entry ([.ref x0, .int (nI j)]) (n := 2) (Nat.le_of_ble_eq_true rfl)
  rw [lg_entry_eq]
  generalize (lg_sl ([.ref x0, .int (nI j)]) ++ List.replicate (2 - (lg_sl ([.ref x0, .int (nI j)])).length) Slot.unset).toArray = ls at hl ⊢
  have hl : lv_has ls 2 [(0, .ref x0), (1, .int (nI j))] := hl
  refine lv_iload_n hx hb d_MH_logged_0 rfl (lv_at hl 1 rfl) ?_
  refine mh_if_lt (tgt := 15) hx hb (by omega) d_MH_logged_1 (by decide) (fun z => absurd z (by omega)) (fun _ => ?_)
  refine lv_iload_n hx hb d_MH_logged_4 rfl (lv_at hl 1 rfl) ?_
  refine lv_aload_n hx hb d_MH_logged_5 rfl (lv_at hl 0 rfl) ?_
  refine mh_get K0 hX r0 f_MH_10 rfl d_MH_logged_6 ?_
  refine mh_callR (mh_sV (rest := [.int (nI j)]) (av := []) K0 hX r1 rfl e_AL_size l_MH_109 k448 k449 rfl rfl d_MH_logged_9) (c_AL_size r1) K0 hOK hml hl.1 e_AL_size hX hS d_MH_logged_9 (Nat.le_of_ble_eq_true rfl) (Nat.le_of_ble_eq_true rfl) (Nat.le_of_ble_eq_true rfl) (Nat.le_of_ble_eq_true rfl) (Nat.le_of_ble_eq_true rfl) (fun H locs hX hS => ?_)
  refine W.eq (g2 := F0 m 12 ls [.int (nI n0), .int (nI j)]) rfl ?_
  refine mh_icmp_lt (tgt := 25) hx hb (by omega) (by omega) d_MH_logged_12 (by decide) (fun _ => ?_) (fun z => absurd z (by omega))
  refine lv_aload_n hx hb d_MH_logged_25 rfl (lv_at hl 0 rfl) ?_
  refine mh_get K0 hX r0 f_MH_10 rfl d_MH_logged_26 ?_
  refine lv_iload_n hx hb d_MH_logged_29 rfl (lv_at hl 1 rfl) ?_
  refine mh_callR (mh_sV (rest := []) (av := [.int (nI j)]) K0 hX r1 rfl e_AL_get l_MH_133 k457 k458 rfl rfl d_MH_logged_30) (c_AL_get r1 hga hcap hj hnc hy) K0 hOK hml hl.1 e_AL_get hX hS d_MH_logged_30 (Nat.le_of_ble_eq_true rfl) (Nat.le_of_ble_eq_true rfl) (Nat.le_of_ble_eq_true rfl) (Nat.le_of_ble_eq_true rfl) (Nat.le_of_ble_eq_true rfl) (fun H locs hX hS => ?_)
  refine W.eq (g2 := F0 m 33 ls [.ref y]) rfl ?_
  refine mh_cast K0 hX hyw rfl k113 d_MH_logged_33 ?_
  exact mh_aret K0 hr (Or.inl ⟨_, rfl⟩) (Or.inr ⟨_, rfl⟩) hlocks hX hS (⟨rfl, rfl⟩) (Nat.le_of_ble_eq_true rfl) (Nat.le_of_ble_eq_true rfl) d_MH_logged_36
set_option maxHeartbeats 4000000 in
set_option maxRecDepth 100000 in
theorem c_MH_logged_no {l : Launch} {b : Nat} {dC : Nat → ClassId} {dI : Nat → Nat → Nat} {dA : Nat → ClassId} {zs : Nat → Nat} {w : mh_w} (hl0 : l.stackTraces = false) {x0 aL aS aD aV rs : Nat} (r0 : w 0 0 = some (x0, .inr (4, [.ref aL, .ref aS, .ref aD, .ref aV, .int (nI rs)]))) {mc : Int32} {ar n0 : Nat} (r1 : w 1 0 = some (aL, .inr (5, [.int mc, .ref ar, .int (nI n0)]))) (hn : n0 ≤ 400) {v : Int32} (h : st_in v n0 = false) : mh_Met l b dC dI dA zs y_MH_logged (mh_rm 6 1 6) [.ref x0, .int v] w (mh_T 10 (mh_x w)) := by
  refine mh_ofW (cc := b_MH_logged) (n := 2) (ret := (some (.object "MeldHost$Intention"))) (hs := []) (by decide) k610 ?_
  intro p e s m below meth c hx hb hr hml hown hts hlocks hnm hT hOK hadm
  have K0 : mh_K0 p s m ([.ref x0, .int v]).toArray c "MeldHost" b_MH_logged dC dI dA := ⟨hx, hb, hown, hts, hOK.1, hOK.2.1⟩
  have hX := hOK.2.2.2.2
  have hb0 := hOK.2.2.2.1
  have hS : va_S (mh_A b) s.heap s.heap [] := va_S.rf
  have hl := lv_entry ([.ref x0, .int v]) (n := 2) (Nat.le_of_ble_eq_true rfl)
  rw [lg_entry_eq]
  generalize (lg_sl ([.ref x0, .int v]) ++ List.replicate (2 - (lg_sl ([.ref x0, .int v])).length) Slot.unset).toArray = ls at hl ⊢
  have hl : lv_has ls 2 [(0, .ref x0), (1, .int v)] := hl
  refine lv_iload_n hx hb d_MH_logged_0 rfl (lv_at hl 1 rfl) ?_
  refine lv_if_lt (tgt := 15) hx hb d_MH_logged_1 (by decide) (fun ct => ?_) (fun cf => ?_)
  · skip
    exact mh_throw hl0 K0 hOK ex_IO (is := 172) (tx := "there is no such intention") (by decide) k360 hlocks hT hml hl.1 hX hS (fun q => ⟨q, rfl, mh_set_eq _ _ _ _, mh_x.of⟩) (Nat.le_of_ble_eq_true rfl) (Nat.le_of_ble_eq_true rfl) (Nat.le_of_ble_eq_true rfl) (Nat.le_of_ble_eq_true rfl) (Nat.le_of_ble_eq_true rfl) (Nat.le_of_ble_eq_true rfl) d_MH_logged_15 d_MH_logged_18 d_MH_logged_19 d_MH_logged_21 d_MH_logged_24
  · skip
    refine lv_iload_n hx hb d_MH_logged_4 rfl (lv_at hl 1 rfl) ?_
    refine lv_aload_n hx hb d_MH_logged_5 rfl (lv_at hl 0 rfl) ?_
    refine mh_get K0 hX r0 f_MH_10 rfl d_MH_logged_6 ?_
    refine mh_callR (mh_sV (rest := [.int v]) (av := []) K0 hX r1 rfl e_AL_size l_MH_109 k448 k449 rfl rfl d_MH_logged_9) (c_AL_size r1) K0 hOK hml hl.1 e_AL_size hX hS d_MH_logged_9 (Nat.le_of_ble_eq_true rfl) (Nat.le_of_ble_eq_true rfl) (Nat.le_of_ble_eq_true rfl) (Nat.le_of_ble_eq_true rfl) (Nat.le_of_ble_eq_true rfl) (fun H locs hX hS => ?_)
    refine W.eq (g2 := F0 m 12 ls [.int (nI n0), .int v]) rfl ?_
    refine lv_icmp_lt (tgt := 25) hx hb d_MH_logged_12 (by decide) (fun c2 => ?_) (fun c2 => ?_)
    · skip
      exact absurd h (by simp [st_in, cf, c2])
    · skip
      exact mh_throw hl0 K0 hOK ex_IO (is := 172) (tx := "there is no such intention") (by decide) k360 hlocks hT hml hl.1 hX hS (fun q => ⟨q, rfl, mh_set_eq _ _ _ _, mh_x.of⟩) (Nat.le_of_ble_eq_true rfl) (Nat.le_of_ble_eq_true rfl) (Nat.le_of_ble_eq_true rfl) (Nat.le_of_ble_eq_true rfl) (Nat.le_of_ble_eq_true rfl) (Nat.le_of_ble_eq_true rfl) d_MH_logged_15 d_MH_logged_18 d_MH_logged_19 d_MH_logged_21 d_MH_logged_24
set_option maxHeartbeats 4000000 in
set_option maxRecDepth 100000 in
theorem c_MH_numberIn {l : Launch} {b : Nat} {dC : Nat → ClassId} {dI : Nat → Nat → Nat} {dA : Nat → ClassId} {zs : Nat → Nat} {w : mh_w} {k i a : Nat} {st : Nat → Option Int64} (h : rN dA w k i a st) {key : Nat} (hk : key < 256) {v : Int64} (hv : st key = some v) : mh_Met l b dC dI dA zs y_MH_numberIn (mh_rm 1 0 0) [.ref a, .int (nI key)] w (mh_V (some (.long v)) (fun w' => w' = w)) := by
  obtain ⟨a1, a3, f, h0, hK, h3, hf⟩ := h
  have hK2 := hK
  obtain ⟨b1, fb, hk0, hk1, hkf⟩ := hK2
  refine mh_ofW (cc := b_MH_numberIn) (n := 2) (ret := (some .long)) (hs := []) (by decide) k324 ?_
  intro p e s m below meth c hx hb hr hml hown hts hlocks hnm hT hOK hadm
  have K0 : mh_K0 p s m ([.ref a, .int (nI key)]).toArray c "MeldHost" b_MH_numberIn dC dI dA := ⟨hx, hb, hown, hts, hOK.1, hOK.2.1⟩
  have hX := hOK.2.2.2.2
  have hb0 := hOK.2.2.2.1
  have hS : va_S (mh_A b) s.heap s.heap [] := va_S.rf
  have hl := lv_entry ([.ref a, .int (nI key)]) (n := 2) (Nat.le_of_ble_eq_true rfl)
  rw [lg_entry_eq]
  generalize (lg_sl ([.ref a, .int (nI key)]) ++ List.replicate (2 - (lg_sl ([.ref a, .int (nI key)])).length) Slot.unset).toArray = ls at hl ⊢
  have hl : lv_has ls 2 [(0, .ref a), (1, .int (nI key))] := hl
  refine lv_aload_n hx hb d_MH_numberIn_0 rfl (lv_at hl 0 rfl) ?_
  refine mh_get K0 hX h0 f_MH_174 rfl d_MH_numberIn_1 ?_
  refine lv_iload_n hx hb d_MH_numberIn_4 rfl (lv_at hl 1 rfl) ?_
  refine mh_callR (mh_sV (rest := []) (av := [.int (nI key)]) K0 hX hk0 rfl e_KS_has l_MH_178 k326 k327 rfl rfl d_MH_numberIn_5) (c_KS_has hK hk) K0 hOK hml hl.1 e_KS_has hX hS d_MH_numberIn_5 (Nat.le_of_ble_eq_true rfl) (Nat.le_of_ble_eq_true rfl) (Nat.le_of_ble_eq_true rfl) (Nat.le_of_ble_eq_true rfl) (Nat.le_of_ble_eq_true rfl) (fun H locs hX hS => ?_)
  refine W.eq (g2 := F0 m 8 ls [.int (mh_b ((st key).isSome))]) rfl ?_
  refine mh_ifneB (tgt := 21) hx hb d_MH_numberIn_8 (by decide) (fun _ => ?_) (fun z => absurd z (by rw [hv]; simp))
  refine lv_aload_n hx hb d_MH_numberIn_21 rfl (lv_at hl 0 rfl) ?_
  refine mh_get K0 hX h0 f_MH_189 rfl d_MH_numberIn_22 ?_
  refine lv_iload_n hx hb d_MH_numberIn_25 rfl (lv_at hl 1 rfl) ?_
  refine mh_laldN K0 hX h3 (by omega) (by omega) d_MH_numberIn_26 ?_
  exact mh_lret K0 hr hlocks hX hS (⟨by rw [hf key v hk hv], rfl⟩) (Nat.le_of_ble_eq_true rfl) (Nat.le_of_ble_eq_true rfl) d_MH_numberIn_27
set_option maxHeartbeats 4000000 in
set_option maxRecDepth 100000 in
theorem c_MH_numberIn_no {l : Launch} {b : Nat} {dC : Nat → ClassId} {dI : Nat → Nat → Nat} {dA : Nat → ClassId} {zs : Nat → Nat} {w : mh_w} (hl0 : l.stackTraces = false) {k i a : Nat} {st : Nat → Option Int64} (h : rN dA w k i a st) {key : Nat} (hk : key < 256) (hv : st key = none) : mh_Met l b dC dI dA zs y_MH_numberIn (mh_rm 6 1 6) [.ref a, .int (nI key)] w (mh_T 11 (mh_x w)) := by
  obtain ⟨a1, a3, f, h0, hK, h3, hf⟩ := h
  have hK2 := hK
  obtain ⟨b1, fb, hk0, hk1, hkf⟩ := hK2
  refine mh_ofW (cc := b_MH_numberIn) (n := 2) (ret := (some .long)) (hs := []) (by decide) k324 ?_
  intro p e s m below meth c hx hb hr hml hown hts hlocks hnm hT hOK hadm
  have K0 : mh_K0 p s m ([.ref a, .int (nI key)]).toArray c "MeldHost" b_MH_numberIn dC dI dA := ⟨hx, hb, hown, hts, hOK.1, hOK.2.1⟩
  have hX := hOK.2.2.2.2
  have hb0 := hOK.2.2.2.1
  have hS : va_S (mh_A b) s.heap s.heap [] := va_S.rf
  have hl := lv_entry ([.ref a, .int (nI key)]) (n := 2) (Nat.le_of_ble_eq_true rfl)
  rw [lg_entry_eq]
  generalize (lg_sl ([.ref a, .int (nI key)]) ++ List.replicate (2 - (lg_sl ([.ref a, .int (nI key)])).length) Slot.unset).toArray = ls at hl ⊢
  have hl : lv_has ls 2 [(0, .ref a), (1, .int (nI key))] := hl
  refine lv_aload_n hx hb d_MH_numberIn_0 rfl (lv_at hl 0 rfl) ?_
  refine mh_get K0 hX h0 f_MH_174 rfl d_MH_numberIn_1 ?_
  refine lv_iload_n hx hb d_MH_numberIn_4 rfl (lv_at hl 1 rfl) ?_
  refine mh_callR (mh_sV (rest := []) (av := [.int (nI key)]) K0 hX hk0 rfl e_KS_has l_MH_178 k326 k327 rfl rfl d_MH_numberIn_5) (c_KS_has hK hk) K0 hOK hml hl.1 e_KS_has hX hS d_MH_numberIn_5 (Nat.le_of_ble_eq_true rfl) (Nat.le_of_ble_eq_true rfl) (Nat.le_of_ble_eq_true rfl) (Nat.le_of_ble_eq_true rfl) (Nat.le_of_ble_eq_true rfl) (fun H locs hX hS => ?_)
  refine W.eq (g2 := F0 m 8 ls [.int (mh_b ((st key).isSome))]) rfl ?_
  refine mh_ifneB (tgt := 21) hx hb d_MH_numberIn_8 (by decide) (fun z => absurd z (by rw [hv]; simp)) (fun _ => ?_)
  exact mh_throw hl0 K0 hOK ex_UO (is := 186) (tx := "the key has no number") (by decide) k329 hlocks hT hml hl.1 hX hS (fun q => ⟨q, rfl, mh_set_eq _ _ _ _, mh_x.of⟩) (Nat.le_of_ble_eq_true rfl) (Nat.le_of_ble_eq_true rfl) (Nat.le_of_ble_eq_true rfl) (Nat.le_of_ble_eq_true rfl) (Nat.le_of_ble_eq_true rfl) (Nat.le_of_ble_eq_true rfl) d_MH_numberIn_11 d_MH_numberIn_14 d_MH_numberIn_15 d_MH_numberIn_17 d_MH_numberIn_20
set_option maxHeartbeats 4000000 in
set_option maxRecDepth 100000 in
theorem c_MH_writeKey {l : Launch} {b : Nat} {dC : Nat → ClassId} {dI : Nat → Nat → Nat} {dA : Nat → ClassId} {zs : Nat → Nat} {w : mh_w} {k i a m0 : Nat} {x : st_I} (h : rI dA w k i a x) (ho : iv_ok m0 x) {key : Nat} (hk : key < 256) {v : Option Int64} {u : Int64} (hu : ∀ z, v = some z → u = z) (h8 : (st_pl (iv_wk x) key (iv_nw x)) < 8) : mh_Met l b dC dI dA zs y_MH_writeKey (mh_rm 2 0 0) [.ref a, .int (nI key), .int (mh_b v.isSome), .long u] w (mh_V (some (.int (nI (iv_nw (st_wr x key v))))) (fun w' => rI dA w' k i a (st_wr x key v) ∧ mh_F w w' k 8 i)) := by
  have hI := h
  obtain ⟨a1, a3, a4, a5, a6, a7, i0⟩ := h.fst
  refine mh_ofW (cc := b_MH_writeKey) (n := 5) (ret := (some .int)) (hs := []) (by decide) k355 ?_
  intro p e s m below meth c hx hb hr hml hown hts hlocks hnm hT hOK hadm
  have K0 : mh_K0 p s m ([.ref a, .int (nI key), .int (mh_b v.isSome), .long u]).toArray c "MeldHost" b_MH_writeKey dC dI dA := ⟨hx, hb, hown, hts, hOK.1, hOK.2.1⟩
  have hX := hOK.2.2.2.2
  have hb0 := hOK.2.2.2.1
  have hS : va_S (mh_A b) s.heap s.heap [] := va_S.rf
  have hl := lv_entry ([.ref a, .int (nI key), .int (mh_b v.isSome), .long u]) (n := 5) (Nat.le_of_ble_eq_true rfl)
  rw [lg_entry_eq]
  generalize (lg_sl ([.ref a, .int (nI key), .int (mh_b v.isSome), .long u]) ++ List.replicate (5 - (lg_sl ([.ref a, .int (nI key), .int (mh_b v.isSome), .long u])).length) Slot.unset).toArray = ls at hl ⊢
  have hl : lv_has ls 5 [(0, .ref a), (1, .int (nI key)), (2, .int (mh_b v.isSome)), (3, .long u)] := hl
  refine lv_aload_n hx hb d_MH_writeKey_0 rfl (lv_at hl 0 rfl) ?_
  refine lv_iload_n hx hb d_MH_writeKey_1 rfl (lv_at hl 1 rfl) ?_
  refine mh_callR (mh_sV (rest := []) (av := [.int (nI key)]) K0 hX i0 rfl e_IN_hasRoomFor l_MH_192 k357 k358 rfl rfl d_MH_writeKey_2) (c_IN_hasRoomFor hI ho hk) K0 hOK hml hl.1 e_IN_hasRoomFor hX hS d_MH_writeKey_2 (Nat.le_of_ble_eq_true rfl) (Nat.le_of_ble_eq_true rfl) (Nat.le_of_ble_eq_true rfl) (Nat.le_of_ble_eq_true rfl) (Nat.le_of_ble_eq_true rfl) (fun H locs hX hS => ?_)
  refine W.eq (g2 := F0 m 5 ls [.int (mh_b (decide ((st_pl (iv_wk x) key (iv_nw x)) < 8)))]) rfl ?_
  refine mh_ifneB (tgt := 18) hx hb d_MH_writeKey_5 (by decide) (fun _ => ?_) (fun z => absurd z (by rw [decide_eq_true h8]; decide))
  refine lv_aload_n hx hb d_MH_writeKey_18 rfl (lv_at hl 0 rfl) ?_
  refine lv_iload_n hx hb d_MH_writeKey_19 rfl (lv_at hl 1 rfl) ?_
  refine lv_iload_n hx hb d_MH_writeKey_20 rfl (lv_at hl 2 rfl) ?_
  refine lv_lload_n hx hb d_MH_writeKey_21 rfl (lv_at hl 3 rfl) ?_
  refine mh_callV (mh_sV (rest := []) (av := [.int (nI key), .int (mh_b v.isSome), .long u]) K0 hX i0 rfl e_IN_write l_MH_197 k377 k378 rfl rfl d_MH_writeKey_22) (c_IN_write hI ho hk hu h8) K0 hOK hml hl.1 e_IN_write hX hS d_MH_writeKey_22 (Nat.le_of_ble_eq_true rfl) (Nat.le_of_ble_eq_true rfl) (Nat.le_of_ble_eq_true rfl) (Nat.le_of_ble_eq_true rfl) (Nat.le_of_ble_eq_true rfl) (fun w1 H locs ⟨hI1, hF⟩ hX hS => ?_)
  refine W.eq (g2 := F0 m 25 ls []) rfl ?_
  obtain ⟨d1, d3, d4, d5, d6, d7, j0⟩ := hI1.fst
  refine lv_aload_n hx hb d_MH_writeKey_25 rfl (lv_at hl 0 rfl) ?_
  refine mh_get K0 hX j0 f_MH_106 rfl d_MH_writeKey_26 ?_
  exact mh_iret K0 hr rfl hlocks hX hS (⟨rfl, hI1, hF⟩) (Nat.le_of_ble_eq_true rfl) (Nat.le_of_ble_eq_true rfl) d_MH_writeKey_29
set_option maxHeartbeats 4000000 in
set_option maxRecDepth 100000 in
theorem c_MH_writeKey_no {l : Launch} {b : Nat} {dC : Nat → ClassId} {dI : Nat → Nat → Nat} {dA : Nat → ClassId} {zs : Nat → Nat} {w : mh_w} (hl0 : l.stackTraces = false) {k i a m0 : Nat} {x : st_I} (h : rI dA w k i a x) (ho : iv_ok m0 x) {key : Nat} (hk : key < 256) {v : Int32} {u : Int64} (h8 : ¬ (st_pl (iv_wk x) key (iv_nw x)) < 8) : mh_Met l b dC dI dA zs y_MH_writeKey (mh_rm 6 1 6) [.ref a, .int (nI key), .int v, .long u] w (mh_T 10 (mh_x w)) := by
  have hI := h
  obtain ⟨a1, a3, a4, a5, a6, a7, i0⟩ := h.fst
  refine mh_ofW (cc := b_MH_writeKey) (n := 5) (ret := (some .int)) (hs := []) (by decide) k355 ?_
  intro p e s m below meth c hx hb hr hml hown hts hlocks hnm hT hOK hadm
  have K0 : mh_K0 p s m ([.ref a, .int (nI key), .int v, .long u]).toArray c "MeldHost" b_MH_writeKey dC dI dA := ⟨hx, hb, hown, hts, hOK.1, hOK.2.1⟩
  have hX := hOK.2.2.2.2
  have hb0 := hOK.2.2.2.1
  have hS : va_S (mh_A b) s.heap s.heap [] := va_S.rf
  have hl := lv_entry ([.ref a, .int (nI key), .int v, .long u]) (n := 5) (Nat.le_of_ble_eq_true rfl)
  rw [lg_entry_eq]
  generalize (lg_sl ([.ref a, .int (nI key), .int v, .long u]) ++ List.replicate (5 - (lg_sl ([.ref a, .int (nI key), .int v, .long u])).length) Slot.unset).toArray = ls at hl ⊢
  have hl : lv_has ls 5 [(0, .ref a), (1, .int (nI key)), (2, .int v), (3, .long u)] := hl
  refine lv_aload_n hx hb d_MH_writeKey_0 rfl (lv_at hl 0 rfl) ?_
  refine lv_iload_n hx hb d_MH_writeKey_1 rfl (lv_at hl 1 rfl) ?_
  refine mh_callR (mh_sV (rest := []) (av := [.int (nI key)]) K0 hX i0 rfl e_IN_hasRoomFor l_MH_192 k357 k358 rfl rfl d_MH_writeKey_2) (c_IN_hasRoomFor hI ho hk) K0 hOK hml hl.1 e_IN_hasRoomFor hX hS d_MH_writeKey_2 (Nat.le_of_ble_eq_true rfl) (Nat.le_of_ble_eq_true rfl) (Nat.le_of_ble_eq_true rfl) (Nat.le_of_ble_eq_true rfl) (Nat.le_of_ble_eq_true rfl) (fun H locs hX hS => ?_)
  refine W.eq (g2 := F0 m 5 ls [.int (mh_b (decide ((st_pl (iv_wk x) key (iv_nw x)) < 8)))]) rfl ?_
  refine mh_ifneB (tgt := 18) hx hb d_MH_writeKey_5 (by decide) (fun z => absurd z (by rw [decide_eq_false h8]; decide)) (fun _ => ?_)
  exact mh_throw hl0 K0 hOK ex_IO (is := 195) (tx := "there would be nine keys") (by decide) k360 hlocks hT hml hl.1 hX hS (fun q => ⟨q, rfl, mh_set_eq _ _ _ _, mh_x.of⟩) (Nat.le_of_ble_eq_true rfl) (Nat.le_of_ble_eq_true rfl) (Nat.le_of_ble_eq_true rfl) (Nat.le_of_ble_eq_true rfl) (Nat.le_of_ble_eq_true rfl) (Nat.le_of_ble_eq_true rfl) d_MH_writeKey_8 d_MH_writeKey_11 d_MH_writeKey_12 d_MH_writeKey_14 d_MH_writeKey_17
set_option maxHeartbeats 4000000 in
set_option maxRecDepth 100000 in
theorem c_MH_canBeDone {l : Launch} {b : Nat} {dC : Nat → ClassId} {dI : Nat → Nat → Nat} {dA : Nat → ClassId} {zs : Nat → Nat} {w : mh_w} {x0 aL aS aD aV rs : Nat} (r0 : w 0 0 = some (x0, .inr (4, [.ref aL, .ref aS, .ref aD, .ref aV, .int (nI rs)]))) {mc : Int32} {ar n0 : Nat} (r1 : w 1 0 = some (aL, .inr (5, [.int mc, .ref ar, .int (nI n0)]))) (hn : n0 ≤ 400) {lgp : Nat → Option Nat} {log : Nat → st_I} (rAr : rA dA zs w ar n0 lgp) (rl : ∀ i, i < n0 → ∃ a, lgp i = some a ∧ rI dA w 24 i a (log i)) (hlo : ∀ i, i < n0 → iv_ok i (log i)) {k i a : Nat} {x : st_I} (h : rI dA w k i a x) (ho : iv_ok n0 x) : mh_Met l b dC dI dA zs y_MH_canBeDone (mh_rm 4 0 0) [.ref x0, .ref a] w (mh_V (some (.int (mh_b (st_ok log x n0)))) (fun w' => w' = w)) := by
  have hI := h
  obtain ⟨a1, a3, a4, a5, a6, a7, i0⟩ := h.fst
  refine mh_ofW (cc := b_MH_canBeDone) (n := 4) (ret := (some .boolean)) (hs := []) (by decide) k455 ?_
  intro p e s m below meth c hx hb hr hml hown hts hlocks hnm hT hOK hadm
  have K0 : mh_K0 p s m ([.ref x0, .ref a]).toArray c "MeldHost" b_MH_canBeDone dC dI dA := ⟨hx, hb, hown, hts, hOK.1, hOK.2.1⟩
  have hX := hOK.2.2.2.2
  have hb0 := hOK.2.2.2.1
  have hS : va_S (mh_A b) s.heap s.heap [] := va_S.rf
  have hl := lv_entry ([.ref x0, .ref a]) (n := 4) (Nat.le_of_ble_eq_true rfl)
  rw [lg_entry_eq]
  generalize (lg_sl ([.ref x0, .ref a]) ++ List.replicate (4 - (lg_sl ([.ref x0, .ref a])).length) Slot.unset).toArray = ls at hl ⊢
  have hl : lv_has ls 4 [(0, .ref x0), (1, .ref a)] := hl
  have hsn : iv_sn x ≤ n0 := ho.2.1
  refine lv_aload_n hx hb d_MH_canBeDone_0 rfl (lv_at hl 1 rfl) ?_
  refine mh_get K0 hX i0 f_MH_201 rfl d_MH_canBeDone_1 ?_
  refine lv_istore_n (lv' := [(2, .int (nI (iv_sn x))), (0, .ref x0), (1, .ref a)]) hx hb d_MH_canBeDone_4 rfl hl (by decide) rfl (fun ls hl => ?_)
  have LP : ∀ (n : Nat) (j : Nat) (H : Heap) (locs : List Loc) (ls : Array Slot), mh_P (dC, dI) b w H → va_S (mh_A b) s.heap H locs → lv_has ls 4 [(2, .int (nI j)), (0, .ref x0), (1, .ref a)] → (j + n = n0) → (iv_sn x ≤ j) → (∀ z, z < j → (decide (iv_sn x ≤ z) && (iv_gd (log z) && st_ht x (log z))) = false) → W p l e (mh_rm 4 0 0) s m ([.ref x0, .ref a]).toArray below meth c H locs (0) (0) (mh_MQ below b dC dI (mh_V (some (.int (mh_b (st_ok log x n0)))) (fun w' => w' = w)) ([.ref x0, .ref a]).toArray s 0 0) (F0 m 5 ls []) := by
    intro n
    induction n with
    | zero =>
      intro j H locs ls hX hS hl hn9 hsj hj
      refine lv_iload_n hx hb d_MH_canBeDone_5 rfl (lv_at hl 0 rfl) ?_
      refine lv_aload_n hx hb d_MH_canBeDone_6 rfl (lv_at hl 1 rfl) ?_
      refine mh_get K0 hX r0 f_MH_10 rfl d_MH_canBeDone_7 ?_
      refine mh_callR (mh_sV (rest := [.int (nI j)]) (av := []) K0 hX r1 rfl e_AL_size l_MH_109 k448 k449 rfl rfl d_MH_canBeDone_10) (c_AL_size r1) K0 hOK hml hl.1 e_AL_size hX hS d_MH_canBeDone_10 (Nat.le_of_ble_eq_true rfl) (Nat.le_of_ble_eq_true rfl) (Nat.le_of_ble_eq_true rfl) (Nat.le_of_ble_eq_true rfl) (Nat.le_of_ble_eq_true rfl) (fun H locs hX hS => ?_)
      refine W.eq (g2 := F0 m 13 ls [.int (nI n0), .int (nI j)]) rfl ?_
      refine mh_icmp_ge (tgt := 51) hx hb (by omega) (by omega) d_MH_canBeDone_13 (by decide) (fun _ => ?_) (fun z => absurd z (by omega))
      refine lv_iconst (v := nI 1) hx hb d_MH_canBeDone_51 (by decide) ?_
      exact mh_iret K0 hr (by decide) hlocks hX hS (⟨by unfold st_ok; rw [st_any_false (fun z hz => hj z (by omega))]; rfl, rfl⟩) (Nat.le_of_ble_eq_true rfl) (Nat.le_of_ble_eq_true rfl) d_MH_canBeDone_52
    | succ n ih =>
      intro j H locs ls hX hS hl hn9 hsj hj
      refine lv_iload_n hx hb d_MH_canBeDone_5 rfl (lv_at hl 0 rfl) ?_
      refine lv_aload_n hx hb d_MH_canBeDone_6 rfl (lv_at hl 1 rfl) ?_
      refine mh_get K0 hX r0 f_MH_10 rfl d_MH_canBeDone_7 ?_
      refine mh_callR (mh_sV (rest := [.int (nI j)]) (av := []) K0 hX r1 rfl e_AL_size l_MH_109 k448 k449 rfl rfl d_MH_canBeDone_10) (c_AL_size r1) K0 hOK hml hl.1 e_AL_size hX hS d_MH_canBeDone_10 (Nat.le_of_ble_eq_true rfl) (Nat.le_of_ble_eq_true rfl) (Nat.le_of_ble_eq_true rfl) (Nat.le_of_ble_eq_true rfl) (Nat.le_of_ble_eq_true rfl) (fun H locs hX hS => ?_)
      refine W.eq (g2 := F0 m 13 ls [.int (nI n0), .int (nI j)]) rfl ?_
      refine mh_icmp_ge (tgt := 51) hx hb (by omega) (by omega) d_MH_canBeDone_13 (by decide) (fun z => absurd z (by omega)) (fun _ => ?_)
      refine lv_aload_n hx hb d_MH_canBeDone_16 rfl (lv_at hl 1 rfl) ?_
      refine mh_get K0 hX r0 f_MH_10 rfl d_MH_canBeDone_17 ?_
      refine lv_iload_n hx hb d_MH_canBeDone_20 rfl (lv_at hl 0 rfl) ?_
      obtain ⟨yy, hy1, hy2⟩ := rl j (by omega)
      obtain ⟨ix, cap, ga, q1, q2, q3, q4⟩ := rAr.in (j := j) (by omega)
      obtain ⟨d1, d3, d4, d5, d6, d7, j0⟩ := hy2.fst
      refine mh_callR (mh_sV (rest := []) (av := [.int (nI j)]) K0 hX r1 rfl e_AL_get l_MH_133 k457 k458 rfl rfl d_MH_canBeDone_21) (c_AL_get r1 q3 q2 (by omega) q1 (q4.trans hy1)) K0 hOK hml hl.1 e_AL_get hX hS d_MH_canBeDone_21 (Nat.le_of_ble_eq_true rfl) (Nat.le_of_ble_eq_true rfl) (Nat.le_of_ble_eq_true rfl) (Nat.le_of_ble_eq_true rfl) (Nat.le_of_ble_eq_true rfl) (fun H locs hX hS => ?_)
      refine W.eq (g2 := F0 m 24 ls [.ref yy]) rfl ?_
      refine mh_cast K0 hX j0 rfl k113 d_MH_canBeDone_24 ?_
      refine lv_astore_n (lv' := [(3, .ref yy), (2, .int (nI j)), (0, .ref x0), (1, .ref a)]) hx hb d_MH_canBeDone_27 rfl hl (by decide) rfl (fun ls hl => ?_)
      refine lv_aload_n hx hb d_MH_canBeDone_28 rfl (lv_at hl 0 rfl) ?_
      refine mh_get K0 hX j0 f_MH_119 rfl d_MH_canBeDone_29 ?_
      refine mh_ifeqB (tgt := 45) hx hb d_MH_canBeDone_32 (by decide) (fun ct => ?_) (fun cf => ?_)
      · skip
        refine lv_iinc (v := nI (j + 1)) (k := 1) (lv' := [(2, .int (nI (j + 1))), (3, .ref yy), (0, .ref x0), (1, .ref a)]) hx hb d_MH_canBeDone_45 hl rfl (mh_inc j) (by decide) rfl (fun ls hl => ?_)
        refine lv_goto (tgt := 5) hx hb d_MH_canBeDone_48 (by decide) ?_
        exact ih (j + 1) _ _ _ hX hS (lv_sub hl [0, 2, 3] rfl) (by omega) (by omega) (fun z hz => if e : z = j then (by rw [e, ct]; simp) else hj z (by omega))
      · skip
        refine lv_aload_n hx hb d_MH_canBeDone_35 rfl (lv_at hl 3 rfl) ?_
        refine lv_aload_n hx hb d_MH_canBeDone_36 rfl (lv_at hl 0 rfl) ?_
        refine mh_callR (mh_sV (rest := []) (av := [.ref yy]) K0 hX i0 rfl e_IN_isHitBy l_MH_204 k471 k472 rfl rfl d_MH_canBeDone_37) (c_IN_isHitBy h ho hy2 (hlo j (by omega))) K0 hOK hml hl.1 e_IN_isHitBy hX hS d_MH_canBeDone_37 (Nat.le_of_ble_eq_true rfl) (Nat.le_of_ble_eq_true rfl) (Nat.le_of_ble_eq_true rfl) (Nat.le_of_ble_eq_true rfl) (Nat.le_of_ble_eq_true rfl) (fun H locs hX hS => ?_)
        refine W.eq (g2 := F0 m 40 ls [.int (mh_b (st_ht x (log j)))]) rfl ?_
        refine mh_ifeqB (tgt := 45) hx hb d_MH_canBeDone_40 (by decide) (fun c2 => ?_) (fun c2 => ?_)
        · skip
          refine lv_iinc (v := nI (j + 1)) (k := 1) (lv' := [(2, .int (nI (j + 1))), (3, .ref yy), (0, .ref x0), (1, .ref a)]) hx hb d_MH_canBeDone_45 hl rfl (mh_inc j) (by decide) rfl (fun ls hl => ?_)
          refine lv_goto (tgt := 5) hx hb d_MH_canBeDone_48 (by decide) ?_
          exact ih (j + 1) _ _ _ hX hS (lv_sub hl [0, 2, 3] rfl) (by omega) (by omega) (fun z hz => if e : z = j then (by rw [e, c2]; simp) else hj z (by omega))
        · skip
          refine lv_iconst (v := nI 0) hx hb d_MH_canBeDone_43 (by decide) ?_
          exact mh_iret K0 hr (by decide) hlocks hX hS (⟨by unfold st_ok; rw [st_any_true (i := j) (by omega) (by rw [cf, c2, decide_eq_true hsj]; rfl)]; rfl, rfl⟩) (Nat.le_of_ble_eq_true rfl) (Nat.le_of_ble_eq_true rfl) d_MH_canBeDone_44
  exact LP (n0 - iv_sn x) _ _ _ _ hX hS hl (show iv_sn x + (n0 - iv_sn x) = n0 by omega) (Nat.le_refl _) (fun z hz => by rw [decide_eq_false (by omega)]; rfl)
set_option maxHeartbeats 4000000 in
set_option maxRecDepth 100000 in
theorem c_MH_howManyOpen {l : Launch} {b : Nat} {dC : Nat → ClassId} {dI : Nat → Nat → Nat} {dA : Nat → ClassId} {zs : Nat → Nat} {w : mh_w} {x0 aL aS aD aV rs : Nat} (r0 : w 0 0 = some (x0, .inr (4, [.ref aL, .ref aS, .ref aD, .ref aV, .int (nI rs)]))) {dr : Nat → Option Nat} (r10 : w 10 0 = some (aD, .inl (dA 5, 16, .inr (.inr (.inr (.inr dr)))))) : mh_Met l b dC dI dA zs y_MH_howManyOpen (mh_rm 0 0 0) [.ref x0] w (mh_V (some (.int (nI (pb_cnt (fun t => (dr t).isSome) 16)))) (fun w' => w' = w)) := by
  refine mh_ofW (cc := b_MH_howManyOpen) (n := 3) (ret := (some .int)) (hs := []) (by decide) k643 ?_
  intro p e s m below meth c hx hb hr hml hown hts hlocks hnm hT hOK hadm
  have K0 : mh_K0 p s m ([.ref x0]).toArray c "MeldHost" b_MH_howManyOpen dC dI dA := ⟨hx, hb, hown, hts, hOK.1, hOK.2.1⟩
  have hX := hOK.2.2.2.2
  have hb0 := hOK.2.2.2.1
  have hS : va_S (mh_A b) s.heap s.heap [] := va_S.rf
  have hl := lv_entry ([.ref x0]) (n := 3) (Nat.le_of_ble_eq_true rfl)
  rw [lg_entry_eq]
  generalize (lg_sl ([.ref x0]) ++ List.replicate (3 - (lg_sl ([.ref x0])).length) Slot.unset).toArray = ls at hl ⊢
  have hl : lv_has ls 3 [(0, .ref x0)] := hl
  refine lv_iconst (v := nI 0) hx hb d_MH_howManyOpen_0 (by decide) ?_
  refine lv_istore_n (lv' := [(1, .int (nI 0)), (0, .ref x0)]) hx hb d_MH_howManyOpen_1 rfl hl (by decide) rfl (fun ls hl => ?_)
  refine lv_iconst (v := nI 0) hx hb d_MH_howManyOpen_2 (by decide) ?_
  refine lv_istore_n (lv' := [(2, .int (nI 0)), (1, .int (nI 0)), (0, .ref x0)]) hx hb d_MH_howManyOpen_3 rfl hl (by decide) rfl (fun ls hl => ?_)
  have LP : ∀ (n : Nat) (j : Nat) (H : Heap) (locs : List Loc) (ls : Array Slot), mh_P (dC, dI) b w H → va_S (mh_A b) s.heap H locs → lv_has ls 3 [(2, .int (nI j)), (1, .int (nI (pb_cnt (fun t => (dr t).isSome) j))), (0, .ref x0)] → (j + n = 16) → W p l e (mh_rm 0 0 0) s m ([.ref x0]).toArray below meth c H locs (0) (0) (mh_MQ below b dC dI (mh_V (some (.int (nI (pb_cnt (fun t => (dr t).isSome) 16)))) (fun w' => w' = w)) ([.ref x0]).toArray s 0 0) (F0 m 4 ls []) := by
    intro n
    induction n with
    | zero =>
      intro j H locs ls hX hS hl hn9
      refine lv_iload_n hx hb d_MH_howManyOpen_4 rfl (lv_at hl 0 rfl) ?_
      refine lv_bipush (v := nI 16) hx hb d_MH_howManyOpen_5 (by decide) ?_
      refine mh_icmp_ge (tgt := 28) hx hb (by omega) (by omega) d_MH_howManyOpen_7 (by decide) (fun _ => ?_) (fun z => absurd z (by omega))
      refine lv_iload_n hx hb d_MH_howManyOpen_28 rfl (lv_at hl 1 rfl) ?_
      exact mh_iret K0 hr rfl hlocks hX hS (⟨by rw [show j = 16 by omega], rfl⟩) (Nat.le_of_ble_eq_true rfl) (Nat.le_of_ble_eq_true rfl) d_MH_howManyOpen_29
    | succ n ih =>
      intro j H locs ls hX hS hl hn9
      refine lv_iload_n hx hb d_MH_howManyOpen_4 rfl (lv_at hl 0 rfl) ?_
      refine lv_bipush (v := nI 16) hx hb d_MH_howManyOpen_5 (by decide) ?_
      refine mh_icmp_ge (tgt := 28) hx hb (by omega) (by omega) d_MH_howManyOpen_7 (by decide) (fun z => absurd z (by omega)) (fun _ => ?_)
      refine lv_aload_n hx hb d_MH_howManyOpen_10 rfl (lv_at hl 2 rfl) ?_
      refine mh_get K0 hX r0 f_MH_25 rfl d_MH_howManyOpen_11 ?_
      refine lv_iload_n hx hb d_MH_howManyOpen_14 rfl (lv_at hl 0 rfl) ?_
      cases hd : dr j with
      | none =>
        refine mh_aaldN 5 rfl K0 hX r10 (by omega) (by omega) (r := none) (hd) d_MH_howManyOpen_15 ?_
        refine W.eq (g2 := F0 m 16 ls [.null]) rfl ?_
        refine lv_ifnullN (tgt := 22) hx hb d_MH_howManyOpen_16 (by decide) ?_
        refine lv_iinc (v := nI (j + 1)) (k := 0) (lv' := [(2, .int (nI (j + 1))), (1, .int (nI (pb_cnt (fun t => (dr t).isSome) j))), (0, .ref x0)]) hx hb d_MH_howManyOpen_22 hl rfl (mh_inc j) (by decide) rfl (fun ls hl => ?_)
        refine lv_goto (tgt := 4) hx hb d_MH_howManyOpen_25 (by decide) ?_
        have hl : lv_has ls 3 [(2, .int (nI (j + 1))), (1, .int (nI (pb_cnt (fun t => (dr t).isSome) (j + 1)))), (0, .ref x0)] := by rw [pb_cnt]; simp only [hd]; exact hl
        exact ih (j + 1) _ _ _ hX hS hl (by omega)
      | some yy =>
        refine mh_aaldN 5 rfl K0 hX r10 (by omega) (by omega) (r := (some yy)) (hd) d_MH_howManyOpen_15 ?_
        refine W.eq (g2 := F0 m 16 ls [.ref yy]) rfl ?_
        refine lv_ifnull hx hb d_MH_howManyOpen_16 ?_
        refine lv_iinc (v := nI ((pb_cnt (fun t => (dr t).isSome) j) + 1)) (k := 1) (lv' := [(1, .int (nI ((pb_cnt (fun t => (dr t).isSome) j) + 1))), (2, .int (nI j)), (0, .ref x0)]) hx hb d_MH_howManyOpen_19 hl rfl (mh_inc (pb_cnt (fun t => (dr t).isSome) j)) (by decide) rfl (fun ls hl => ?_)
        refine lv_iinc (v := nI (j + 1)) (k := 1) (lv' := [(2, .int (nI (j + 1))), (1, .int (nI ((pb_cnt (fun t => (dr t).isSome) j) + 1))), (0, .ref x0)]) hx hb d_MH_howManyOpen_22 hl rfl (mh_inc j) (by decide) rfl (fun ls hl => ?_)
        refine lv_goto (tgt := 4) hx hb d_MH_howManyOpen_25 (by decide) ?_
        have hl : lv_has ls 3 [(2, .int (nI (j + 1))), (1, .int (nI (pb_cnt (fun t => (dr t).isSome) (j + 1)))), (0, .ref x0)] := by rw [pb_cnt]; simp only [hd]; exact hl
        exact ih (j + 1) _ _ _ hX hS hl (by omega)
  exact LP 16 0 _ _ _ hX hS hl rfl
