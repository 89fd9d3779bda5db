/-! A COMMIT, A STEP OF A SERVER, A RESTART, as the world shows them -/
def mh_rn (w : mh_w) (t n : Nat) : mh_w := fun k i => if 16 ≤ k ∧ k < 24 ∧ i = t then none else if 24 ≤ k ∧ k < 32 ∧ i = n then w (k - 8) t else w k i
theorem mh_rn_eq {w : mh_w} {t n k i : Nat} (h1 : ¬ (16 ≤ k ∧ k < 24 ∧ i = t)) (h2 : ¬ (24 ≤ k ∧ k < 32 ∧ i = n)) : mh_rn w t n k i = w k i := by
  unfold mh_rn
  rw [if_neg h1, if_neg h2]
theorem mh_rn_new {w : mh_w} {t n z : Nat} (hz : z < 8) : mh_rn w t n (24 + z) n = w (16 + z) t := by
  unfold mh_rn
  rw [if_neg (by omega), if_pos (by omega), show 24 + z - 8 = 16 + z by omega]
theorem mh_rn_P {D : va_G} {b : Nat} {w : mh_w} {t n : Nat} {H : Heap} (h : mh_P D b w H) : mh_P D b (mh_rn w t n) H := by
  refine h.by (fun k i => if 24 ≤ k ∧ k < 32 ∧ i = n then (k - 8, t) else (k, i)) (fun k i q hq => ?_) (fun k i k' i' q q' h1 h2 e => ?_)
  · unfold mh_rn at hq
    by_cases c1 : 16 ≤ k ∧ k < 24 ∧ i = t
    · rw [if_pos c1] at hq; cases hq
    · rw [if_neg c1] at hq
      by_cases c2 : 24 ≤ k ∧ k < 32 ∧ i = n
      · rw [if_pos c2] at hq ⊢; exact hq
      · rw [if_neg c2] at hq ⊢; exact hq
  · have n1 : ¬ (16 ≤ k ∧ k < 24 ∧ i = t) := fun z => by unfold mh_rn at h1; rw [if_pos z] at h1; cases h1
    have n2 : ¬ (16 ≤ k' ∧ k' < 24 ∧ i' = t) := fun z => by unfold mh_rn at h2; rw [if_pos z] at h2; cases h2
    by_cases c1 : 24 ≤ k ∧ k < 32 ∧ i = n <;> by_cases c2 : 24 ≤ k' ∧ k' < 32 ∧ i' = n
    · rw [if_pos c1, if_pos c2] at e
      have := (Prod.mk.inj e).1
      omega
    · rw [if_pos c1, if_neg c2] at e
      have := (Prod.mk.inj e).1; have := (Prod.mk.inj e).2
      omega
    · rw [if_neg c1, if_pos c2] at e
      have := (Prod.mk.inj e).1; have := (Prod.mk.inj e).2
      omega
    · rw [if_neg c1, if_neg c2] at e
      exact ⟨(Prod.mk.inj e).1, (Prod.mk.inj e).2⟩
theorem rI.good {dA : Nat → ClassId} {w w' : mh_w} {k i a d1 d3 d4 d5 d6 d7 : Nat} {x : st_I} {bb : Bool} (h : rI dA w k i a x) (h0 : w k i = some (a, .inr (2, [.int (nI (iv_sv x)), .int (nI (iv_sn x)), .int (nI (iv_lv x)), .ref d1, .ref d3, .ref d4, .ref d5, .ref d6, .ref d7, .int (nI (iv_np x)), .int (nI (iv_nw x)), .int (mh_b (iv_gd x))])))
    (h1 : w' k i = some (a, .inr (2, [.int (nI (iv_sv x)), .int (nI (iv_sn x)), .int (nI (iv_lv x)), .ref d1, .ref d3, .ref d4, .ref d5, .ref d6, .ref d7, .int (nI (iv_np x)), .int (nI (iv_nw x)), .int (mh_b bb)]))) (hw : ∀ z, 0 < z → z < 8 → w' (k + z) i = w (k + z) i) : rI dA w' k i a (x.1, x.2.1, x.2.2.1, x.2.2.2.1, bb) := by
  obtain ⟨a1, a3, a4, a5, a6, a7, lo, hi, wk, hn, nn, i0, ⟨b1, f, e1, e2, g⟩, i3, i4, i5, i6, i7, hlo, hwk⟩ := h
  have e := Option.some.inj (i0.symm.trans h0)
  simp only [Prod.mk.injEq, Sum.inr.injEq, List.cons.injEq, Value.ref.injEq, true_and, and_true] at e
  obtain ⟨q1, q3, q4, q5, q6, q7⟩ := e
  subst q1 q3 q4 q5 q6 q7
  exact ⟨a1, a3, a4, a5, a6, a7, lo, hi, wk, hn, nn, h1, ⟨b1, f, (hw 1 (by omega) (by omega)).trans e1, (hw 2 (by omega) (by omega)).trans e2, g⟩, (hw 3 (by omega) (by omega)).trans i3, (hw 4 (by omega) (by omega)).trans i4, (hw 5 (by omega) (by omega)).trans i5, (hw 6 (by omega) (by omega)).trans i6, (hw 7 (by omega) (by omega)).trans i7, hlo, hwk⟩
theorem rP.cm {dA : Nat → ClassId} {zs : Nat → Nat} {w w' : mh_w} {x0 : Nat} {g : st_G} {aL aS aD aV : Nat} {sv dr vw lg : Nat → Option Nat} (h : rP dA zs w x0 g aL aS aD aV sv dr vw lg) (hG : sg_ok g) {t y : Nat} {x' : st_I}
    (hw : ∀ k i, k < 40 → k ≠ 1 → k ≠ 2 → ¬ (k = 10 ∧ i = 0) → ¬ (16 ≤ k ∧ k < 24 ∧ i = t) → ¬ (24 ≤ k ∧ k < 32 ∧ i = sg_n g) → w' k i = w k i) (hL : rL dA zs w' aL (sg_n g + 1) (va_up lg (sg_n g) (some y))) (h10 : w' 10 0 = some (aD, .inl (dA 5, 16, .inr (.inr (.inr (.inr (va_up dr t none))))))) (hI : rI dA w' 24 (sg_n g) y x') :
    rP dA zs w' x0 ((sg_n g + 1, va_up (sg_lg g) (sg_n g) x'), g.2.1, va_up (sg_dr g) t none, g.2.2.2) aL aS aD aV sv (va_up dr t none) vw (va_up lg (sg_n g) (some y)) := by
  obtain ⟨r0, rLg, r3, r10, r11, rs, rv, rd, rl⟩ := h
  obtain ⟨gn, grs, gat, glo, gdr⟩ := hG
  refine ⟨(hw 0 0 (by omega) (by omega) (by omega) (by omega) (by omega) (by omega)).trans r0, hL, (hw 3 0 (by omega) (by omega) (by omega) (by omega) (by omega) (by omega)).trans r3, h10, (hw 11 0 (by omega) (by omega) (by omega) (by omega) (by omega) (by omega)).trans r11, fun z hz => ?_, fun z hz => ?_, fun z hz => ?_, fun i hi => ?_⟩
  · obtain ⟨a, e1, e2⟩ := rs z hz
    have := gat z hz
    exact ⟨a, e1, e2.to (fun k h1 h2 => hw k z (by omega) (by omega) (by omega) (by omega) (by omega) (by omega)) (fun i hi => (va_up_ne _ _ (by omega)).symm)⟩
  · show ∃ a, vw z = some a ∧ cV dA w' (va_up (sg_lg g) (sg_n g) x') (va_up (sg_dr g) t none z) z a
    obtain ⟨a, e1, e2⟩ := rv z hz
    by_cases e : z = t
    · subst e
      obtain ⟨st, e3, -⟩ := e2
      rw [va_up_self]
      exact ⟨a, e1, st, e3.to (fun q hq => hw (12 + q) z (by omega) (by omega) (by omega) (by omega) (by omega) (by omega)) (fun _ _ => rfl), fun x hx => by cases hx⟩
    · rw [va_up_ne _ _ e]
      exact ⟨a, e1, e2.to (fun k h1 h2 => hw k z (by omega) (by omega) (by omega) (by omega) (by omega) (by omega)) (fun x hx i hi => (va_up_ne _ _ (by have := (gdr z x hz hx).2.1; omega)).symm)⟩
  · show cD dA w' (va_up (sg_dr g) t none z) z (va_up dr t none z)
    by_cases e : z = t
    · subst e; rw [va_up_self, va_up_self]; exact rfl
    · rw [va_up_ne _ _ e, va_up_ne _ _ e]
      exact (rd z hz).to (fun k h1 h2 => hw k z (by omega) (by omega) (by omega) (by omega) (by omega) (by omega))
  · show ∃ a, va_up lg (sg_n g) (some y) i = some a ∧ rI dA w' 24 i a (va_up (sg_lg g) (sg_n g) x' i)
    have hi : i < sg_n g + 1 := hi
    by_cases e : i = sg_n g
    · subst e; rw [va_up_self, va_up_self]; exact ⟨y, rfl, hI⟩
    · rw [va_up_ne _ _ e, va_up_ne _ _ e]
      obtain ⟨a, e1, e2⟩ := rl i (by omega)
      exact ⟨a, e1, e2.to (fun z hz => hw (24 + z) i (by omega) (by omega) (by omega) (by omega) (by omega) (by omega))⟩
theorem cS.succ {dA : Nat → ClassId} {w : mh_w} {log : Nat → st_I} {m s a : Nat} (h : rS dA w s a (if iv_gd (log m) = true then st_aw (iv_wk (log m)) (iv_wv (log m)) (st_st log m) (iv_nw (log m)) else st_st log m) (fun z => if iv_gd (log m) = true ∧ st_pl (iv_wk (log m)) z (iv_nw (log m)) < iv_nw (log m) then nI m else st_lw log z m) (m + 1) (if iv_gd (log m) = true then pb_cnt (fun i => iv_gd (log i)) m + 1 else pb_cnt (fun i => iv_gd (log i)) m)) : cS dA w log (m + 1) s a := by
  unfold cS
  have e : pb_cnt (fun i => iv_gd (log i)) (m + 1) = if iv_gd (log m) = true then pb_cnt (fun i => iv_gd (log i)) m + 1 else pb_cnt (fun i => iv_gd (log i)) m := by
    rw [pb_cnt]
    by_cases c : iv_gd (log m) = true
    · rw [if_pos c]; simp [c]
    · rw [if_neg c]; simp [c]
  rw [e]
  exact h
theorem rP.rs {dA : Nat → ClassId} {zs : Nat → Nat} {w w' : mh_w} {x0 : Nat} {g : st_G} {aL aS aD aV : Nat} {sv dr vw lg : Nat → Option Nat} (h : rP dA zs w x0 g aL aS aD aV sv dr vw lg) {u : Nat} {dr' : Nat → Option Nat}
    (hw : ∀ k i, k < 40 → ¬ (k = 0 ∧ i = 0) → ¬ (k = 10 ∧ i = 0) → ¬ (4 ≤ k ∧ k < 10 ∧ i = u) → w' k i = w k i) (h0 : w' 0 0 = some (x0, .inr (4, [.ref aL, .ref aS, .ref aD, .ref aV, .int (nI (sg_rs g + 1))]))) (h10 : w' 10 0 = some (aD, .inl (dA 5, 16, .inr (.inr (.inr (.inr dr'))))))
    (hdr : ∀ z, z < 16 → dr' z = match sg_dr g z with | some x => if iv_sv x = u then none else dr z | none => none) (hS : ∃ a, sv u = some a ∧ cS dA w' (sg_lg g) 0 u a) :
    rP dA zs w' x0 (g.1, va_up (sg_at g) u 0, (fun t => match sg_dr g t with | some x => if iv_sv x = u then none else some x | none => none), sg_rs g + 1) aL aS aD aV sv dr' vw lg := by
  obtain ⟨r0, rLg, r3, r10, r11, rs, rv, rd, rl⟩ := h
  refine ⟨h0, rLg.to (hw 1 0 (by omega) (by omega) (by omega) (by omega)) (fun i => hw 2 i (by omega) (by omega) (by omega) (by omega)) (fun _ _ => rfl), (hw 3 0 (by omega) (by omega) (by omega) (by omega)).trans r3, h10, (hw 11 0 (by omega) (by omega) (by omega) (by omega)).trans r11, fun z hz => ?_, fun z hz => ?_, fun z hz => ?_, fun i hi => ?_⟩
  · show ∃ a, sv z = some a ∧ cS dA w' (sg_lg g) (va_up (sg_at g) u 0 z) z a
    by_cases e : z = u
    · subst e; rw [va_up_self]; exact hS
    · rw [va_up_ne _ _ e]
      obtain ⟨a, e1, e2⟩ := rs z hz
      exact ⟨a, e1, e2.to (fun k _ h => hw k z (by omega) (by omega) (by omega) (by omega)) (fun _ _ => rfl)⟩
  · obtain ⟨a, e1, st, e2, e3⟩ := rv z hz
    refine ⟨a, e1, st, e2.to (fun q hq => hw (12 + q) z (by omega) (by omega) (by omega) (by omega)) (fun _ _ => rfl), fun x hx => ?_⟩
    have hx : (match sg_dr g z with | some x => if iv_sv x = u then none else some x | none => none) = some x := hx
    cases e9 : sg_dr g z with
    | none => rw [e9] at hx; cases hx
    | some x2 =>
      rw [e9] at hx
      by_cases e8 : iv_sv x2 = u
      · simp only [if_pos e8] at hx; cases hx
      · simp only [if_neg e8] at hx; cases hx; exact e3 x e9
  · have hd := rd z hz
    rw [hdr z hz]
    show cD dA w' (match sg_dr g z with | some x => if iv_sv x = u then none else some x | none => none) z _
    cases e9 : sg_dr g z with
    | none => exact rfl
    | some x2 =>
      obtain ⟨y, hy1, hy2⟩ := hd.some e9
      by_cases e8 : iv_sv x2 = u
      · simp only [if_pos e8]; exact rfl
      · simp only [if_neg e8]
        exact ⟨y, hy1, hy2.to (fun q hq => hw (16 + q) z (by omega) (by omega) (by omega) (by omega))⟩
  · obtain ⟨a, e1, e2⟩ := rl i hi
    exact ⟨a, e1, e2.to (fun z hz => hw (24 + z) i (by omega) (by omega) (by omega) (by omega))⟩
theorem d_MH_commit_51 : decode b_MH_commit 51 = .ok (.aload_n 2, 1) := by decide +kernel
theorem d_MH_commit_52 : decode b_MH_commit 52 = .ok (.aload_n 0, 1) := by decide +kernel
theorem d_MH_commit_53 : decode b_MH_commit 53 = .ok (.aload_n 2, 1) := by decide +kernel
theorem d_MH_commit_54 : decode b_MH_commit 54 = .ok (.invokevirtual 115, 3) := by decide +kernel
theorem d_MH_commit_57 : decode b_MH_commit 57 = .ok (.putfield 119, 3) := by decide +kernel
theorem d_MH_commit_60 : decode b_MH_commit 60 = .ok (.aload_n 0, 1) := by decide +kernel
theorem d_MH_commit_61 : decode b_MH_commit 61 = .ok (.getfield 10, 3) := by decide +kernel
theorem d_MH_commit_64 : decode b_MH_commit 64 = .ok (.aload_n 2, 1) := by decide +kernel
theorem d_MH_commit_65 : decode b_MH_commit 65 = .ok (.invokevirtual 123, 3) := by decide +kernel
theorem d_MH_commit_68 : decode b_MH_commit 68 = .ok (.pop, 1) := by decide +kernel
theorem d_MH_commit_69 : decode b_MH_commit 69 = .ok (.aload_n 0, 1) := by decide +kernel
theorem d_MH_commit_70 : decode b_MH_commit 70 = .ok (.getfield 25, 3) := by decide +kernel
theorem d_MH_commit_73 : decode b_MH_commit 73 = .ok (.iload_n 1, 1) := by decide +kernel
theorem d_MH_commit_74 : decode b_MH_commit 74 = .ok (.aconst_null, 1) := by decide +kernel
theorem d_MH_commit_75 : decode b_MH_commit 75 = .ok (.aastore, 1) := by decide +kernel
theorem d_MH_commit_76 : decode b_MH_commit 76 = .ok (.aload_n 0, 1) := by decide +kernel
theorem d_MH_commit_77 : decode b_MH_commit 77 = .ok (.getfield 10, 3) := by decide +kernel
theorem d_MH_commit_80 : decode b_MH_commit 80 = .ok (.invokevirtual 109, 3) := by decide +kernel
theorem d_MH_commit_83 : decode b_MH_commit 83 = .ok (.iconst 1, 1) := by decide +kernel
theorem d_MH_commit_84 : decode b_MH_commit 84 = .ok (.isub, 1) := by decide +kernel
theorem d_MH_commit_85 : decode b_MH_commit 85 = .ok (.ireturn, 1) := by decide +kernel
theorem d_MH_advance_12 : decode b_MH_advance 12 = .ok (.aload_n 0, 1) := by decide +kernel
theorem d_MH_advance_13 : decode b_MH_advance 13 = .ok (.getfield 18, 3) := by decide +kernel
theorem d_MH_advance_16 : decode b_MH_advance 16 = .ok (.iload_n 1, 1) := by decide +kernel
theorem d_MH_advance_17 : decode b_MH_advance 17 = .ok (.aaload, 1) := by decide +kernel
theorem d_MH_advance_18 : decode b_MH_advance 18 = .ok (.astore_n 3, 1) := by decide +kernel
theorem d_MH_advance_19 : decode b_MH_advance 19 = .ok (.iload_n 2, 1) := by decide +kernel
theorem d_MH_advance_20 : decode b_MH_advance 20 = .ok (.aload_n 0, 1) := by decide +kernel
theorem d_MH_advance_21 : decode b_MH_advance 21 = .ok (.getfield 10, 3) := by decide +kernel
theorem d_MH_advance_24 : decode b_MH_advance 24 = .ok (.invokevirtual 109, 3) := by decide +kernel
theorem d_MH_advance_27 : decode b_MH_advance 27 = .ok (.aload_n 3, 1) := by decide +kernel
theorem d_MH_advance_28 : decode b_MH_advance 28 = .ok (.getfield 51, 3) := by decide +kernel
theorem d_MH_advance_31 : decode b_MH_advance 31 = .ok (.isub, 1) := by decide +kernel
theorem d_MH_advance_32 : decode b_MH_advance 32 = .ok (.invokestatic 127, 3) := by decide +kernel
theorem d_MH_advance_35 : decode b_MH_advance 35 = .ok (.istore 4, 2) := by decide +kernel
theorem d_MH_advance_37 : decode b_MH_advance 37 = .ok (.iconst 0, 1) := by decide +kernel
theorem d_MH_advance_38 : decode b_MH_advance 38 = .ok (.istore 5, 2) := by decide +kernel
theorem d_MH_advance_40 : decode b_MH_advance 40 = .ok (.iload 5, 2) := by decide +kernel
theorem d_MH_advance_42 : decode b_MH_advance 42 = .ok (.iload 4, 2) := by decide +kernel
theorem d_MH_advance_44 : decode b_MH_advance 44 = .ok (.if_icmp .ge 27, 3) := by decide +kernel
theorem d_MH_advance_71 : decode b_MH_advance 71 = .ok (.iload 4, 2) := by decide +kernel
theorem d_MH_advance_73 : decode b_MH_advance 73 = .ok (.ireturn, 1) := by decide +kernel
theorem d_MH_advance_47 : decode b_MH_advance 47 = .ok (.aload_n 3, 1) := by decide +kernel
theorem d_MH_advance_48 : decode b_MH_advance 48 = .ok (.aload_n 0, 1) := by decide +kernel
theorem d_MH_advance_49 : decode b_MH_advance 49 = .ok (.getfield 10, 3) := by decide +kernel
theorem d_MH_advance_52 : decode b_MH_advance 52 = .ok (.aload_n 3, 1) := by decide +kernel
theorem d_MH_advance_53 : decode b_MH_advance 53 = .ok (.getfield 51, 3) := by decide +kernel
theorem d_MH_advance_56 : decode b_MH_advance 56 = .ok (.invokevirtual 133, 3) := by decide +kernel
theorem d_MH_advance_59 : decode b_MH_advance 59 = .ok (.checkcast 23, 3) := by decide +kernel
theorem d_MH_advance_62 : decode b_MH_advance 62 = .ok (.invokevirtual 137, 3) := by decide +kernel
theorem d_MH_advance_65 : decode b_MH_advance 65 = .ok (.iinc 5 1, 3) := by decide +kernel
theorem d_MH_advance_68 : decode b_MH_advance 68 = .ok (.goto (-28), 3) := by decide +kernel
theorem d_MH_restart_5 : decode b_MH_restart 5 = .ok (.aload_n 0, 1) := by decide +kernel
theorem d_MH_restart_6 : decode b_MH_restart 6 = .ok (.getfield 36, 3) := by decide +kernel
theorem d_MH_restart_9 : decode b_MH_restart 9 = .ok (.iconst 4, 1) := by decide +kernel
theorem d_MH_restart_10 : decode b_MH_restart 10 = .ok (.if_icmp .lt 13, 3) := by decide +kernel
theorem d_MH_restart_13 : decode b_MH_restart 13 = .ok (.new 44, 3) := by decide +kernel
theorem d_MH_restart_16 : decode b_MH_restart 16 = .ok (.dup, 1) := by decide +kernel
theorem d_MH_restart_17 : decode b_MH_restart 17 = .ok (.ldc 141, 2) := by decide +kernel
theorem d_MH_restart_19 : decode b_MH_restart 19 = .ok (.invokespecial 48, 3) := by decide +kernel
theorem d_MH_restart_22 : decode b_MH_restart 22 = .ok (.athrow, 1) := by decide +kernel
theorem d_MH_restart_23 : decode b_MH_restart 23 = .ok (.aload_n 0, 1) := by decide +kernel
theorem d_MH_restart_24 : decode b_MH_restart 24 = .ok (.dup, 1) := by decide +kernel
theorem d_MH_restart_25 : decode b_MH_restart 25 = .ok (.getfield 36, 3) := by decide +kernel
theorem d_MH_restart_28 : decode b_MH_restart 28 = .ok (.iconst 1, 1) := by decide +kernel
theorem d_MH_restart_29 : decode b_MH_restart 29 = .ok (.iadd, 1) := by decide +kernel
theorem d_MH_restart_30 : decode b_MH_restart 30 = .ok (.putfield 36, 3) := by decide +kernel
theorem d_MH_restart_33 : decode b_MH_restart 33 = .ok (.aload_n 0, 1) := by decide +kernel
theorem d_MH_restart_34 : decode b_MH_restart 34 = .ok (.getfield 18, 3) := by decide +kernel
theorem d_MH_restart_37 : decode b_MH_restart 37 = .ok (.iload_n 1, 1) := by decide +kernel
theorem d_MH_restart_38 : decode b_MH_restart 38 = .ok (.aaload, 1) := by decide +kernel
theorem d_MH_restart_39 : decode b_MH_restart 39 = .ok (.invokevirtual 143, 3) := by decide +kernel
theorem d_MH_restart_42 : decode b_MH_restart 42 = .ok (.iconst 0, 1) := by decide +kernel
theorem d_MH_restart_43 : decode b_MH_restart 43 = .ok (.istore_n 2, 1) := by decide +kernel
theorem d_MH_restart_44 : decode b_MH_restart 44 = .ok (.iload_n 2, 1) := by decide +kernel
theorem d_MH_restart_45 : decode b_MH_restart 45 = .ok (.bipush 16, 2) := by decide +kernel
theorem d_MH_restart_47 : decode b_MH_restart 47 = .ok (.if_icmp .ge 38, 3) := by decide +kernel
theorem d_MH_restart_85 : decode b_MH_restart 85 = .ok (.return_, 1) := by decide +kernel
theorem d_MH_restart_50 : decode b_MH_restart 50 = .ok (.aload_n 0, 1) := by decide +kernel
theorem d_MH_restart_51 : decode b_MH_restart 51 = .ok (.getfield 25, 3) := by decide +kernel
theorem d_MH_restart_54 : decode b_MH_restart 54 = .ok (.iload_n 2, 1) := by decide +kernel
theorem d_MH_restart_55 : decode b_MH_restart 55 = .ok (.aaload, 1) := by decide +kernel
theorem d_MH_restart_56 : decode b_MH_restart 56 = .ok (.ifnull 23, 3) := by decide +kernel
theorem d_MH_restart_79 : decode b_MH_restart 79 = .ok (.iinc 2 1, 3) := by decide +kernel
theorem d_MH_restart_82 : decode b_MH_restart 82 = .ok (.goto (-38), 3) := by decide +kernel
theorem d_MH_restart_59 : decode b_MH_restart 59 = .ok (.aload_n 0, 1) := by decide +kernel
theorem d_MH_restart_60 : decode b_MH_restart 60 = .ok (.getfield 25, 3) := by decide +kernel
theorem d_MH_restart_63 : decode b_MH_restart 63 = .ok (.iload_n 2, 1) := by decide +kernel
theorem d_MH_restart_64 : decode b_MH_restart 64 = .ok (.aaload, 1) := by decide +kernel
theorem d_MH_restart_65 : decode b_MH_restart 65 = .ok (.getfield 146, 3) := by decide +kernel
theorem d_MH_restart_68 : decode b_MH_restart 68 = .ok (.iload_n 1, 1) := by decide +kernel
theorem d_MH_restart_69 : decode b_MH_restart 69 = .ok (.if_icmp .ne 10, 3) := by decide +kernel
theorem d_MH_restart_72 : decode b_MH_restart 72 = .ok (.aload_n 0, 1) := by decide +kernel
theorem d_MH_restart_73 : decode b_MH_restart 73 = .ok (.getfield 25, 3) := by decide +kernel
theorem d_MH_restart_76 : decode b_MH_restart 76 = .ok (.iload_n 2, 1) := by decide +kernel
theorem d_MH_restart_77 : decode b_MH_restart 77 = .ok (.aconst_null, 1) := by decide +kernel
theorem d_MH_restart_78 : decode b_MH_restart 78 = .ok (.aastore, 1) := by decide +kernel
set_option maxHeartbeats 4000000 in
set_option maxRecDepth 100000 in
theorem c_MH_commit_0 {l : Launch} {b : Nat} {dC : Nat → ClassId} {dI : Nat → Nat → Nat} {dA : Nat → ClassId} {zs : Nat → Nat} {w : mh_w} {x0 : Nat} {g : st_G} (hR : rC dA zs w x0 g) (hG : sg_ok g) {t : Nat} (ht : t < 16) {x : st_I} (hd : sg_dr g t = some x) (h0 : ¬ iv_nw x = 0) (hn : sg_n g < 400) : mh_Met l b dC dI dA zs y_MH_commit (mh_rm 8 20 1000) [.ref x0, .int (nI t)] w (mh_V (some (.int (nI (sg_n g)))) (fun w' => rC dA zs w' x0 ((sg_n g + 1, va_up (sg_lg g) (sg_n g) (st_lgd g x)), g.2.1, va_up (sg_dr g) t none, g.2.2.2) ∧ mh_C w w')) := by
  have hR2 := hR
  obtain ⟨aL, aS, aD, aV, sv, dr, vw, lg, hP⟩ := hR
  have hP2 := hP
  obtain ⟨r0, rLg, r3, r10, r11, rs, rv, rd, rl⟩ := hP2
  obtain ⟨mc, ar, r1, rAr⟩ := rLg
  have hG2 := hG
  obtain ⟨gn, grs, gat, glo, gdr⟩ := hG2
  refine mh_ofW (cc := b_MH_commit) (n := 3) (ret := (some .int)) (hs := []) (by decide) k446 ?_
  intro p e s m below meth c hx hb hr hml hown hts hlocks hnm hT hOK hadm
  have K0 : mh_K0 p s m ([.ref x0, .int (nI t)]).toArray c "MeldHost" b_MH_commit dC dI dA := ⟨hx, hb, hown, hts, hOK.1, hOK.2.1⟩
  have hX := hOK.2.2.2.2
  have hb0 := hOK.2.2.2.1
  have hS : va_S (mh_A b) s.heap s.heap [] := va_S.rf
  have hl := lv_entry ([.ref x0, .int (nI t)]) (n := 3) (Nat.le_of_ble_eq_true rfl)
  rw [lg_entry_eq]
  generalize (lg_sl ([.ref x0, .int (nI t)]) ++ List.replicate (3 - (lg_sl ([.ref x0, .int (nI t)])).length) Slot.unset).toArray = ls at hl ⊢
  have hl : lv_has ls 3 [(0, .ref x0), (1, .int (nI t))] := hl
  obtain ⟨y, hy1, hy2⟩ := (rd t ht).some hd
  obtain ⟨d1, d3, d4, d5, d6, d7, j0⟩ := hy2.fst
  have ho := gdr t x ht hd
  have ho2 := ho
  obtain ⟨o1, o2, o3, o4, o5, o6, o7, o8⟩ := ho2
  obtain ⟨av, hv1, st, hv2, hv3⟩ := rv t ht
  obtain ⟨v1, v3, vn0⟩ := hv2.fst
  refine lv_iload_n hx hb d_MH_commit_0 rfl (lv_at hl 1 rfl) ?_
  refine lv_bipush (v := nI 16) hx hb d_MH_commit_1 (by decide) ?_
  refine mh_callR (mh_sS (rest := []) (av := [.int (nI t), .int (nI 16)]) K0 e_MH_needBelow l_MH_40 k144 rfl rfl d_MH_commit_3) (c_MH_needBelow ht (by decide)) K0 hOK hml hl.1 e_MH_needBelow hX hS d_MH_commit_3 (Nat.le_of_ble_eq_true rfl) (Nat.le_of_ble_eq_true rfl) (Nat.le_of_ble_eq_true rfl) (Nat.le_of_ble_eq_true rfl) (Nat.le_of_ble_eq_true rfl) (fun H locs hX hS => ?_)
  refine W.eq (g2 := F0 m 6 ls []) rfl ?_
  refine lv_aload_n hx hb d_MH_commit_6 rfl (lv_at hl 0 rfl) ?_
  refine lv_iload_n hx hb d_MH_commit_7 rfl (lv_at hl 1 rfl) ?_
  refine mh_callR (mh_sV (rest := []) (av := [.int (nI t)]) K0 hX r0 rfl e_MH_openDraft l_MH_65 k303 kp1 rfl rfl d_MH_commit_8) (c_MH_openDraft r0 r10 ht hy1) K0 hOK hml hl.1 e_MH_openDraft hX hS d_MH_commit_8 (Nat.le_of_ble_eq_true rfl) (Nat.le_of_ble_eq_true rfl) (Nat.le_of_ble_eq_true rfl) (Nat.le_of_ble_eq_true rfl) (Nat.le_of_ble_eq_true rfl) (fun H locs hX hS => ?_)
  refine W.eq (g2 := F0 m 11 ls [.ref y]) rfl ?_
  refine lv_astore_n (lv' := [(2, .ref y), (0, .ref x0), (1, .int (nI t))]) hx hb d_MH_commit_11 rfl hl (by decide) rfl (fun ls hl => ?_)
  refine lv_aload_n hx hb d_MH_commit_12 rfl (lv_at hl 0 rfl) ?_
  refine mh_get K0 hX j0 f_MH_106 rfl d_MH_commit_13 ?_
  refine mh_if_ne (tgt := 28) hx hb (by omega) d_MH_commit_16 (by decide) (fun _ => ?_) (fun z => absurd z (by omega))
  refine lv_aload_n hx hb d_MH_commit_28 rfl (lv_at hl 1 rfl) ?_
  refine mh_get K0 hX r0 f_MH_10 rfl d_MH_commit_29 ?_
  refine mh_callR (mh_sV (rest := []) (av := []) K0 hX r1 rfl e_AL_size l_MH_109 k448 k449 rfl rfl d_MH_commit_32) (c_AL_size r1) K0 hOK hml hl.1 e_AL_size hX hS d_MH_commit_32 (Nat.le_of_ble_eq_true rfl) (Nat.le_of_ble_eq_true rfl) (Nat.le_of_ble_eq_true rfl) (Nat.le_of_ble_eq_true rfl) (Nat.le_of_ble_eq_true rfl) (fun H locs hX hS => ?_)
  refine W.eq (g2 := F0 m 35 ls [.int (nI (sg_n g))]) rfl ?_
  refine lv_sipush (v := nI 400) hx hb d_MH_commit_35 (by decide) ?_
  refine mh_icmp_lt (tgt := 51) hx hb (by omega) (by omega) d_MH_commit_38 (by decide) (fun _ => ?_) (fun z => absurd z (by omega))
  refine lv_aload_n hx hb d_MH_commit_51 rfl (lv_at hl 0 rfl) ?_
  refine lv_aload_n hx hb d_MH_commit_52 rfl (lv_at hl 1 rfl) ?_
  refine lv_aload_n hx hb d_MH_commit_53 rfl (lv_at hl 0 rfl) ?_
  refine mh_callR (mh_sV (rest := [.ref y]) (av := [.ref y]) K0 hX r0 rfl e_MH_canBeDone l_MH_115 k454 kp8 rfl rfl d_MH_commit_54) (c_MH_canBeDone r0 r1 gn rAr rl glo hy2 ho) K0 hOK hml hl.1 e_MH_canBeDone hX hS d_MH_commit_54 (Nat.le_of_ble_eq_true rfl) (Nat.le_of_ble_eq_true rfl) (Nat.le_of_ble_eq_true rfl) (Nat.le_of_ble_eq_true rfl) (Nat.le_of_ble_eq_true rfl) (fun H locs hX hS => ?_)
  refine W.eq (g2 := F0 m 57 ls [.int (mh_b (st_ok (sg_lg g) x (sg_n g))), .ref y]) rfl ?_
  refine mh_put K0 hX hS j0 f_MH_119 p_2_11 (mh_b_nar _) (mh_b_fit _) (Nat.le_of_ble_eq_true rfl) d_MH_commit_57 (fun H locs hX hS => ?_)
  have hX : mh_P (dC, dI) b (mh_set _ 16 t (some (y, .inr (2, [.int (nI (iv_sv x)), .int (nI (iv_sn x)), .int (nI (iv_lv x)), .ref d1, .ref d3, .ref d4, .ref d5, .ref d6, .ref d7, .int (nI (iv_np x)), .int (nI (iv_nw x)), .int (mh_b (st_ok (sg_lg g) x (sg_n g)))])))) H := hX
  have fs64 := mh_self hX
  refine lv_aload_n hx hb d_MH_commit_60 rfl (lv_at hl 1 rfl) ?_
  refine mh_get K0 hX (mh_kp r0 (by omega)) f_MH_10 rfl d_MH_commit_61 ?_
  refine lv_aload_n hx hb d_MH_commit_64 rfl (lv_at hl 0 rfl) ?_
  have hI1 := hy2.good (bb := st_ok (sg_lg g) x (sg_n g)) j0 fs64 (fun z h1 h2 => mh_set_ne _ _ _ _ (by omega))
  have hel : mh_el (mh_set w 16 t (some (y, .inr (2, [.int (nI (iv_sv x)), .int (nI (iv_sn x)), .int (nI (iv_lv x)), .ref d1, .ref d3, .ref d4, .ref d5, .ref d6, .ref d7, .int (nI (iv_np x)), .int (nI (iv_nw x)), .int (mh_b (st_ok (sg_lg g) x (sg_n g)))])))) (sg_n g) lg := fun j y2 hj hy => by
    obtain ⟨ax, e1, e2⟩ := rl j hj
    cases e1.symm.trans hy
    obtain ⟨b1, b3, b4, b5, b6, b7, l0⟩ := e2.fst
    exact ⟨24, j, _, by omega, (mh_set_ne _ _ _ _ (by omega)).trans l0⟩
  refine mh_callV (mh_sV (rest := []) (av := [.ref y]) K0 hX (mh_kp r1 (by omega)) rfl e_AL_add1 l_MH_123 k480 k481 rfl rfl d_MH_commit_65) (c_AL_add1 (hP.2.1.to (by rw [mh_set_ne _ _ _ _ (by omega)]) (fun i => by rw [mh_set_ne _ _ _ _ (by omega)]) (fun _ _ => rfl)) hel hn (ky := 16) (iy := t) (by omega) fs64) K0 hOK hml hl.1 e_AL_add1 hX hS d_MH_commit_65 (Nat.le_of_ble_eq_true rfl) (Nat.le_of_ble_eq_true rfl) (Nat.le_of_ble_eq_true rfl) (Nat.le_of_ble_eq_true rfl) (Nat.le_of_ble_eq_true rfl) (fun w1 H locs ⟨hL, hF3⟩ hX hS => ?_)
  refine W.eq (g2 := F0 m 68 ls [.int (nI 1)]) rfl ?_
  obtain ⟨mc2, ar2, l1, l2⟩ := hL
  refine lv_pop hx hb d_MH_commit_68 rfl ?_
  refine lv_aload_n hx hb d_MH_commit_69 rfl (lv_at hl 1 rfl) ?_
  refine mh_get K0 hX ((hF3 0 0 (by omega) (by omega)).trans (mh_kp r0 (by omega))) f_MH_25 rfl d_MH_commit_70 ?_
  refine lv_iload_n hx hb d_MH_commit_73 rfl (lv_at hl 2 rfl) ?_
  refine lv_null hx hb d_MH_commit_74 ?_
  refine mh_aastNN 5 rfl K0 hX hS ((hF3 10 0 (by omega) (by omega)).trans (mh_kp r10 (by omega))) (by omega) (by omega) d_MH_commit_75 (fun H locs hX hS => ?_)
  have fs65 := mh_self hX
  refine lv_aload_n hx hb d_MH_commit_76 rfl (lv_at hl 1 rfl) ?_
  refine mh_get K0 hX (mh_kp ((hF3 0 0 (by omega) (by omega)).trans (mh_kp r0 (by omega))) (by omega)) f_MH_10 rfl d_MH_commit_77 ?_
  refine mh_callR (mh_sV (rest := []) (av := []) K0 hX (mh_kp l1 (by omega)) rfl e_AL_size l_MH_109 k448 k449 rfl rfl d_MH_commit_80) (c_AL_size (mh_kp l1 (by omega))) K0 hOK hml hl.1 e_AL_size hX hS d_MH_commit_80 (Nat.le_of_ble_eq_true rfl) (Nat.le_of_ble_eq_true rfl) (Nat.le_of_ble_eq_true rfl) (Nat.le_of_ble_eq_true rfl) (Nat.le_of_ble_eq_true rfl) (fun H locs hX hS => ?_)
  refine W.eq (g2 := F0 m 83 ls [.int (nI (sg_n g + 1))]) rfl ?_
  refine lv_iconst (v := nI 1) hx hb d_MH_commit_83 (by decide) ?_
  refine mh_subN hx hb (by omega) d_MH_commit_84 ?_
  refine mh_ti (y := nI (sg_n g)) (by rw [Nat.add_sub_cancel]) ?_
  have hL9 : rL dA zs (mh_rn (mh_set w1 10 0 (some (aD, .inl (dA 5, 16, .inr (.inr (.inr (.inr (va_up dr t none)))))))) t (sg_n g)) aL (sg_n g + 1) (va_up lg (sg_n g) (some y)) := rL.to (w := w1) ⟨mc2, ar2, l1, l2⟩ ((mh_rn_eq (by omega) (by omega)).trans (mh_set_ne _ _ _ _ (by omega))) (fun i => (mh_rn_eq (by omega) (by omega)).trans (mh_set_ne _ _ _ _ (by omega))) (fun _ _ => rfl)
  have hI9 : rI dA (mh_rn (mh_set w1 10 0 (some (aD, .inl (dA 5, 16, .inr (.inr (.inr (.inr (va_up dr t none)))))))) t (sg_n g)) 24 (sg_n g) y (st_lgd g x) := hI1.to (fun z hz => by rw [mh_rn_new hz, mh_set_ne _ _ _ _ (by omega), hF3 _ _ (by omega) (by omega)])
  exact mh_iret K0 hr rfl hlocks (mh_rn_P (t := t) (n := sg_n g) hX) hS (⟨rfl, ⟨aL, aS, aD, aV, sv, _, vw, _, hP.cm hG (fun k i h0 h1 h2 h3 h4 h5 => (mh_rn_eq h4 h5).trans (by rw [mh_set_ne _ _ _ _ (by omega), hF3 _ _ (by omega) (by omega), mh_set_ne _ _ _ _ (by omega)])) hL9 ((mh_rn_eq (by omega) (by omega)).trans fs65) hI9⟩, fun k i h1 h2 => (mh_rn_eq (by omega) (by omega)).trans (by rw [mh_set_ne _ _ _ _ (by omega), hF3 _ _ (by omega) (by omega), mh_set_ne _ _ _ _ (by omega)])⟩) (Nat.le_of_ble_eq_true rfl) (Nat.le_of_ble_eq_true rfl) d_MH_commit_85
set_option maxHeartbeats 4000000 in
set_option maxRecDepth 100000 in
theorem c_MH_advance_0 {l : Launch} {b : Nat} {dC : Nat → ClassId} {dI : Nat → Nat → Nat} {dA : Nat → ClassId} {zs : Nat → Nat} {w : mh_w} {x0 : Nat} {g : st_G} (hR : rC dA zs w x0 g) (hG : sg_ok g) {u : Nat} (hu : u < 4) {k9 : Nat} (hk9 : k9 < 401) : mh_Met l b dC dI dA zs y_MH_advance (mh_rm 8 20 1000) [.ref x0, .int (nI u), .int (nI k9)] w (mh_V (some (.int (nI (min k9 (sg_n g - sg_at g u))))) (fun w' => rC dA zs w' x0 (g.1, va_up (sg_at g) u (sg_at g u + (min k9 (sg_n g - sg_at g u))), g.2.2) ∧ mh_C w w')) := by
  have hR2 := hR
  obtain ⟨aL, aS, aD, aV, sv, dr, vw, lg, hP⟩ := hR
  have hP2 := hP
  obtain ⟨r0, rLg, r3, r10, r11, rs, rv, rd, rl⟩ := hP2
  obtain ⟨mc, ar, r1, rAr⟩ := rLg
  have hG2 := hG
  obtain ⟨gn, grs, gat, glo, gdr⟩ := hG2
  refine mh_ofW (cc := b_MH_advance) (n := 6) (ret := (some .int)) (hs := []) (by decide) k547 ?_
  intro p e s m below meth c hx hb hr hml hown hts hlocks hnm hT hOK hadm
  have K0 : mh_K0 p s m ([.ref x0, .int (nI u), .int (nI k9)]).toArray c "MeldHost" b_MH_advance dC dI dA := ⟨hx, hb, hown, hts, hOK.1, hOK.2.1⟩
  have hX := hOK.2.2.2.2
  have hb0 := hOK.2.2.2.1
  have hS : va_S (mh_A b) s.heap s.heap [] := va_S.rf
  have hl := lv_entry ([.ref x0, .int (nI u), .int (nI k9)]) (n := 6) (Nat.le_of_ble_eq_true rfl)
  rw [lg_entry_eq]
  generalize (lg_sl ([.ref x0, .int (nI u), .int (nI k9)]) ++ List.replicate (6 - (lg_sl ([.ref x0, .int (nI u), .int (nI k9)])).length) Slot.unset).toArray = ls at hl ⊢
  have hl : lv_has ls 6 [(0, .ref x0), (1, .int (nI u)), (2, .int (nI k9))] := hl
  obtain ⟨au, hs1, hs2⟩ := rs u hu
  have hs3 := hs2
  obtain ⟨a5, a9, f9, s0, sN, s9, sf⟩ := hs2
  obtain ⟨n1, n3, sn0⟩ := sN.fst
  have hat := gat u hu
  refine lv_iload_n hx hb d_MH_advance_0 rfl (lv_at hl 1 rfl) ?_
  refine lv_iconst (v := nI 4) hx hb d_MH_advance_1 (by decide) ?_
  refine mh_callR (mh_sS (rest := []) (av := [.int (nI u), .int (nI 4)]) K0 e_MH_needBelow l_MH_40 k144 rfl rfl d_MH_advance_2) (c_MH_needBelow hu (by decide)) K0 hOK hml hl.1 e_MH_needBelow hX hS d_MH_advance_2 (Nat.le_of_ble_eq_true rfl) (Nat.le_of_ble_eq_true rfl) (Nat.le_of_ble_eq_true rfl) (Nat.le_of_ble_eq_true rfl) (Nat.le_of_ble_eq_true rfl) (fun H locs hX hS => ?_)
  refine W.eq (g2 := F0 m 5 ls []) rfl ?_
  refine lv_iload_n hx hb d_MH_advance_5 rfl (lv_at hl 2 rfl) ?_
  refine lv_sipush (v := nI 401) hx hb d_MH_advance_6 (by decide) ?_
  refine mh_callR (mh_sS (rest := []) (av := [.int (nI k9), .int (nI 401)]) K0 e_MH_needBelow l_MH_40 k144 rfl rfl d_MH_advance_9) (c_MH_needBelow hk9 (by decide)) K0 hOK hml hl.1 e_MH_needBelow hX hS d_MH_advance_9 (Nat.le_of_ble_eq_true rfl) (Nat.le_of_ble_eq_true rfl) (Nat.le_of_ble_eq_true rfl) (Nat.le_of_ble_eq_true rfl) (Nat.le_of_ble_eq_true rfl) (fun H locs hX hS => ?_)
  refine W.eq (g2 := F0 m 12 ls []) rfl ?_
  refine lv_aload_n hx hb d_MH_advance_12 rfl (lv_at hl 0 rfl) ?_
  refine mh_get K0 hX r0 f_MH_18 rfl d_MH_advance_13 ?_
  refine lv_iload_n hx hb d_MH_advance_16 rfl (lv_at hl 1 rfl) ?_
  refine mh_aaldN 4 rfl K0 hX r3 (by omega) (by omega) (r := (some au)) (hs1) d_MH_advance_17 ?_
  refine W.eq (g2 := F0 m 18 ls [.ref au]) rfl ?_
  refine lv_astore_n (lv' := [(3, .ref au), (0, .ref x0), (1, .int (nI u)), (2, .int (nI k9))]) hx hb d_MH_advance_18 rfl hl (by decide) rfl (fun ls hl => ?_)
  refine lv_iload_n hx hb d_MH_advance_19 rfl (lv_at hl 3 rfl) ?_
  refine lv_aload_n hx hb d_MH_advance_20 rfl (lv_at hl 1 rfl) ?_
  refine mh_get K0 hX r0 f_MH_10 rfl d_MH_advance_21 ?_
  refine mh_callR (mh_sV (rest := [.int (nI k9)]) (av := []) K0 hX r1 rfl e_AL_size l_MH_109 k448 k449 rfl rfl d_MH_advance_24) (c_AL_size r1) K0 hOK hml hl.1 e_AL_size hX hS d_MH_advance_24 (Nat.le_of_ble_eq_true rfl) (Nat.le_of_ble_eq_true rfl) (Nat.le_of_ble_eq_true rfl) (Nat.le_of_ble_eq_true rfl) (Nat.le_of_ble_eq_true rfl) (fun H locs hX hS => ?_)
  refine W.eq (g2 := F0 m 27 ls [.int (nI (sg_n g)), .int (nI k9)]) rfl ?_
  refine lv_aload_n hx hb d_MH_advance_27 rfl (lv_at hl 0 rfl) ?_
  refine mh_get K0 hX s0 f_MH_51 rfl d_MH_advance_28 ?_
  refine mh_subN hx hb (by omega) d_MH_advance_31 ?_
  refine va_mmin (rest := []) hx hb (by rw [hml]; exact hl.1.symm) hown (hts _ k548) (hts _ k529) (hts _ k20) (hts _ k530) (Nat.le_of_ble_eq_true rfl) (Nat.le_of_ble_eq_true rfl) (Nat.le_of_ble_eq_true rfl) (Nat.le_of_ble_eq_true rfl) d_MH_advance_32 ?_
  refine mh_ti (y := nI (min k9 ((sg_n g) - (sg_at g u)))) (mh_mmin (by omega) (by omega)) ?_
  refine lv_istore (lv' := [(4, .int (nI (min k9 ((sg_n g) - (sg_at g u))))), (3, .ref au), (0, .ref x0), (1, .int (nI u)), (2, .int (nI k9))]) hx hb d_MH_advance_35 hl (by decide) rfl (fun ls hl => ?_)
  refine lv_iconst (v := nI 0) hx hb d_MH_advance_37 (by decide) ?_
  refine lv_istore (lv' := [(5, .int (nI 0)), (4, .int (nI (min k9 ((sg_n g) - (sg_at g u))))), (3, .ref au), (0, .ref x0), (1, .int (nI u)), (2, .int (nI k9))]) hx hb d_MH_advance_38 hl (by decide) rfl (fun ls hl => ?_)
  have LP : ∀ (n : Nat) (j : Nat) (w1 : mh_w) (H : Heap) (locs : List Loc) (ls : Array Slot), mh_P (dC, dI) b w1 H → va_S (mh_A b) s.heap H locs → lv_has ls 6 [(5, .int (nI j)), (4, .int (nI (min k9 ((sg_n g) - (sg_at g u))))), (3, .ref au), (0, .ref x0), (1, .int (nI u)), (2, .int (nI k9))] → (j + n = (min k9 (sg_n g - sg_at g u))) → (cS dA w1 (sg_lg g) (sg_at g u + j) u au) → (mh_F w w1 4 6 u) → W p l e (mh_rm 8 20 1000) s m ([.ref x0, .int (nI u), .int (nI k9)]).toArray below meth c H locs (0) (0) (mh_MQ below b dC dI (mh_V (some (.int (nI (min k9 (sg_n g - sg_at g u))))) (fun w' => rC dA zs w' x0 (g.1, va_up (sg_at g) u (sg_at g u + (min k9 (sg_n g - sg_at g u))), g.2.2) ∧ mh_C w w')) ([.ref x0, .int (nI u), .int (nI k9)]).toArray s 20 1000) (F0 m 40 ls []) := by
    intro n
    induction n with
    | zero =>
      intro j w1 H locs ls hX hS hl hn9 hC hF
      refine lv_iload hx hb d_MH_advance_40 (lv_at hl 0 rfl) ?_
      refine lv_iload hx hb d_MH_advance_42 (lv_at hl 1 rfl) ?_
      refine mh_icmp_ge (tgt := 71) hx hb (by omega) (by omega) d_MH_advance_44 (by decide) (fun _ => ?_) (fun z => absurd z (by omega))
      refine lv_iload hx hb d_MH_advance_71 (lv_at hl 1 rfl) ?_
      exact mh_iret K0 hr rfl hlocks hX hS (⟨rfl, ⟨aL, aS, aD, aV, sv, dr, vw, lg, hP.sv (fun k i h1 h2 => hF k i (by omega)) ⟨au, hs1, by rw [show (min k9 (sg_n g - sg_at g u)) = j by omega]; exact hC⟩⟩, fun k i h1 h2 => hF k i (by omega)⟩) (Nat.le_of_ble_eq_true rfl) (Nat.le_of_ble_eq_true rfl) d_MH_advance_73
    | succ n ih =>
      intro j w1 H locs ls hX hS hl hn9 hC hF
      have hC2 := hC
      obtain ⟨b5, b9, g9, t0, tN, t9, tf⟩ := hC2
      have hjn : sg_at g u + j < sg_n g := by omega
      obtain ⟨yy, hy1, hy2⟩ := rl _ hjn
      obtain ⟨ix, cap, ga, q1, q2, q3, q4⟩ := rAr.in hjn
      obtain ⟨d1, d3, d4, d5, d6, d7, j0⟩ := hy2.fst
      refine lv_iload hx hb d_MH_advance_40 (lv_at hl 0 rfl) ?_
      refine lv_iload hx hb d_MH_advance_42 (lv_at hl 1 rfl) ?_
      refine mh_icmp_ge (tgt := 71) hx hb (by omega) (by omega) d_MH_advance_44 (by decide) (fun z => absurd z (by omega)) (fun _ => ?_)
      refine lv_aload_n hx hb d_MH_advance_47 rfl (lv_at hl 2 rfl) ?_
      refine lv_aload_n hx hb d_MH_advance_48 rfl (lv_at hl 3 rfl) ?_
      refine mh_get K0 hX ((hF 0 0 (by omega)).trans r0) f_MH_10 rfl d_MH_advance_49 ?_
      refine lv_aload_n hx hb d_MH_advance_52 rfl (lv_at hl 2 rfl) ?_
      refine mh_get K0 hX t0 f_MH_51 rfl d_MH_advance_53 ?_
      refine mh_callR (mh_sV (rest := [.ref au]) (av := [.int (nI (sg_at g u + j))]) K0 hX ((hF 1 0 (by omega)).trans r1) rfl e_AL_get l_MH_133 k457 k458 rfl rfl d_MH_advance_56) (c_AL_get ((hF 1 0 (by omega)).trans r1) ((hF 2 ix (by omega)).trans q3) q2 hjn q1 (q4.trans hy1)) K0 hOK hml hl.1 e_AL_get hX hS d_MH_advance_56 (Nat.le_of_ble_eq_true rfl) (Nat.le_of_ble_eq_true rfl) (Nat.le_of_ble_eq_true rfl) (Nat.le_of_ble_eq_true rfl) (Nat.le_of_ble_eq_true rfl) (fun H locs hX hS => ?_)
      refine W.eq (g2 := F0 m 59 ls [.ref yy, .ref au]) rfl ?_
      refine mh_cast K0 hX ((hF 24 _ (by omega)).trans j0) rfl k113 d_MH_advance_59 ?_
      refine mh_callV (mh_sV (rest := []) (av := [.ref yy]) K0 hX t0 rfl e_SV_goThrough l_MH_137 k550 k551 rfl rfl d_MH_advance_62) (c_SV_goThrough hC (hy2.to (fun z hz => hF _ _ (by omega))) (glo _ hjn) (by omega)) K0 hOK hml hl.1 e_SV_goThrough hX hS d_MH_advance_62 (Nat.le_of_ble_eq_true rfl) (Nat.le_of_ble_eq_true rfl) (Nat.le_of_ble_eq_true rfl) (Nat.le_of_ble_eq_true rfl) (Nat.le_of_ble_eq_true rfl) (fun w2 H locs ⟨hS2, hF2⟩ hX hS => ?_)
      refine W.eq (g2 := F0 m 65 ls []) rfl ?_
      refine lv_iinc (v := nI (j + 1)) (k := 0) (lv' := [(5, .int (nI (j + 1))), (4, .int (nI (min k9 ((sg_n g) - (sg_at g u))))), (3, .ref au), (0, .ref x0), (1, .int (nI u)), (2, .int (nI k9))]) hx hb d_MH_advance_65 hl rfl (mh_inc j) (by decide) rfl (fun ls hl => ?_)
      refine lv_goto (tgt := 40) hx hb d_MH_advance_68 (by decide) ?_
      exact ih (j + 1) _ _ _ _ hX hS hl (by omega) (cS.succ hS2) (fun k i h => (hF2 k i h).trans (hF k i h))
  exact LP (min k9 (sg_n g - sg_at g u)) 0 _ _ _ _ hX hS hl (Nat.zero_add _) hs3 mh_F.rf
set_option maxHeartbeats 4000000 in
set_option maxRecDepth 100000 in
theorem c_MH_restart_2 {l : Launch} {b : Nat} {dC : Nat → ClassId} {dI : Nat → Nat → Nat} {dA : Nat → ClassId} {zs : Nat → Nat} {w : mh_w} (hl0 : l.stackTraces = false) {x0 : Nat} {g : st_G} (hR : rC dA zs w x0 g) (hG : sg_ok g) {u : Nat} (hu : u < 4) (h4 : ¬ sg_rs g < 4) : mh_Met l b dC dI dA zs y_MH_restart (mh_rm 8 20 1000) [.ref x0, .int (nI u)] w (mh_T 9 (fun w' => rC dA zs w' x0 g ∧ mh_C w w')) := by
  have hR2 := hR
  obtain ⟨aL, aS, aD, aV, sv, dr, vw, lg, hP⟩ := hR
  have hP2 := hP
  obtain ⟨r0, rLg, r3, r10, r11, rs, rv, rd, rl⟩ := hP2
  obtain ⟨mc, ar, r1, rAr⟩ := rLg
  have hG2 := hG
  obtain ⟨gn, grs, gat, glo, gdr⟩ := hG2
  refine mh_ofW (cc := b_MH_restart) (n := 3) (ret := none) (hs := []) (by decide) k569 ?_
  intro p e s m below meth c hx hb hr hml hown hts hlocks hnm hT hOK hadm
  have K0 : mh_K0 p s m ([.ref x0, .int (nI u)]).toArray c "MeldHost" b_MH_restart dC dI dA := ⟨hx, hb, hown, hts, hOK.1, hOK.2.1⟩
  have hX := hOK.2.2.2.2
  have hb0 := hOK.2.2.2.1
  have hS : va_S (mh_A b) s.heap s.heap [] := va_S.rf
  have hl := lv_entry ([.ref x0, .int (nI u)]) (n := 3) (Nat.le_of_ble_eq_true rfl)
  rw [lg_entry_eq]
  generalize (lg_sl ([.ref x0, .int (nI u)]) ++ List.replicate (3 - (lg_sl ([.ref x0, .int (nI u)])).length) Slot.unset).toArray = ls at hl ⊢
  have hl : lv_has ls 3 [(0, .ref x0), (1, .int (nI u))] := hl
  refine lv_iload_n hx hb d_MH_restart_0 rfl (lv_at hl 1 rfl) ?_
  refine lv_iconst (v := nI 4) hx hb d_MH_restart_1 (by decide) ?_
  refine mh_callR (mh_sS (rest := []) (av := [.int (nI u), .int (nI 4)]) K0 e_MH_needBelow l_MH_40 k144 rfl rfl d_MH_restart_2) (c_MH_needBelow hu (by decide)) K0 hOK hml hl.1 e_MH_needBelow hX hS d_MH_restart_2 (Nat.le_of_ble_eq_true rfl) (Nat.le_of_ble_eq_true rfl) (Nat.le_of_ble_eq_true rfl) (Nat.le_of_ble_eq_true rfl) (Nat.le_of_ble_eq_true rfl) (fun H locs hX hS => ?_)
  refine W.eq (g2 := F0 m 5 ls []) rfl ?_
  refine lv_aload_n hx hb d_MH_restart_5 rfl (lv_at hl 0 rfl) ?_
  refine mh_get K0 hX r0 f_MH_36 rfl d_MH_restart_6 ?_
  refine lv_iconst (v := nI 4) hx hb d_MH_restart_9 (by decide) ?_
  refine mh_icmp_lt (tgt := 23) hx hb (by omega) (by omega) d_MH_restart_10 (by decide) (fun z => absurd z (by omega)) (fun _ => ?_)
  exact mh_throw hl0 K0 hOK ex_IS (is := 141) (tx := "there were four restarts") (by decide) k215 hlocks hT hml hl.1 hX hS (fun q => ⟨q, rfl, mh_set_eq _ _ _ _, hR2.x mh_x.of, mh_x.of.C⟩) (Nat.le_of_ble_eq_true rfl) (Nat.le_of_ble_eq_true rfl) (Nat.le_of_ble_eq_true rfl) (Nat.le_of_ble_eq_true rfl) (Nat.le_of_ble_eq_true rfl) (Nat.le_of_ble_eq_true rfl) d_MH_restart_13 d_MH_restart_16 d_MH_restart_17 d_MH_restart_19 d_MH_restart_22
set_option maxHeartbeats 4000000 in
set_option maxRecDepth 100000 in
theorem c_MH_restart_0 {l : Launch} {b : Nat} {dC : Nat → ClassId} {dI : Nat → Nat → Nat} {dA : Nat → ClassId} {zs : Nat → Nat} {w : mh_w} {x0 : Nat} {g : st_G} (hR : rC dA zs w x0 g) (hG : sg_ok g) {u : Nat} (hu : u < 4) (h4 : sg_rs g < 4) : mh_Met l b dC dI dA zs y_MH_restart (mh_rm 8 20 1000) [.ref x0, .int (nI u)] w (mh_V none (fun w' => rC dA zs w' x0 (g.1, va_up (sg_at g) u 0, (fun t => match sg_dr g t with | some x => if iv_sv x = u then none else some x | none => none), sg_rs g + 1) ∧ mh_C w w')) := by
  have hR2 := hR
  obtain ⟨aL, aS, aD, aV, sv, dr, vw, lg, hP⟩ := hR
  have hP2 := hP
  obtain ⟨r0, rLg, r3, r10, r11, rs, rv, rd, rl⟩ := hP2
  obtain ⟨mc, ar, r1, rAr⟩ := rLg
  have hG2 := hG
  obtain ⟨gn, grs, gat, glo, gdr⟩ := hG2
  refine mh_ofW (cc := b_MH_restart) (n := 3) (ret := none) (hs := []) (by decide) k569 ?_
  intro p e s m below meth c hx hb hr hml hown hts hlocks hnm hT hOK hadm
  have K0 : mh_K0 p s m ([.ref x0, .int (nI u)]).toArray c "MeldHost" b_MH_restart dC dI dA := ⟨hx, hb, hown, hts, hOK.1, hOK.2.1⟩
  have hX := hOK.2.2.2.2
  have hb0 := hOK.2.2.2.1
  have hS : va_S (mh_A b) s.heap s.heap [] := va_S.rf
  have hl := lv_entry ([.ref x0, .int (nI u)]) (n := 3) (Nat.le_of_ble_eq_true rfl)
  rw [lg_entry_eq]
  generalize (lg_sl ([.ref x0, .int (nI u)]) ++ List.replicate (3 - (lg_sl ([.ref x0, .int (nI u)])).length) Slot.unset).toArray = ls at hl ⊢
  have hl : lv_has ls 3 [(0, .ref x0), (1, .int (nI u))] := hl
  obtain ⟨au, hs1, hs2⟩ := rs u hu
  have hs3 := hs2
  obtain ⟨a5, a9, f9, s0, sN, s9, sf⟩ := hs2
  obtain ⟨n1, n3, sn0⟩ := sN.fst
  refine lv_iload_n hx hb d_MH_restart_0 rfl (lv_at hl 1 rfl) ?_
  refine lv_iconst (v := nI 4) hx hb d_MH_restart_1 (by decide) ?_
  refine mh_callR (mh_sS (rest := []) (av := [.int (nI u), .int (nI 4)]) K0 e_MH_needBelow l_MH_40 k144 rfl rfl d_MH_restart_2) (c_MH_needBelow hu (by decide)) K0 hOK hml hl.1 e_MH_needBelow hX hS d_MH_restart_2 (Nat.le_of_ble_eq_true rfl) (Nat.le_of_ble_eq_true rfl) (Nat.le_of_ble_eq_true rfl) (Nat.le_of_ble_eq_true rfl) (Nat.le_of_ble_eq_true rfl) (fun H locs hX hS => ?_)
  refine W.eq (g2 := F0 m 5 ls []) rfl ?_
  refine lv_aload_n hx hb d_MH_restart_5 rfl (lv_at hl 0 rfl) ?_
  refine mh_get K0 hX r0 f_MH_36 rfl d_MH_restart_6 ?_
  refine lv_iconst (v := nI 4) hx hb d_MH_restart_9 (by decide) ?_
  refine mh_icmp_lt (tgt := 23) hx hb (by omega) (by omega) d_MH_restart_10 (by decide) (fun _ => ?_) (fun z => absurd z (by omega))
  refine lv_aload_n hx hb d_MH_restart_23 rfl (lv_at hl 0 rfl) ?_
  refine lv_dup hx hb d_MH_restart_24 rfl ?_
  refine mh_get K0 hX r0 f_MH_36 rfl d_MH_restart_25 ?_
  refine lv_iconst (v := nI 1) hx hb d_MH_restart_28 (by decide) ?_
  refine mh_addN hx hb d_MH_restart_29 ?_
  refine mh_put K0 hX hS r0 f_MH_36 p_4_4 rfl rfl (Nat.le_of_ble_eq_true rfl) d_MH_restart_30 (fun H locs hX hS => ?_)
  have hX : mh_P (dC, dI) b (mh_set _ 0 0 (some (x0, .inr (4, [.ref aL, .ref aS, .ref aD, .ref aV, .int (nI ((sg_rs g) + 1))])))) H := hX
  have fs66 := mh_self hX
  refine lv_aload_n hx hb d_MH_restart_33 rfl (lv_at hl 0 rfl) ?_
  refine mh_get K0 hX fs66 f_MH_18 rfl d_MH_restart_34 ?_
  refine lv_iload_n hx hb d_MH_restart_37 rfl (lv_at hl 1 rfl) ?_
  refine mh_aaldN 4 rfl K0 hX (mh_kp r3 (by omega)) (by omega) (by omega) (r := (some au)) (hs1) d_MH_restart_38 ?_
  refine W.eq (g2 := F0 m 39 ls [.ref au]) rfl ?_
  refine mh_callV (mh_sV (rest := []) (av := []) K0 hX (mh_kp s0 (by omega)) rfl e_SV_startOver l_MH_143 k572 k573 rfl rfl d_MH_restart_39) (c_SV_startOver (hs3.to (fun k h1 h2 => by rw [mh_set_ne _ _ _ _ (by omega)]) (fun _ _ => rfl))) K0 hOK hml hl.1 e_SV_startOver hX hS d_MH_restart_39 (Nat.le_of_ble_eq_true rfl) (Nat.le_of_ble_eq_true rfl) (Nat.le_of_ble_eq_true rfl) (Nat.le_of_ble_eq_true rfl) (Nat.le_of_ble_eq_true rfl) (fun w1 H locs ⟨hS2, hF⟩ hX hS => ?_)
  refine W.eq (g2 := F0 m 42 ls []) rfl ?_
  refine lv_iconst (v := nI 0) hx hb d_MH_restart_42 (by decide) ?_
  refine lv_istore_n (lv' := [(2, .int (nI 0)), (0, .ref x0), (1, .int (nI u))]) hx hb d_MH_restart_43 rfl hl (by decide) rfl (fun ls hl => ?_)
  have hx0 := ((hF 0 0 (by omega)).trans fs66)
  have hD0 := ((hF 10 0 (by omega)).trans (mh_kp r10 (by omega)))
  have hwA : ∀ k i, k < 100 → ¬ (k = 0 ∧ i = 0) → ¬ (4 ≤ k ∧ k < 10 ∧ i = u) → w1 k i = w k i := fun k i h0 h1 h2 => by rw [hF _ _ (by omega), mh_set_ne _ _ _ _ (by omega)]
  have LP : ∀ (n : Nat) (j : Nat) (w2 : mh_w) (dr1 : Nat → Option Nat) (H : Heap) (locs : List Loc) (ls : Array Slot), mh_P (dC, dI) b w2 H → va_S (mh_A b) s.heap H locs → lv_has ls 3 [(2, .int (nI j)), (0, .ref x0), (1, .int (nI u))] → (j + n = 16) → (∀ z, z < 16 → dr1 z = if z < j then (match sg_dr g z with | some x => if iv_sv x = u then none else dr z | none => none) else dr z) → (w2 10 0 = some (aD, .inl (dA 5, 16, .inr (.inr (.inr (.inr dr1)))))) → (mh_F w1 w2 10 1 0) → W p l e (mh_rm 8 20 1000) s m ([.ref x0, .int (nI u)]).toArray below meth c H locs (0) (0) (mh_MQ below b dC dI (mh_V none (fun w' => rC dA zs w' x0 (g.1, va_up (sg_at g) u 0, (fun t => match sg_dr g t with | some x => if iv_sv x = u then none else some x | none => none), sg_rs g + 1) ∧ mh_C w w')) ([.ref x0, .int (nI u)]).toArray s 20 1000) (F0 m 44 ls []) := by
    intro n
    induction n with
    | zero =>
      intro j w2 dr1 H locs ls hX hS hl hn9 hdr h10 hF2
      refine lv_iload_n hx hb d_MH_restart_44 rfl (lv_at hl 0 rfl) ?_
      refine lv_bipush (v := nI 16) hx hb d_MH_restart_45 (by decide) ?_
      refine mh_icmp_ge (tgt := 85) hx hb (by omega) (by omega) d_MH_restart_47 (by decide) (fun _ => ?_) (fun z => absurd z (by omega))
      exact mh_vret K0 hr hlocks hX hS (⟨rfl, ⟨aL, aS, aD, aV, sv, dr1, vw, lg, hP.rs (fun k i a1 a2 a3 a4 => (hF2 k i (by omega)).trans (hwA k i (by omega) a2 a4)) ((hF2 0 0 (by omega)).trans hx0) h10 (fun z hz => by rw [hdr z hz, if_pos (by omega)]) ⟨au, hs1, rS.to hS2 (fun k a1 a2 => hF2 k u (by omega)) (fun _ _ => rfl) (fun _ _ => rfl)⟩⟩, fun k i a1 a2 => (hF2 k i (by omega)).trans (by rw [hF _ _ (by omega), mh_set_ne _ _ _ _ (by omega)])⟩) (Nat.le_of_ble_eq_true rfl) (Nat.le_of_ble_eq_true rfl) d_MH_restart_85
    | succ n ih =>
      intro j w2 dr1 H locs ls hX hS hl hn9 hdr h10 hF2
      refine lv_iload_n hx hb d_MH_restart_44 rfl (lv_at hl 0 rfl) ?_
      refine lv_bipush (v := nI 16) hx hb d_MH_restart_45 (by decide) ?_
      refine mh_icmp_ge (tgt := 85) hx hb (by omega) (by omega) d_MH_restart_47 (by decide) (fun z => absurd z (by omega)) (fun _ => ?_)
      refine lv_aload_n hx hb d_MH_restart_50 rfl (lv_at hl 1 rfl) ?_
      refine mh_get K0 hX ((hF2 0 0 (by omega)).trans hx0) f_MH_25 rfl d_MH_restart_51 ?_
      refine lv_iload_n hx hb d_MH_restart_54 rfl (lv_at hl 0 rfl) ?_
      have hdj := hdr j (by omega)
      rw [if_neg (Nat.lt_irrefl j)] at hdj
      cases e9 : sg_dr g j with
      | none =>
        refine mh_aaldN 5 rfl K0 hX h10 (by omega) (by omega) (r := none) (hdj.trans ((rd j (by omega)).none e9)) d_MH_restart_55 ?_
        refine W.eq (g2 := F0 m 56 ls [.null]) rfl ?_
        refine lv_ifnullN (tgt := 79) hx hb d_MH_restart_56 (by decide) ?_
        refine lv_iinc (v := nI (j + 1)) (k := 0) (lv' := [(2, .int (nI (j + 1))), (0, .ref x0), (1, .int (nI u))]) hx hb d_MH_restart_79 hl rfl (mh_inc j) (by decide) rfl (fun ls hl => ?_)
        refine lv_goto (tgt := 44) hx hb d_MH_restart_82 (by decide) ?_
        refine ih (j + 1) _ _ _ _ _ hX hS hl (by omega) (fun z hz => ?_) h10 hF2
        by_cases e8 : z = j
        · rw [e8, if_pos (by omega), e9]; exact hdj.trans ((rd j (by omega)).none e9)
        · rw [hdr z hz]; by_cases e7 : z < j; (rw [if_pos e7, if_pos (by omega)]); (rw [if_neg e7, if_neg (by omega)])
      | some x =>
        obtain ⟨yy, hy1, hy2⟩ := (rd j (by omega)).some e9
        obtain ⟨d1, d3, d4, d5, d6, d7, j0⟩ := hy2.fst
        have ho := gdr j x (by omega) e9
        have ho1 := ho.1
        refine mh_aaldN 5 rfl K0 hX h10 (by omega) (by omega) (r := (some yy)) (hdj.trans hy1) d_MH_restart_55 ?_
        refine W.eq (g2 := F0 m 56 ls [.ref yy]) rfl ?_
        refine lv_ifnull hx hb d_MH_restart_56 ?_
        refine lv_aload_n hx hb d_MH_restart_59 rfl (lv_at hl 1 rfl) ?_
        refine mh_get K0 hX ((hF2 0 0 (by omega)).trans hx0) f_MH_25 rfl d_MH_restart_60 ?_
        refine lv_iload_n hx hb d_MH_restart_63 rfl (lv_at hl 0 rfl) ?_
        refine mh_aaldN 5 rfl K0 hX h10 (by omega) (by omega) (r := (some yy)) (hdj.trans hy1) d_MH_restart_64 ?_
        refine W.eq (g2 := F0 m 65 ls [.ref yy]) rfl ?_
        refine mh_get K0 hX ((hF2 16 j (by omega)).trans ((hwA 16 j (by omega) (by omega) (by omega)).trans j0)) f_MH_146 rfl d_MH_restart_65 ?_
        refine lv_iload_n hx hb d_MH_restart_68 rfl (lv_at hl 2 rfl) ?_
        refine mh_icmp_ne (tgt := 79) hx hb (by omega) (by omega) d_MH_restart_69 (by decide) (fun ct => ?_) (fun cf => ?_)
        · skip
          refine lv_iinc (v := nI (j + 1)) (k := 0) (lv' := [(2, .int (nI (j + 1))), (0, .ref x0), (1, .int (nI u))]) hx hb d_MH_restart_79 hl rfl (mh_inc j) (by decide) rfl (fun ls hl => ?_)
          refine lv_goto (tgt := 44) hx hb d_MH_restart_82 (by decide) ?_
          refine ih (j + 1) _ _ _ _ _ hX hS hl (by omega) (fun z hz => ?_) h10 hF2
          by_cases e8 : z = j
          · rw [e8, if_pos (by omega), e9]; rw [hdj]; simp only [if_neg ct]
          · rw [hdr z hz]; by_cases e7 : z < j; (rw [if_pos e7, if_pos (by omega)]); (rw [if_neg e7, if_neg (by omega)])
        · skip
          refine lv_aload_n hx hb d_MH_restart_72 rfl (lv_at hl 1 rfl) ?_
          refine mh_get K0 hX ((hF2 0 0 (by omega)).trans hx0) f_MH_25 rfl d_MH_restart_73 ?_
          refine lv_iload_n hx hb d_MH_restart_76 rfl (lv_at hl 0 rfl) ?_
          refine lv_null hx hb d_MH_restart_77 ?_
          refine mh_aastNN 5 rfl K0 hX hS h10 (by omega) (by omega) d_MH_restart_78 (fun H locs hX hS => ?_)
          have fs67 := mh_self hX
          refine lv_iinc (v := nI (j + 1)) (k := 0) (lv' := [(2, .int (nI (j + 1))), (0, .ref x0), (1, .int (nI u))]) hx hb d_MH_restart_79 hl rfl (mh_inc j) (by decide) rfl (fun ls hl => ?_)
          refine lv_goto (tgt := 44) hx hb d_MH_restart_82 (by decide) ?_
          refine ih (j + 1) _ _ _ _ _ hX hS hl (by omega) (fun z hz => ?_) fs67 (hF2.set (by omega) (by omega))
          by_cases e8 : z = j
          · rw [e8, if_pos (by omega), e9]; rw [va_up_self]; simp only [if_pos cf]
          · rw [va_up_ne _ _ e8]; rw [hdr z hz]; by_cases e7 : z < j; (rw [if_pos e7, if_pos (by omega)]); (rw [if_neg e7, if_neg (by omega)])
  exact LP 16 0 _ _ _ _ _ hX hS hl rfl (fun z hz => by rw [if_neg (Nat.not_lt_zero z)]) hD0 mh_F.rf
