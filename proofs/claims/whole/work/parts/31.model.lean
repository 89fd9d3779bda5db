/-! THE REFERENCE'S WORLD -/
theorem pb_cnt_zero (n : Nat) : pb_cnt (fun _ => false) n = 0 := by
  induction n with
  | zero => rfl
  | succ n ih => rw [pb_cnt, ih]; rfl
def mh_D (w w' : mh_w) : Prop := ∀ k i, ¬ (50 ≤ k ∧ k < 80) → w' k i = w k i
def rW (dA : Nat → ClassId) (w : mh_w) (k i a : Nat) (x : st_I) (op : Bool) : Prop := ∃ (a1 a2 a3 a4 a5 a6 : Nat) (rdf lo hi wk no : Nat → Int32) (nn : Nat → Int64),
  w k i = some (a, .inr (6, [.int (nI (iv_sn x)), .int (nI (iv_lv x)), .int (nI (iv_sv x)), .int (nI (iv_np x)), .int (nI (iv_nw x)), .int (nI (pb_cnt (iv_rd x) 256)), .int (mh_b op), .int (mh_b (iv_gd x)), .ref a1, .ref a2, .ref a3, .ref a4, .ref a5, .ref a6])) ∧
  w (k + 1) i = some (a1, .inl (dA 2, 256, .inl rdf)) ∧ w (k + 2) i = some (a2, .inl (dA 0, 8, .inl lo)) ∧ w (k + 3) i = some (a3, .inl (dA 0, 8, .inl hi)) ∧ w (k + 4) i = some (a4, .inl (dA 0, 8, .inl wk)) ∧ w (k + 5) i = some (a5, .inl (dA 1, 8, .inr (.inl nn))) ∧ w (k + 6) i = some (a6, .inl (dA 2, 8, .inl no)) ∧
  (∀ j, j < 256 → rdf j = mh_b (iv_rd x j)) ∧ (∀ j, j < iv_np x → lo j = nI (iv_lo x j) ∧ hi j = nI (iv_hi x j)) ∧ ∀ j, j < iv_nw x → wk j = nI (iv_wk x j) ∧ no j = mh_b (!(iv_wv x j).isSome) ∧ ∀ v, iv_wv x j = some v → nn j = v
theorem rW.to {dA : Nat → ClassId} {w w' : mh_w} {k i k' i' a : Nat} {x : st_I} {op : Bool} (h : rW dA w k i a x op) (h1 : ∀ z, z < 7 → w' (k' + z) i' = w (k + z) i) : rW dA w' k' i' a x op := by
  obtain ⟨a1, a2, a3, a4, a5, a6, rdf, lo, hi, wk, no, nn, e0, e1, e2, e3, e4, e5, e6, e7, e8, e9⟩ := h
  exact ⟨a1, a2, a3, a4, a5, a6, rdf, lo, hi, wk, no, nn, (h1 0 (by omega)).trans e0, (h1 1 (by omega)).trans e1, (h1 2 (by omega)).trans e2, (h1 3 (by omega)).trans e3, (h1 4 (by omega)).trans e4, (h1 5 (by omega)).trans e5, (h1 6 (by omega)).trans e6, e7, e8, e9⟩
theorem rW.mv {dA : Nat → ClassId} {w w' : mh_w} {k i a : Nat} {x : st_I} {op : Bool} (h : rW dA w k i a x op) (h1 : ∀ z, z < 7 → w' (k + z) i = w (k + z) i) : rW dA w' k i a x op := h.to h1
theorem rW.fst {dA : Nat → ClassId} {w : mh_w} {k i a : Nat} {x : st_I} {op : Bool} (h : rW dA w k i a x op) : ∃ (a1 a2 a3 a4 a5 a6 : Nat), w k i = some (a, .inr (6, [.int (nI (iv_sn x)), .int (nI (iv_lv x)), .int (nI (iv_sv x)), .int (nI (iv_np x)), .int (nI (iv_nw x)), .int (nI (pb_cnt (iv_rd x) 256)), .int (mh_b op), .int (mh_b (iv_gd x)), .ref a1, .ref a2, .ref a3, .ref a4, .ref a5, .ref a6])) := by
  obtain ⟨a1, a2, a3, a4, a5, a6, rdf, lo, hi, wk, no, nn, e0, -⟩ := h
  exact ⟨a1, a2, a3, a4, a5, a6, e0⟩
/-- what the scratch arrays say -/
def rT (dA : Nat → ClassId) (w : mh_w) (aV aH : Nat) (st : Nat → Option Int64) : Prop := ∃ (vf : Nat → Int64) (hf : Nat → Int32), w 54 0 = some (aV, .inl (dA 1, 256, .inr (.inl vf))) ∧ w 55 0 = some (aH, .inl (dA 2, 256, .inl hf)) ∧ ∀ j, j < 256 → hf j = mh_b (st j).isSome ∧ ∀ v, st j = some v → vf j = v
def rQ (dA : Nat → ClassId) (w : mh_w) (m0 : Nat) (er : Int32) (g : st_G) (aG aO aA aV aH : Nat) (lg op : Nat → Option Nat) (at_ : Nat → Int32) : Prop :=
  w 50 0 = some (m0, .inr (7, [.int er, .ref aG, .ref aO, .ref aA, .ref aV, .ref aH, .int (nI (sg_n g)), .int (nI (sg_rs g))])) ∧ w 51 0 = some (aG, .inl (dA 7, 400, .inr (.inr (.inr (.inr lg))))) ∧ w 52 0 = some (aO, .inl (dA 7, 16, .inr (.inr (.inr (.inr op))))) ∧ w 53 0 = some (aA, .inl (dA 0, 4, .inl at_)) ∧
  (∃ vf, w 54 0 = some (aV, .inl (dA 1, 256, .inr (.inl vf)))) ∧ (∃ hf, w 55 0 = some (aH, .inl (dA 2, 256, .inl hf))) ∧ (∀ u, u < 4 → at_ u = nI (sg_at g u)) ∧
  (∀ t, t < 16 → ∃ a x, op t = some a ∧ rW dA w 56 t a x (sg_dr g t).isSome ∧ iv_ok 400 x ∧ ∀ x', sg_dr g t = some x' → x' = x) ∧ ∀ i, i < sg_n g → ∃ a, lg i = some a ∧ rW dA w 66 i a (sg_lg g i) false
def rM (dA : Nat → ClassId) (w : mh_w) (m0 : Nat) (er : Int32) (g : st_G) : Prop := ∃ (aG aO aA aV aH : Nat) (lg op : Nat → Option Nat) (at_ : Nat → Int32), rQ dA w m0 er g aG aO aA aV aH lg op at_
/-- the scratch arrays and the error have changed -/
theorem rQ.sc {dA : Nat → ClassId} {w w' : mh_w} {m0 : Nat} {er er' : Int32} {g : st_G} {aG aO aA aV aH : Nat} {lg op : Nat → Option Nat} {at_ : Nat → Int32} (h : rQ dA w m0 er g aG aO aA aV aH lg op at_) (hw : ∀ k i, 50 < k → k < 80 → k ≠ 54 → k ≠ 55 → w' k i = w k i) (h50 : w' 50 0 = some (m0, .inr (7, [.int er', .ref aG, .ref aO, .ref aA, .ref aV, .ref aH, .int (nI (sg_n g)), .int (nI (sg_rs g))])))
    (h54 : ∃ vf, w' 54 0 = some (aV, .inl (dA 1, 256, .inr (.inl vf)))) (h55 : ∃ hf, w' 55 0 = some (aH, .inl (dA 2, 256, .inl hf))) : rQ dA w' m0 er' g aG aO aA aV aH lg op at_ := by
  obtain ⟨r50, r51, r52, r53, r54, r55, ra, ro, rl⟩ := h
  refine ⟨h50, (hw 51 0 (by omega) (by omega) (by omega) (by omega)).trans r51, (hw 52 0 (by omega) (by omega) (by omega) (by omega)).trans r52, (hw 53 0 (by omega) (by omega) (by omega) (by omega)).trans r53, h54, h55, ra, fun t ht => ?_, fun i hi => ?_⟩
  · obtain ⟨a, x, e1, e2, e3⟩ := ro t ht
    exact ⟨a, x, e1, e2.to (fun z hz => hw (56 + z) t (by omega) (by omega) (by omega) (by omega)), e3⟩
  · obtain ⟨a, e1, e2⟩ := rl i hi
    exact ⟨a, e1, e2.to (fun z hz => hw (66 + z) i (by omega) (by omega) (by omega) (by omega))⟩
theorem rM.to {dA : Nat → ClassId} {w w' : mh_w} {m0 : Nat} {er : Int32} {g : st_G} (h : rM dA w m0 er g) (hw : ∀ k i, 50 ≤ k → k < 80 → w' k i = w k i) : rM dA w' m0 er g := by
  obtain ⟨aG, aO, aA, aV, aH, lg, op, at_, h⟩ := h
  obtain ⟨vf, h54⟩ := h.2.2.2.2.1
  obtain ⟨hf, h55⟩ := h.2.2.2.2.2.1
  exact ⟨aG, aO, aA, aV, aH, lg, op, at_, h.sc (fun k i h1 h2 _ _ => hw k i (by omega) h2) ((hw 50 0 (by omega) (by omega)).trans h.1) ⟨vf, (hw 54 0 (by omega) (by omega)).trans h54⟩ ⟨hf, (hw 55 0 (by omega) (by omega)).trans h55⟩⟩
/-- transaction t's work has changed -/
theorem rQ.tx {dA : Nat → ClassId} {w w' : mh_w} {m0 : Nat} {er er' : Int32} {g : st_G} {aG aO aA aV aH : Nat} {lg op : Nat → Option Nat} {at_ : Nat → Int32} (h : rQ dA w m0 er g aG aO aA aV aH lg op at_) {t : Nat} {d' : Option st_I} {a : Nat} {x : st_I} (hw : ∀ k i, 50 < k → k < 80 → k ≠ 54 → k ≠ 55 → ¬ (56 ≤ k ∧ k < 63 ∧ i = t) → w' k i = w k i) (h50 : w' 50 0 = some (m0, .inr (7, [.int er', .ref aG, .ref aO, .ref aA, .ref aV, .ref aH, .int (nI (sg_n g)), .int (nI (sg_rs g))])))
    (h54 : ∃ vf, w' 54 0 = some (aV, .inl (dA 1, 256, .inr (.inl vf)))) (h55 : ∃ hf, w' 55 0 = some (aH, .inl (dA 2, 256, .inl hf))) (ha : op t = some a) (hW : rW dA w' 56 t a x d'.isSome) (ho : iv_ok 400 x) (hd : ∀ x', d' = some x' → x' = x) : rQ dA w' m0 er' (g.1, g.2.1, va_up (sg_dr g) t d', g.2.2.2) aG aO aA aV aH lg op at_ := by
  obtain ⟨r50, r51, r52, r53, r54, r55, ra, ro, rl⟩ := h
  refine ⟨h50, (hw 51 0 (by omega) (by omega) (by omega) (by omega) (by omega)).trans r51, (hw 52 0 (by omega) (by omega) (by omega) (by omega) (by omega)).trans r52, (hw 53 0 (by omega) (by omega) (by omega) (by omega) (by omega)).trans r53, h54, h55, ra, fun z hz => ?_, fun i hi => ?_⟩
  · show ∃ a x, op z = some a ∧ rW dA w' 56 z a x (va_up (sg_dr g) t d' z).isSome ∧ iv_ok 400 x ∧ ∀ x', va_up (sg_dr g) t d' z = some x' → x' = x
    by_cases e : z = t
    · subst e; rw [va_up_self]; exact ⟨a, x, ha, hW, ho, hd⟩
    · rw [va_up_ne _ _ e]
      obtain ⟨a, x, e1, e2, e3⟩ := ro z hz
      exact ⟨a, x, e1, e2.to (fun q hq => hw (56 + q) z (by omega) (by omega) (by omega) (by omega) (by omega)), e3⟩
  · obtain ⟨a, e1, e2⟩ := rl i hi
    exact ⟨a, e1, e2.to (fun z hz => hw (66 + z) i (by omega) (by omega) (by omega) (by omega) (by omega))⟩
theorem st_pl_st {wk : Nat → Nat} {key n j : Nat} (h : j ≤ st_pl wk key n) (hj : j < n) (hne : ¬ wk j = key) : j < st_pl wk key n := by
  rcases Nat.lt_or_ge j (st_pl wk key n) with q | q
  · exact q
  · have e : j = st_pl wk key n := by omega
    exact absurd (by rw [e]; exact st_pl_at (by omega)) hne
theorem st_pl_hit {wk : Nat → Nat} {key n j : Nat} (h : j ≤ st_pl wk key n) (he : wk j = key) : j = st_pl wk key n := by
  rcases Nat.lt_or_ge j (st_pl wk key n) with q | q
  · exact absurd he (st_pl_ne q)
  · omega
theorem tl_l_k {st : Nat → Option Int64} {low j : Nat} (h : (st (low + j)).isSome = false) : tl_l st low (j + 1) = tl_l st low j := by
  cases e : tl_l st low j with
  | none => exact tl_l_f e h
  | some k => exact tl_l_on (n := 1) e
theorem tl_l_lt {st : Nat → Option Int64} {low j q : Nat} (h : tl_l st low j = some q) : q < low + j := by
  induction j with
  | zero => cases h
  | succ j ih =>
    cases e : tl_l st low j with
    | some k =>
      rw [tl_l_on (n := 1) e] at h
      cases h
      have := ih e
      omega
    | none =>
      rw [tl_l, e] at h
      by_cases c : (st (low + j)).isSome = true
      · simp only [if_pos c] at h; cases h; omega
      · simp only [if_neg c] at h; cases h
theorem d_WK_init_0 : decode b_WK_init 0 = .ok (.aload_n 0, 1) := by decide +kernel
theorem d_WK_init_1 : decode b_WK_init 1 = .ok (.invokespecial 3, 3) := by decide +kernel
theorem d_WK_init_4 : decode b_WK_init 4 = .ok (.aload_n 0, 1) := by decide +kernel
theorem d_WK_init_5 : decode b_WK_init 5 = .ok (.sipush 256, 3) := by decide +kernel
theorem d_WK_init_8 : decode b_WK_init 8 = .ok (.newarray .boolean, 2) := by decide +kernel
theorem d_WK_init_10 : decode b_WK_init 10 = .ok (.putfield 9, 3) := by decide +kernel
theorem d_WK_init_13 : decode b_WK_init 13 = .ok (.aload_n 0, 1) := by decide +kernel
theorem d_WK_init_14 : decode b_WK_init 14 = .ok (.bipush 8, 2) := by decide +kernel
theorem d_WK_init_16 : decode b_WK_init 16 = .ok (.newarray .int, 2) := by decide +kernel
theorem d_WK_init_18 : decode b_WK_init 18 = .ok (.putfield 15, 3) := by decide +kernel
theorem d_WK_init_21 : decode b_WK_init 21 = .ok (.aload_n 0, 1) := by decide +kernel
theorem d_WK_init_22 : decode b_WK_init 22 = .ok (.bipush 8, 2) := by decide +kernel
theorem d_WK_init_24 : decode b_WK_init 24 = .ok (.newarray .int, 2) := by decide +kernel
theorem d_WK_init_26 : decode b_WK_init 26 = .ok (.putfield 19, 3) := by decide +kernel
theorem d_WK_init_29 : decode b_WK_init 29 = .ok (.aload_n 0, 1) := by decide +kernel
theorem d_WK_init_30 : decode b_WK_init 30 = .ok (.bipush 8, 2) := by decide +kernel
theorem d_WK_init_32 : decode b_WK_init 32 = .ok (.newarray .int, 2) := by decide +kernel
theorem d_WK_init_34 : decode b_WK_init 34 = .ok (.putfield 22, 3) := by decide +kernel
theorem d_WK_init_37 : decode b_WK_init 37 = .ok (.aload_n 0, 1) := by decide +kernel
theorem d_WK_init_38 : decode b_WK_init 38 = .ok (.bipush 8, 2) := by decide +kernel
theorem d_WK_init_40 : decode b_WK_init 40 = .ok (.newarray .long, 2) := by decide +kernel
theorem d_WK_init_42 : decode b_WK_init 42 = .ok (.putfield 25, 3) := by decide +kernel
theorem d_WK_init_45 : decode b_WK_init 45 = .ok (.aload_n 0, 1) := by decide +kernel
theorem d_WK_init_46 : decode b_WK_init 46 = .ok (.bipush 8, 2) := by decide +kernel
theorem d_WK_init_48 : decode b_WK_init 48 = .ok (.newarray .boolean, 2) := by decide +kernel
theorem d_WK_init_50 : decode b_WK_init 50 = .ok (.putfield 29, 3) := by decide +kernel
theorem d_WK_init_53 : decode b_WK_init 53 = .ok (.return_, 1) := by decide +kernel
theorem d_WK_clear_0 : decode b_WK_clear 0 = .ok (.aload_n 0, 1) := by decide +kernel
theorem d_WK_clear_1 : decode b_WK_clear 1 = .ok (.iconst 0, 1) := by decide +kernel
theorem d_WK_clear_2 : decode b_WK_clear 2 = .ok (.putfield 32, 3) := by decide +kernel
theorem d_WK_clear_5 : decode b_WK_clear 5 = .ok (.aload_n 0, 1) := by decide +kernel
theorem d_WK_clear_6 : decode b_WK_clear 6 = .ok (.iconst 0, 1) := by decide +kernel
theorem d_WK_clear_7 : decode b_WK_clear 7 = .ok (.putfield 36, 3) := by decide +kernel
theorem d_WK_clear_10 : decode b_WK_clear 10 = .ok (.aload_n 0, 1) := by decide +kernel
theorem d_WK_clear_11 : decode b_WK_clear 11 = .ok (.iconst 0, 1) := by decide +kernel
theorem d_WK_clear_12 : decode b_WK_clear 12 = .ok (.putfield 39, 3) := by decide +kernel
theorem d_WK_clear_15 : decode b_WK_clear 15 = .ok (.aload_n 0, 1) := by decide +kernel
theorem d_WK_clear_16 : decode b_WK_clear 16 = .ok (.iconst 0, 1) := by decide +kernel
theorem d_WK_clear_17 : decode b_WK_clear 17 = .ok (.putfield 42, 3) := by decide +kernel
theorem d_WK_clear_20 : decode b_WK_clear 20 = .ok (.iconst 0, 1) := by decide +kernel
theorem d_WK_clear_21 : decode b_WK_clear 21 = .ok (.istore_n 1, 1) := by decide +kernel
theorem d_WK_clear_22 : decode b_WK_clear 22 = .ok (.iload_n 1, 1) := by decide +kernel
theorem d_WK_clear_23 : decode b_WK_clear 23 = .ok (.sipush 256, 3) := by decide +kernel
theorem d_WK_clear_26 : decode b_WK_clear 26 = .ok (.if_icmp .ge 16, 3) := by decide +kernel
theorem d_WK_clear_42 : decode b_WK_clear 42 = .ok (.return_, 1) := by decide +kernel
theorem d_WK_clear_29 : decode b_WK_clear 29 = .ok (.aload_n 0, 1) := by decide +kernel
theorem d_WK_clear_30 : decode b_WK_clear 30 = .ok (.getfield 9, 3) := by decide +kernel
theorem d_WK_clear_33 : decode b_WK_clear 33 = .ok (.iload_n 1, 1) := by decide +kernel
theorem d_WK_clear_34 : decode b_WK_clear 34 = .ok (.iconst 0, 1) := by decide +kernel
theorem d_WK_clear_35 : decode b_WK_clear 35 = .ok (.bastore, 1) := by decide +kernel
theorem d_WK_clear_36 : decode b_WK_clear 36 = .ok (.iinc 1 1, 3) := by decide +kernel
theorem d_WK_clear_39 : decode b_WK_clear 39 = .ok (.goto (-17), 3) := by decide +kernel
theorem d_WK_written_0 : decode b_WK_written 0 = .ok (.iconst 0, 1) := by decide +kernel
theorem d_WK_written_1 : decode b_WK_written 1 = .ok (.istore_n 2, 1) := by decide +kernel
theorem d_WK_written_2 : decode b_WK_written 2 = .ok (.iload_n 2, 1) := by decide +kernel
theorem d_WK_written_3 : decode b_WK_written 3 = .ok (.aload_n 0, 1) := by decide +kernel
theorem d_WK_written_4 : decode b_WK_written 4 = .ok (.getfield 36, 3) := by decide +kernel
theorem d_WK_written_7 : decode b_WK_written 7 = .ok (.if_icmp .ge 21, 3) := by decide +kernel
theorem d_WK_written_28 : decode b_WK_written 28 = .ok (.iconst (-1), 1) := by decide +kernel
theorem d_WK_written_10 : decode b_WK_written 10 = .ok (.aload_n 0, 1) := by decide +kernel
theorem d_WK_written_11 : decode b_WK_written 11 = .ok (.getfield 22, 3) := by decide +kernel
theorem d_WK_written_14 : decode b_WK_written 14 = .ok (.iload_n 2, 1) := by decide +kernel
theorem d_WK_written_15 : decode b_WK_written 15 = .ok (.iaload, 1) := by decide +kernel
theorem d_WK_written_16 : decode b_WK_written 16 = .ok (.iload_n 1, 1) := by decide +kernel
theorem d_WK_written_17 : decode b_WK_written 17 = .ok (.if_icmp .ne 5, 3) := by decide +kernel
theorem d_WK_written_22 : decode b_WK_written 22 = .ok (.iinc 2 1, 3) := by decide +kernel
theorem d_WK_written_25 : decode b_WK_written 25 = .ok (.goto (-23), 3) := by decide +kernel
theorem d_WK_written_20 : decode b_WK_written 20 = .ok (.iload_n 2, 1) := by decide +kernel
theorem d_WK_written_21 : decode b_WK_written 21 = .ok (.ireturn, 1) := by decide +kernel
theorem d_WK_written_29 : decode b_WK_written 29 = .ok (.ireturn, 1) := by decide +kernel
theorem d_MM_thrown_0 : decode b_MM_thrown 0 = .ok (.aload_n 0, 1) := by decide +kernel
theorem d_MM_thrown_1 : decode b_MM_thrown 1 = .ok (.getfield 31, 3) := by decide +kernel
theorem d_MM_thrown_4 : decode b_MM_thrown 4 = .ok (.ireturn, 1) := by decide +kernel
theorem d_MM_fails_0 : decode b_MM_fails 0 = .ok (.aload_n 0, 1) := by decide +kernel
theorem d_MM_fails_1 : decode b_MM_fails 1 = .ok (.iload_n 1, 1) := by decide +kernel
theorem d_MM_fails_2 : decode b_MM_fails 2 = .ok (.ifCond .eq 7, 3) := by decide +kernel
theorem d_MM_fails_5 : decode b_MM_fails 5 = .ok (.iload_n 2, 1) := by decide +kernel
theorem d_MM_fails_6 : decode b_MM_fails 6 = .ok (.goto 4, 3) := by decide +kernel
theorem d_MM_fails_10 : decode b_MM_fails 10 = .ok (.putfield 31, 3) := by decide +kernel
theorem d_MM_fails_13 : decode b_MM_fails 13 = .ok (.iload_n 1, 1) := by decide +kernel
theorem d_MM_fails_14 : decode b_MM_fails 14 = .ok (.ireturn, 1) := by decide +kernel
theorem d_MM_fails_9 : decode b_MM_fails 9 = .ok (.iconst 0, 1) := by decide +kernel
theorem d_MM_in_0 : decode b_MM_in 0 = .ok (.iload_n 0, 1) := by decide +kernel
theorem d_MM_in_1 : decode b_MM_in 1 = .ok (.ifCond .lt 12, 3) := by decide +kernel
theorem d_MM_in_13 : decode b_MM_in 13 = .ok (.iconst 0, 1) := by decide +kernel
theorem d_MM_in_14 : decode b_MM_in 14 = .ok (.ireturn, 1) := by decide +kernel
theorem d_MM_in_4 : decode b_MM_in 4 = .ok (.iload_n 0, 1) := by decide +kernel
theorem d_MM_in_5 : decode b_MM_in 5 = .ok (.iload_n 1, 1) := by decide +kernel
theorem d_MM_in_6 : decode b_MM_in 6 = .ok (.if_icmp .ge 7, 3) := by decide +kernel
theorem d_MM_in_9 : decode b_MM_in 9 = .ok (.iconst 1, 1) := by decide +kernel
theorem d_MM_in_10 : decode b_MM_in 10 = .ok (.goto 4, 3) := by decide +kernel
theorem d_MM_bad_0 : decode b_MM_bad 0 = .ok (.iload_n 0, 1) := by decide +kernel
theorem d_MM_bad_1 : decode b_MM_bad 1 = .ok (.sipush 256, 3) := by decide +kernel
theorem d_MM_bad_4 : decode b_MM_bad 4 = .ok (.invokestatic 53, 3) := by decide +kernel
theorem d_MM_bad_7 : decode b_MM_bad 7 = .ok (.ifCond .eq 26, 3) := by decide +kernel
theorem d_MM_bad_33 : decode b_MM_bad 33 = .ok (.iconst 1, 1) := by decide +kernel
theorem d_MM_bad_34 : decode b_MM_bad 34 = .ok (.goto 4, 3) := by decide +kernel
theorem d_MM_bad_38 : decode b_MM_bad 38 = .ok (.ireturn, 1) := by decide +kernel
theorem d_MM_bad_10 : decode b_MM_bad 10 = .ok (.iload_n 1, 1) := by decide +kernel
theorem d_MM_bad_11 : decode b_MM_bad 11 = .ok (.sipush 256, 3) := by decide +kernel
theorem d_MM_bad_14 : decode b_MM_bad 14 = .ok (.invokestatic 53, 3) := by decide +kernel
theorem d_MM_bad_17 : decode b_MM_bad 17 = .ok (.ifCond .eq 16, 3) := by decide +kernel
theorem d_MM_bad_20 : decode b_MM_bad 20 = .ok (.iload_n 0, 1) := by decide +kernel
theorem d_MM_bad_21 : decode b_MM_bad 21 = .ok (.iload_n 1, 1) := by decide +kernel
theorem d_MM_bad_22 : decode b_MM_bad 22 = .ok (.if_icmp .gt 11, 3) := by decide +kernel
theorem d_MM_bad_25 : decode b_MM_bad 25 = .ok (.iload_n 2, 1) := by decide +kernel
theorem d_MM_bad_26 : decode b_MM_bad 26 = .ok (.iconst 4, 1) := by decide +kernel
theorem d_MM_bad_27 : decode b_MM_bad 27 = .ok (.invokestatic 53, 3) := by decide +kernel
theorem d_MM_bad_30 : decode b_MM_bad 30 = .ok (.ifCond .ne 7, 3) := by decide +kernel
theorem d_MM_bad_37 : decode b_MM_bad 37 = .ok (.iconst 0, 1) := by decide +kernel
theorem d_MM_apply_0 : decode b_MM_apply 0 = .ok (.iconst 0, 1) := by decide +kernel
theorem d_MM_apply_1 : decode b_MM_apply 1 = .ok (.istore_n 2, 1) := by decide +kernel
theorem d_MM_apply_2 : decode b_MM_apply 2 = .ok (.iload_n 2, 1) := by decide +kernel
theorem d_MM_apply_3 : decode b_MM_apply 3 = .ok (.aload_n 1, 1) := by decide +kernel
theorem d_MM_apply_4 : decode b_MM_apply 4 = .ok (.getfield 43, 3) := by decide +kernel
theorem d_MM_apply_7 : decode b_MM_apply 7 = .ok (.if_icmp .ge 51, 3) := by decide +kernel
theorem d_MM_apply_58 : decode b_MM_apply 58 = .ok (.return_, 1) := by decide +kernel
theorem d_MM_apply_10 : decode b_MM_apply 10 = .ok (.aload_n 0, 1) := by decide +kernel
theorem d_MM_apply_11 : decode b_MM_apply 11 = .ok (.getfield 22, 3) := by decide +kernel
theorem d_MM_apply_14 : decode b_MM_apply 14 = .ok (.aload_n 1, 1) := by decide +kernel
theorem d_MM_apply_15 : decode b_MM_apply 15 = .ok (.getfield 46, 3) := by decide +kernel
theorem d_MM_apply_18 : decode b_MM_apply 18 = .ok (.iload_n 2, 1) := by decide +kernel
theorem d_MM_apply_19 : decode b_MM_apply 19 = .ok (.iaload, 1) := by decide +kernel
theorem d_MM_apply_20 : decode b_MM_apply 20 = .ok (.aload_n 1, 1) := by decide +kernel
theorem d_MM_apply_21 : decode b_MM_apply 21 = .ok (.getfield 49, 3) := by decide +kernel
theorem d_MM_apply_24 : decode b_MM_apply 24 = .ok (.iload_n 2, 1) := by decide +kernel
theorem d_MM_apply_25 : decode b_MM_apply 25 = .ok (.laload, 1) := by decide +kernel
theorem d_MM_apply_26 : decode b_MM_apply 26 = .ok (.lastore, 1) := by decide +kernel
theorem d_MM_apply_27 : decode b_MM_apply 27 = .ok (.aload_n 0, 1) := by decide +kernel
theorem d_MM_apply_28 : decode b_MM_apply 28 = .ok (.getfield 26, 3) := by decide +kernel
theorem d_MM_apply_31 : decode b_MM_apply 31 = .ok (.aload_n 1, 1) := by decide +kernel
theorem d_MM_apply_32 : decode b_MM_apply 32 = .ok (.getfield 46, 3) := by decide +kernel
theorem d_MM_apply_35 : decode b_MM_apply 35 = .ok (.iload_n 2, 1) := by decide +kernel
theorem d_MM_apply_36 : decode b_MM_apply 36 = .ok (.iaload, 1) := by decide +kernel
theorem d_MM_apply_37 : decode b_MM_apply 37 = .ok (.aload_n 1, 1) := by decide +kernel
theorem d_MM_apply_38 : decode b_MM_apply 38 = .ok (.getfield 50, 3) := by decide +kernel
theorem d_MM_apply_41 : decode b_MM_apply 41 = .ok (.iload_n 2, 1) := by decide +kernel
theorem d_MM_apply_42 : decode b_MM_apply 42 = .ok (.baload, 1) := by decide +kernel
theorem d_MM_apply_43 : decode b_MM_apply 43 = .ok (.ifCond .ne 7, 3) := by decide +kernel
theorem d_MM_apply_50 : decode b_MM_apply 50 = .ok (.iconst 0, 1) := by decide +kernel
theorem d_MM_apply_51 : decode b_MM_apply 51 = .ok (.bastore, 1) := by decide +kernel
theorem d_MM_apply_52 : decode b_MM_apply 52 = .ok (.iinc 2 1, 3) := by decide +kernel
theorem d_MM_apply_55 : decode b_MM_apply 55 = .ok (.goto (-53), 3) := by decide +kernel
theorem d_MM_apply_46 : decode b_MM_apply 46 = .ok (.iconst 1, 1) := by decide +kernel
theorem d_MM_apply_47 : decode b_MM_apply 47 = .ok (.goto 4, 3) := by decide +kernel
theorem d_MM_upTo_0 : decode b_MM_upTo 0 = .ok (.iconst 0, 1) := by decide +kernel
theorem d_MM_upTo_1 : decode b_MM_upTo 1 = .ok (.istore_n 2, 1) := by decide +kernel
theorem d_MM_upTo_2 : decode b_MM_upTo 2 = .ok (.iload_n 2, 1) := by decide +kernel
theorem d_MM_upTo_3 : decode b_MM_upTo 3 = .ok (.sipush 256, 3) := by decide +kernel
theorem d_MM_upTo_6 : decode b_MM_upTo 6 = .ok (.if_icmp .ge 16, 3) := by decide +kernel
theorem d_MM_upTo_22 : decode b_MM_upTo 22 = .ok (.iconst 0, 1) := by decide +kernel
theorem d_MM_upTo_23 : decode b_MM_upTo 23 = .ok (.istore_n 2, 1) := by decide +kernel
theorem d_MM_upTo_24 : decode b_MM_upTo 24 = .ok (.iload_n 2, 1) := by decide +kernel
theorem d_MM_upTo_25 : decode b_MM_upTo 25 = .ok (.iload_n 1, 1) := by decide +kernel
theorem d_MM_upTo_26 : decode b_MM_upTo 26 = .ok (.if_icmp .ge 31, 3) := by decide +kernel
theorem d_MM_upTo_57 : decode b_MM_upTo 57 = .ok (.return_, 1) := by decide +kernel
theorem d_MM_upTo_29 : decode b_MM_upTo 29 = .ok (.aload_n 0, 1) := by decide +kernel
theorem d_MM_upTo_30 : decode b_MM_upTo 30 = .ok (.getfield 11, 3) := by decide +kernel
theorem d_MM_upTo_33 : decode b_MM_upTo 33 = .ok (.iload_n 2, 1) := by decide +kernel
theorem d_MM_upTo_34 : decode b_MM_upTo 34 = .ok (.aaload, 1) := by decide +kernel
theorem d_MM_upTo_35 : decode b_MM_upTo 35 = .ok (.getfield 35, 3) := by decide +kernel
theorem d_MM_upTo_38 : decode b_MM_upTo 38 = .ok (.ifCond .eq 13, 3) := by decide +kernel
theorem d_MM_upTo_51 : decode b_MM_upTo 51 = .ok (.iinc 2 1, 3) := by decide +kernel
theorem d_MM_upTo_54 : decode b_MM_upTo 54 = .ok (.goto (-30), 3) := by decide +kernel
theorem d_MM_upTo_41 : decode b_MM_upTo 41 = .ok (.aload_n 0, 1) := by decide +kernel
theorem d_MM_upTo_42 : decode b_MM_upTo 42 = .ok (.aload_n 0, 1) := by decide +kernel
theorem d_MM_upTo_43 : decode b_MM_upTo 43 = .ok (.getfield 11, 3) := by decide +kernel
theorem d_MM_upTo_46 : decode b_MM_upTo 46 = .ok (.iload_n 2, 1) := by decide +kernel
theorem d_MM_upTo_47 : decode b_MM_upTo 47 = .ok (.aaload, 1) := by decide +kernel
theorem d_MM_upTo_48 : decode b_MM_upTo 48 = .ok (.invokevirtual 39, 3) := by decide +kernel
theorem d_MM_upTo_9 : decode b_MM_upTo 9 = .ok (.aload_n 0, 1) := by decide +kernel
theorem d_MM_upTo_10 : decode b_MM_upTo 10 = .ok (.getfield 26, 3) := by decide +kernel
theorem d_MM_upTo_13 : decode b_MM_upTo 13 = .ok (.iload_n 2, 1) := by decide +kernel
theorem d_MM_upTo_14 : decode b_MM_upTo 14 = .ok (.iconst 0, 1) := by decide +kernel
theorem d_MM_upTo_15 : decode b_MM_upTo 15 = .ok (.bastore, 1) := by decide +kernel
theorem d_MM_upTo_16 : decode b_MM_upTo 16 = .ok (.iinc 2 1, 3) := by decide +kernel
theorem d_MM_upTo_19 : decode b_MM_upTo 19 = .ok (.goto (-17), 3) := by decide +kernel
theorem d_MM_told_0 : decode b_MM_told 0 = .ok (.lconst 0, 1) := by decide +kernel
theorem d_MM_told_1 : decode b_MM_told 1 = .ok (.lstore 4, 2) := by decide +kernel
theorem d_MM_told_3 : decode b_MM_told 3 = .ok (.iconst 0, 1) := by decide +kernel
theorem d_MM_told_4 : decode b_MM_told 4 = .ok (.istore 6, 2) := by decide +kernel
theorem d_MM_told_6 : decode b_MM_told 6 = .ok (.iconst (-1), 1) := by decide +kernel
theorem d_MM_told_7 : decode b_MM_told 7 = .ok (.istore 7, 2) := by decide +kernel
theorem d_MM_told_9 : decode b_MM_told 9 = .ok (.iconst (-1), 1) := by decide +kernel
theorem d_MM_told_10 : decode b_MM_told 10 = .ok (.istore 8, 2) := by decide +kernel
theorem d_MM_told_12 : decode b_MM_told 12 = .ok (.iload_n 1, 1) := by decide +kernel
theorem d_MM_told_13 : decode b_MM_told 13 = .ok (.istore 9, 2) := by decide +kernel
theorem d_MM_told_15 : decode b_MM_told 15 = .ok (.iload 9, 2) := by decide +kernel
theorem d_MM_told_17 : decode b_MM_told 17 = .ok (.iload_n 2, 1) := by decide +kernel
theorem d_MM_told_18 : decode b_MM_told 18 = .ok (.if_icmp .gt 47, 3) := by decide +kernel
theorem d_MM_told_65 : decode b_MM_told 65 = .ok (.iload_n 3, 1) := by decide +kernel
theorem d_MM_told_66 : decode b_MM_told 66 = .ok (.ifCond .ne 9, 3) := by decide +kernel
theorem d_MM_told_69 : decode b_MM_told 69 = .ok (.iload 6, 2) := by decide +kernel
theorem d_MM_told_71 : decode b_MM_told 71 = .ok (.i2l, 1) := by decide +kernel
theorem d_MM_told_72 : decode b_MM_told 72 = .ok (.goto 27, 3) := by decide +kernel
theorem d_MM_told_99 : decode b_MM_told 99 = .ok (.lreturn, 1) := by decide +kernel
theorem d_MM_told_75 : decode b_MM_told 75 = .ok (.iload_n 3, 1) := by decide +kernel
theorem d_MM_told_76 : decode b_MM_told 76 = .ok (.iconst 1, 1) := by decide +kernel
theorem d_MM_told_77 : decode b_MM_told 77 = .ok (.if_icmp .ne 8, 3) := by decide +kernel
theorem d_MM_told_80 : decode b_MM_told 80 = .ok (.lload 4, 2) := by decide +kernel
theorem d_MM_told_82 : decode b_MM_told 82 = .ok (.goto 17, 3) := by decide +kernel
theorem d_MM_told_85 : decode b_MM_told 85 = .ok (.iload_n 3, 1) := by decide +kernel
theorem d_MM_told_86 : decode b_MM_told 86 = .ok (.iconst 2, 1) := by decide +kernel
theorem d_MM_told_87 : decode b_MM_told 87 = .ok (.if_icmp .ne 9, 3) := by decide +kernel
theorem d_MM_told_90 : decode b_MM_told 90 = .ok (.iload 7, 2) := by decide +kernel
theorem d_MM_told_92 : decode b_MM_told 92 = .ok (.i2l, 1) := by decide +kernel
theorem d_MM_told_93 : decode b_MM_told 93 = .ok (.goto 6, 3) := by decide +kernel
theorem d_MM_told_96 : decode b_MM_told 96 = .ok (.iload 8, 2) := by decide +kernel
theorem d_MM_told_98 : decode b_MM_told 98 = .ok (.i2l, 1) := by decide +kernel
theorem d_MM_told_21 : decode b_MM_told 21 = .ok (.aload_n 0, 1) := by decide +kernel
theorem d_MM_told_22 : decode b_MM_told 22 = .ok (.getfield 26, 3) := by decide +kernel
theorem d_MM_told_25 : decode b_MM_told 25 = .ok (.iload 9, 2) := by decide +kernel
theorem d_MM_told_27 : decode b_MM_told 27 = .ok (.baload, 1) := by decide +kernel
theorem d_MM_told_28 : decode b_MM_told 28 = .ok (.ifCond .eq 31, 3) := by decide +kernel
theorem d_MM_told_59 : decode b_MM_told 59 = .ok (.iinc 9 1, 3) := by decide +kernel
theorem d_MM_told_62 : decode b_MM_told 62 = .ok (.goto (-47), 3) := by decide +kernel
theorem d_MM_told_31 : decode b_MM_told 31 = .ok (.iinc 6 1, 3) := by decide +kernel
theorem d_MM_told_34 : decode b_MM_told 34 = .ok (.lload 4, 2) := by decide +kernel
theorem d_MM_told_36 : decode b_MM_told 36 = .ok (.aload_n 0, 1) := by decide +kernel
theorem d_MM_told_37 : decode b_MM_told 37 = .ok (.getfield 22, 3) := by decide +kernel
theorem d_MM_told_40 : decode b_MM_told 40 = .ok (.iload 9, 2) := by decide +kernel
theorem d_MM_told_42 : decode b_MM_told 42 = .ok (.laload, 1) := by decide +kernel
theorem d_MM_told_43 : decode b_MM_told 43 = .ok (.ladd, 1) := by decide +kernel
theorem d_MM_told_44 : decode b_MM_told 44 = .ok (.lstore 4, 2) := by decide +kernel
theorem d_MM_told_46 : decode b_MM_told 46 = .ok (.iload 9, 2) := by decide +kernel
theorem d_MM_told_48 : decode b_MM_told 48 = .ok (.istore 8, 2) := by decide +kernel
theorem d_MM_told_50 : decode b_MM_told 50 = .ok (.iload 7, 2) := by decide +kernel
theorem d_MM_told_52 : decode b_MM_told 52 = .ok (.ifCond .ge 7, 3) := by decide +kernel
theorem d_MM_told_55 : decode b_MM_told 55 = .ok (.iload 9, 2) := by decide +kernel
theorem d_MM_told_57 : decode b_MM_told 57 = .ok (.istore 7, 2) := by decide +kernel
theorem d_MM_shut_0 : decode b_MM_shut 0 = .ok (.aload_n 0, 1) := by decide +kernel
theorem d_MM_shut_1 : decode b_MM_shut 1 = .ok (.aload_n 0, 1) := by decide +kernel
theorem d_MM_shut_2 : decode b_MM_shut 2 = .ok (.getfield 15, 3) := by decide +kernel
theorem d_MM_shut_5 : decode b_MM_shut 5 = .ok (.iload_n 1, 1) := by decide +kernel
theorem d_MM_shut_6 : decode b_MM_shut 6 = .ok (.aaload, 1) := by decide +kernel
theorem d_MM_shut_7 : decode b_MM_shut 7 = .ok (.getfield 61, 3) := by decide +kernel
theorem d_MM_shut_10 : decode b_MM_shut 10 = .ok (.ifCond .ne 7, 3) := by decide +kernel
theorem d_MM_shut_13 : decode b_MM_shut 13 = .ok (.iconst 1, 1) := by decide +kernel
theorem d_MM_shut_14 : decode b_MM_shut 14 = .ok (.goto 4, 3) := by decide +kernel
theorem d_MM_shut_18 : decode b_MM_shut 18 = .ok (.iload_n 2, 1) := by decide +kernel
theorem d_MM_shut_19 : decode b_MM_shut 19 = .ok (.invokevirtual 57, 3) := by decide +kernel
theorem d_MM_shut_22 : decode b_MM_shut 22 = .ok (.ireturn, 1) := by decide +kernel
theorem d_MM_shut_17 : decode b_MM_shut 17 = .ok (.iconst 0, 1) := by decide +kernel
theorem d_MM_good_0 : decode b_MM_good 0 = .ok (.aload_n 1, 1) := by decide +kernel
theorem d_MM_good_1 : decode b_MM_good 1 = .ok (.getfield 72, 3) := by decide +kernel
theorem d_MM_good_4 : decode b_MM_good 4 = .ok (.istore_n 3, 1) := by decide +kernel
theorem d_MM_good_5 : decode b_MM_good 5 = .ok (.iload_n 3, 1) := by decide +kernel
theorem d_MM_good_6 : decode b_MM_good 6 = .ok (.iload_n 2, 1) := by decide +kernel
theorem d_MM_good_7 : decode b_MM_good 7 = .ok (.if_icmp .ge 143, 3) := by decide +kernel
theorem d_MM_good_150 : decode b_MM_good 150 = .ok (.iconst 1, 1) := by decide +kernel
theorem d_MM_good_151 : decode b_MM_good 151 = .ok (.ireturn, 1) := by decide +kernel
theorem d_MM_good_10 : decode b_MM_good 10 = .ok (.aload_n 0, 1) := by decide +kernel
theorem d_MM_good_11 : decode b_MM_good 11 = .ok (.getfield 11, 3) := by decide +kernel
theorem d_MM_good_14 : decode b_MM_good 14 = .ok (.iload_n 3, 1) := by decide +kernel
theorem d_MM_good_15 : decode b_MM_good 15 = .ok (.aaload, 1) := by decide +kernel
theorem d_MM_good_16 : decode b_MM_good 16 = .ok (.astore 4, 2) := by decide +kernel
theorem d_MM_good_18 : decode b_MM_good 18 = .ok (.aload 4, 2) := by decide +kernel
theorem d_MM_good_20 : decode b_MM_good 20 = .ok (.getfield 35, 3) := by decide +kernel
theorem d_MM_good_23 : decode b_MM_good 23 = .ok (.ifCond .ne 6, 3) := by decide +kernel
theorem d_MM_good_29 : decode b_MM_good 29 = .ok (.iconst 0, 1) := by decide +kernel
theorem d_MM_good_30 : decode b_MM_good 30 = .ok (.istore 5, 2) := by decide +kernel
theorem d_MM_good_32 : decode b_MM_good 32 = .ok (.iload 5, 2) := by decide +kernel
theorem d_MM_good_34 : decode b_MM_good 34 = .ok (.aload 4, 2) := by decide +kernel
theorem d_MM_good_36 : decode b_MM_good 36 = .ok (.getfield 43, 3) := by decide +kernel
theorem d_MM_good_39 : decode b_MM_good 39 = .ok (.if_icmp .ge 105, 3) := by decide +kernel
theorem d_MM_good_144 : decode b_MM_good 144 = .ok (.iinc 3 1, 3) := by decide +kernel
theorem d_MM_good_147 : decode b_MM_good 147 = .ok (.goto (-142), 3) := by decide +kernel
theorem d_MM_good_42 : decode b_MM_good 42 = .ok (.aload 4, 2) := by decide +kernel
theorem d_MM_good_44 : decode b_MM_good 44 = .ok (.getfield 46, 3) := by decide +kernel
theorem d_MM_good_47 : decode b_MM_good 47 = .ok (.iload 5, 2) := by decide +kernel
theorem d_MM_good_49 : decode b_MM_good 49 = .ok (.iaload, 1) := by decide +kernel
theorem d_MM_good_50 : decode b_MM_good 50 = .ok (.istore 6, 2) := by decide +kernel
theorem d_MM_good_52 : decode b_MM_good 52 = .ok (.aload_n 1, 1) := by decide +kernel
theorem d_MM_good_53 : decode b_MM_good 53 = .ok (.getfield 69, 3) := by decide +kernel
theorem d_MM_good_56 : decode b_MM_good 56 = .ok (.iconst 1, 1) := by decide +kernel
theorem d_MM_good_57 : decode b_MM_good 57 = .ok (.if_icmp .ne 14, 3) := by decide +kernel
theorem d_MM_good_71 : decode b_MM_good 71 = .ok (.aload_n 1, 1) := by decide +kernel
theorem d_MM_good_72 : decode b_MM_good 72 = .ok (.getfield 69, 3) := by decide +kernel
theorem d_MM_good_75 : decode b_MM_good 75 = .ok (.iconst 1, 1) := by decide +kernel
theorem d_MM_good_76 : decode b_MM_good 76 = .ok (.if_icmp .ne 6, 3) := by decide +kernel
theorem d_MM_good_82 : decode b_MM_good 82 = .ok (.aload_n 1, 1) := by decide +kernel
theorem d_MM_good_83 : decode b_MM_good 83 = .ok (.getfield 82, 3) := by decide +kernel
theorem d_MM_good_86 : decode b_MM_good 86 = .ok (.iload 6, 2) := by decide +kernel
theorem d_MM_good_88 : decode b_MM_good 88 = .ok (.baload, 1) := by decide +kernel
theorem d_MM_good_89 : decode b_MM_good 89 = .ok (.ifCond .eq 5, 3) := by decide +kernel
theorem d_MM_good_94 : decode b_MM_good 94 = .ok (.iconst 0, 1) := by decide +kernel
theorem d_MM_good_95 : decode b_MM_good 95 = .ok (.istore 7, 2) := by decide +kernel
theorem d_MM_good_97 : decode b_MM_good 97 = .ok (.iload 7, 2) := by decide +kernel
theorem d_MM_good_99 : decode b_MM_good 99 = .ok (.aload_n 1, 1) := by decide +kernel
theorem d_MM_good_100 : decode b_MM_good 100 = .ok (.getfield 100, 3) := by decide +kernel
theorem d_MM_good_103 : decode b_MM_good 103 = .ok (.if_icmp .ge 35, 3) := by decide +kernel
theorem d_MM_good_138 : decode b_MM_good 138 = .ok (.iinc 5 1, 3) := by decide +kernel
theorem d_MM_good_141 : decode b_MM_good 141 = .ok (.goto (-109), 3) := by decide +kernel
theorem d_MM_good_106 : decode b_MM_good 106 = .ok (.iload 6, 2) := by decide +kernel
theorem d_MM_good_108 : decode b_MM_good 108 = .ok (.aload_n 1, 1) := by decide +kernel
theorem d_MM_good_109 : decode b_MM_good 109 = .ok (.getfield 103, 3) := by decide +kernel
theorem d_MM_good_112 : decode b_MM_good 112 = .ok (.iload 7, 2) := by decide +kernel
theorem d_MM_good_114 : decode b_MM_good 114 = .ok (.iaload, 1) := by decide +kernel
theorem d_MM_good_115 : decode b_MM_good 115 = .ok (.if_icmp .lt 17, 3) := by decide +kernel
theorem d_MM_good_132 : decode b_MM_good 132 = .ok (.iinc 7 1, 3) := by decide +kernel
theorem d_MM_good_135 : decode b_MM_good 135 = .ok (.goto (-38), 3) := by decide +kernel
theorem d_MM_good_118 : decode b_MM_good 118 = .ok (.iload 6, 2) := by decide +kernel
theorem d_MM_good_120 : decode b_MM_good 120 = .ok (.aload_n 1, 1) := by decide +kernel
theorem d_MM_good_121 : decode b_MM_good 121 = .ok (.getfield 106, 3) := by decide +kernel
theorem d_MM_good_124 : decode b_MM_good 124 = .ok (.iload 7, 2) := by decide +kernel
theorem d_MM_good_126 : decode b_MM_good 126 = .ok (.iaload, 1) := by decide +kernel
theorem d_MM_good_127 : decode b_MM_good 127 = .ok (.if_icmp .gt 5, 3) := by decide +kernel
theorem d_MM_good_130 : decode b_MM_good 130 = .ok (.iconst 0, 1) := by decide +kernel
theorem d_MM_good_131 : decode b_MM_good 131 = .ok (.ireturn, 1) := by decide +kernel
theorem d_MM_good_92 : decode b_MM_good 92 = .ok (.iconst 0, 1) := by decide +kernel
theorem d_MM_good_93 : decode b_MM_good 93 = .ok (.ireturn, 1) := by decide +kernel
theorem d_MM_good_60 : decode b_MM_good 60 = .ok (.aload_n 1, 1) := by decide +kernel
theorem d_MM_good_61 : decode b_MM_good 61 = .ok (.iload 6, 2) := by decide +kernel
theorem d_MM_good_63 : decode b_MM_good 63 = .ok (.invokevirtual 78, 3) := by decide +kernel
theorem d_MM_good_66 : decode b_MM_good 66 = .ok (.ifCond .lt 5, 3) := by decide +kernel
theorem d_MM_good_69 : decode b_MM_good 69 = .ok (.iconst 0, 1) := by decide +kernel
theorem d_MM_good_70 : decode b_MM_good 70 = .ok (.ireturn, 1) := by decide +kernel
theorem d_MM_good_79 : decode b_MM_good 79 = .ok (.goto 59, 3) := by decide +kernel
theorem d_MM_good_26 : decode b_MM_good 26 = .ok (.goto 118, 3) := by decide +kernel
set_option maxHeartbeats 4000000 in
set_option maxRecDepth 100000 in
theorem c_WK_init {l : Launch} {b : Nat} {dC : Nat → ClassId} {dI : Nat → Nat → Nat} {dA : Nat → ClassId} {zs : Nat → Nat} {w : mh_w} {k i a : Nat} (h : w k i = some (a, .inr (6, [.int (nI 0), .int (nI 0), .int (nI 0), .int (nI 0), .int (nI 0), .int (nI 0), .int (nI 0), .int (nI 0), .null, .null, .null, .null, .null, .null]))) : mh_Met l b dC dI dA zs y_WK_init (mh_rm 1 6 296) [.ref a] w (mh_V none (fun w' => rW dA w' k i a (st_new 0 0 0) false ∧ mh_F w w' k 7 i)) := by
  refine mh_ofW (cc := b_WK_init) (n := 1) (ret := none) (hs := []) (by decide) k655 ?_
  intro p e s m below meth c hx hb hr hml hown hts hlocks hnm hT hOK hadm
  have K0 : mh_K0 p s m ([.ref a]).toArray c "MeldHostModel$Work" b_WK_init dC dI dA := ⟨hx, hb, hown, hts, hOK.1, hOK.2.1⟩
  have hX := hOK.2.2.2.2
  have hb0 := hOK.2.2.2.1
  have hS : va_S (mh_A b) s.heap s.heap [] := va_S.rf
  have hl := lv_entry ([.ref a]) (n := 1) (Nat.le_of_ble_eq_true rfl)
  rw [lg_entry_eq]
  generalize (lg_sl ([.ref a]) ++ List.replicate (1 - (lg_sl ([.ref a])).length) Slot.unset).toArray = ls at hl ⊢
  have hl : lv_has ls 1 [(0, .ref a)] := hl
  refine lv_aload_n hx hb d_WK_init_0 rfl (lv_at hl 0 rfl) ?_
  refine W.objInit hx hb hown (hts _ k656) (hts _ k31) (hts _ k32) rfl (by rw [hml]; exact hl.1) rfl d_WK_init_1 (Nat.le_of_ble_eq_true rfl) (Nat.le_of_ble_eq_true rfl) ?_
  refine W.eq (g2 := F0 m 4 ls []) rfl ?_
  refine lv_aload_n hx hb d_WK_init_4 rfl (lv_at hl 0 rfl) ?_
  refine lv_sipush (v := nI 256) hx hb d_WK_init_5 (by decide) ?_
  refine mh_newa (k + 1) i 2 K0 hX hS hb0 (ty := .boolean) rfl rfl k280 (N' := 256) (a0 := (256, .inl (fun _ => 0))) (fun cA => rfl) (by decide) (by decide) (by decide) (Nat.le_of_ble_eq_true rfl) (Nat.le_of_ble_eq_true rfl) d_WK_init_8 (fun q1 H hX hS => ?_)
  have fs81 := mh_self hX
  refine mh_putF K0 hX hS (mh_kp h (by omega)) f_WK_9 p_6_8 hnm (fun C T N h => by cases h; rfl) rfl rfl (Nat.le_of_ble_eq_true rfl) d_WK_init_10 (fun C T N h => by cases h; exact k669) (fun H locs hX hS => ?_)
  have hX : mh_P (dC, dI) b (mh_set _ k i (some (a, .inr (6, [.int (nI 0), .int (nI 0), .int (nI 0), .int (nI 0), .int (nI 0), .int (nI 0), .int (nI 0), .int (nI 0), .ref q1, .null, .null, .null, .null, .null])))) H := hX
  have fs82 := mh_self hX
  refine lv_aload_n hx hb d_WK_init_13 rfl (lv_at hl 0 rfl) ?_
  refine lv_bipush (v := nI 8) hx hb d_WK_init_14 (by decide) ?_
  refine mh_newa (k + 2) i 0 K0 hX hS hb0 (ty := .int) rfl rfl k112 (N' := 8) (a0 := (8, .inl (fun _ => 0))) (fun cA => rfl) (by decide) (by decide) (by decide) (Nat.le_of_ble_eq_true rfl) (Nat.le_of_ble_eq_true rfl) d_WK_init_16 (fun q2 H hX hS => ?_)
  have fs83 := mh_self hX
  refine mh_putF K0 hX hS (mh_kp fs82 (by omega)) f_WK_15 p_6_9 hnm (fun C T N h => by cases h; rfl) rfl rfl (Nat.le_of_ble_eq_true rfl) d_WK_init_18 (fun C T N h => by cases h; exact k671) (fun H locs hX hS => ?_)
  have hX : mh_P (dC, dI) b (mh_set _ k i (some (a, .inr (6, [.int (nI 0), .int (nI 0), .int (nI 0), .int (nI 0), .int (nI 0), .int (nI 0), .int (nI 0), .int (nI 0), .ref q1, .ref q2, .null, .null, .null, .null])))) H := hX
  have fs84 := mh_self hX
  refine lv_aload_n hx hb d_WK_init_21 rfl (lv_at hl 0 rfl) ?_
  refine lv_bipush (v := nI 8) hx hb d_WK_init_22 (by decide) ?_
  refine mh_newa (k + 3) i 0 K0 hX hS hb0 (ty := .int) rfl rfl k112 (N' := 8) (a0 := (8, .inl (fun _ => 0))) (fun cA => rfl) (by decide) (by decide) (by decide) (Nat.le_of_ble_eq_true rfl) (Nat.le_of_ble_eq_true rfl) d_WK_init_24 (fun q3 H hX hS => ?_)
  have fs85 := mh_self hX
  refine mh_putF K0 hX hS (mh_kp fs84 (by omega)) f_WK_19 p_6_10 hnm (fun C T N h => by cases h; rfl) rfl rfl (Nat.le_of_ble_eq_true rfl) d_WK_init_26 (fun C T N h => by cases h; exact k673) (fun H locs hX hS => ?_)
  have hX : mh_P (dC, dI) b (mh_set _ k i (some (a, .inr (6, [.int (nI 0), .int (nI 0), .int (nI 0), .int (nI 0), .int (nI 0), .int (nI 0), .int (nI 0), .int (nI 0), .ref q1, .ref q2, .ref q3, .null, .null, .null])))) H := hX
  have fs86 := mh_self hX
  refine lv_aload_n hx hb d_WK_init_29 rfl (lv_at hl 0 rfl) ?_
  refine lv_bipush (v := nI 8) hx hb d_WK_init_30 (by decide) ?_
  refine mh_newa (k + 4) i 0 K0 hX hS hb0 (ty := .int) rfl rfl k112 (N' := 8) (a0 := (8, .inl (fun _ => 0))) (fun cA => rfl) (by decide) (by decide) (by decide) (Nat.le_of_ble_eq_true rfl) (Nat.le_of_ble_eq_true rfl) d_WK_init_32 (fun q4 H hX hS => ?_)
  have fs87 := mh_self hX
  refine mh_putF K0 hX hS (mh_kp fs86 (by omega)) f_WK_22 p_6_11 hnm (fun C T N h => by cases h; rfl) rfl rfl (Nat.le_of_ble_eq_true rfl) d_WK_init_34 (fun C T N h => by cases h; exact k675) (fun H locs hX hS => ?_)
  have hX : mh_P (dC, dI) b (mh_set _ k i (some (a, .inr (6, [.int (nI 0), .int (nI 0), .int (nI 0), .int (nI 0), .int (nI 0), .int (nI 0), .int (nI 0), .int (nI 0), .ref q1, .ref q2, .ref q3, .ref q4, .null, .null])))) H := hX
  have fs88 := mh_self hX
  refine lv_aload_n hx hb d_WK_init_37 rfl (lv_at hl 0 rfl) ?_
  refine lv_bipush (v := nI 8) hx hb d_WK_init_38 (by decide) ?_
  refine mh_newa (k + 5) i 1 K0 hX hS hb0 (ty := .long) rfl rfl k82 (N' := 8) (a0 := (8, .inr (.inl (fun _ => 0)))) (fun cA => rfl) (by decide) (by decide) (by decide) (Nat.le_of_ble_eq_true rfl) (Nat.le_of_ble_eq_true rfl) d_WK_init_40 (fun q5 H hX hS => ?_)
  have fs89 := mh_self hX
  refine mh_putF K0 hX hS (mh_kp fs88 (by omega)) f_WK_25 p_6_12 hnm (fun C T N h => by cases h; rfl) rfl rfl (Nat.le_of_ble_eq_true rfl) d_WK_init_42 (fun C T N h => by cases h; exact k677) (fun H locs hX hS => ?_)
  have hX : mh_P (dC, dI) b (mh_set _ k i (some (a, .inr (6, [.int (nI 0), .int (nI 0), .int (nI 0), .int (nI 0), .int (nI 0), .int (nI 0), .int (nI 0), .int (nI 0), .ref q1, .ref q2, .ref q3, .ref q4, .ref q5, .null])))) H := hX
  have fs90 := mh_self hX
  refine lv_aload_n hx hb d_WK_init_45 rfl (lv_at hl 0 rfl) ?_
  refine lv_bipush (v := nI 8) hx hb d_WK_init_46 (by decide) ?_
  refine mh_newa (k + 6) i 2 K0 hX hS hb0 (ty := .boolean) rfl rfl k280 (N' := 8) (a0 := (8, .inl (fun _ => 0))) (fun cA => rfl) (by decide) (by decide) (by decide) (Nat.le_of_ble_eq_true rfl) (Nat.le_of_ble_eq_true rfl) d_WK_init_48 (fun q6 H hX hS => ?_)
  have fs91 := mh_self hX
  refine mh_putF K0 hX hS (mh_kp fs90 (by omega)) f_WK_29 p_6_13 hnm (fun C T N h => by cases h; rfl) rfl rfl (Nat.le_of_ble_eq_true rfl) d_WK_init_50 (fun C T N h => by cases h; exact k679) (fun H locs hX hS => ?_)
  have hX : mh_P (dC, dI) b (mh_set _ k i (some (a, .inr (6, [.int (nI 0), .int (nI 0), .int (nI 0), .int (nI 0), .int (nI 0), .int (nI 0), .int (nI 0), .int (nI 0), .ref q1, .ref q2, .ref q3, .ref q4, .ref q5, .ref q6])))) H := hX
  have fs92 := mh_self hX
  exact mh_vret K0 hr hlocks hX hS (⟨rfl, ⟨q1, q2, q3, q4, q5, q6, _, _, _, _, _, _, by rw [show pb_cnt (iv_rd (st_new 0 0 0)) 256 = 0 from pb_cnt_zero 256]; exact fs92, (mh_kp (mh_kp (mh_kp (mh_kp (mh_kp (mh_kp (mh_kp (mh_kp (mh_kp (mh_kp (mh_kp fs81 (by omega)) (by omega)) (by omega)) (by omega)) (by omega)) (by omega)) (by omega)) (by omega)) (by omega)) (by omega)) (by omega)), (mh_kp (mh_kp (mh_kp (mh_kp (mh_kp (mh_kp (mh_kp (mh_kp (mh_kp fs83 (by omega)) (by omega)) (by omega)) (by omega)) (by omega)) (by omega)) (by omega)) (by omega)) (by omega)), (mh_kp (mh_kp (mh_kp (mh_kp (mh_kp (mh_kp (mh_kp fs85 (by omega)) (by omega)) (by omega)) (by omega)) (by omega)) (by omega)) (by omega)), (mh_kp (mh_kp (mh_kp (mh_kp (mh_kp fs87 (by omega)) (by omega)) (by omega)) (by omega)) (by omega)), (mh_kp (mh_kp (mh_kp fs89 (by omega)) (by omega)) (by omega)), (mh_kp fs91 (by omega)), fun _ _ => rfl, fun j hj => absurd hj (Nat.not_lt_zero j), fun j hj => absurd hj (Nat.not_lt_zero j)⟩, ((((((((((((mh_F.rf.set (by omega) (by omega)).set (by omega) (by omega)).set (by omega) (by omega)).set (by omega) (by omega)).set (by omega) (by omega)).set (by omega) (by omega)).set (by omega) (by omega)).set (by omega) (by omega)).set (by omega) (by omega)).set (by omega) (by omega)).set (by omega) (by omega)).set (by omega) (by omega))⟩) (Nat.le_of_ble_eq_true rfl) (Nat.le_of_ble_eq_true rfl) d_WK_init_53
set_option maxHeartbeats 4000000 in
set_option maxRecDepth 100000 in
theorem c_WK_clear {l : Launch} {b : Nat} {dC : Nat → ClassId} {dI : Nat → Nat → Nat} {dA : Nat → ClassId} {zs : Nat → Nat} {w : mh_w} {k i a m0 : Nat} {x : st_I} {op : Bool} (h : rW dA w k i a x op) (ho : iv_ok m0 x) : mh_Met l b dC dI dA zs y_WK_clear (mh_rm 0 0 0) [.ref a] w (mh_V none (fun w' => rW dA w' k i a (x.1, (fun _ => false), (0, iv_lo x, iv_hi x), (0, iv_wk x, iv_wv x), false) op ∧ mh_F w w' k 7 i)) := by
  have hW := h
  obtain ⟨a1, a2, a3, a4, a5, a6, rdf, lo, hi, wk, no, nn, i0, i1, i2, i3, i4, i5, i6, hrd, hlo, hwk⟩ := h
  have ho_ := ho
  obtain ⟨o1, o2, o3, o4, o5, o6, o7, o8⟩ := ho
  refine mh_ofW (cc := b_WK_clear) (n := 2) (ret := none) (hs := []) (by decide) k753 ?_
  intro p e s m below meth c hx hb hr hml hown hts hlocks hnm hT hOK hadm
  have K0 : mh_K0 p s m ([.ref a]).toArray c "MeldHostModel$Work" b_WK_clear dC dI dA := ⟨hx, hb, hown, hts, hOK.1, hOK.2.1⟩
  have hX := hOK.2.2.2.2
  have hb0 := hOK.2.2.2.1
  have hS : va_S (mh_A b) s.heap s.heap [] := va_S.rf
  have hl := lv_entry ([.ref a]) (n := 2) (Nat.le_of_ble_eq_true rfl)
  rw [lg_entry_eq]
  generalize (lg_sl ([.ref a]) ++ List.replicate (2 - (lg_sl ([.ref a])).length) Slot.unset).toArray = ls at hl ⊢
  have hl : lv_has ls 2 [(0, .ref a)] := hl
  refine lv_aload_n hx hb d_WK_clear_0 rfl (lv_at hl 0 rfl) ?_
  refine lv_iconst (v := nI 0) hx hb d_WK_clear_1 (by decide) ?_
  refine mh_put K0 hX hS i0 f_WK_32 p_6_3 rfl rfl (Nat.le_of_ble_eq_true rfl) d_WK_clear_2 (fun H locs hX hS => ?_)
  have hX : mh_P (dC, dI) b (mh_set _ k i (some (a, .inr (6, [.int (nI (iv_sn x)), .int (nI (iv_lv x)), .int (nI (iv_sv x)), .int (nI 0), .int (nI (iv_nw x)), .int (nI (pb_cnt (iv_rd x) 256)), .int (mh_b op), .int (mh_b (iv_gd x)), .ref a1, .ref a2, .ref a3, .ref a4, .ref a5, .ref a6])))) H := hX
  have fs93 := mh_self hX
  refine lv_aload_n hx hb d_WK_clear_5 rfl (lv_at hl 0 rfl) ?_
  refine lv_iconst (v := nI 0) hx hb d_WK_clear_6 (by decide) ?_
  refine mh_put K0 hX hS fs93 f_WK_36 p_6_4 rfl rfl (Nat.le_of_ble_eq_true rfl) d_WK_clear_7 (fun H locs hX hS => ?_)
  have hX : mh_P (dC, dI) b (mh_set _ k i (some (a, .inr (6, [.int (nI (iv_sn x)), .int (nI (iv_lv x)), .int (nI (iv_sv x)), .int (nI 0), .int (nI 0), .int (nI (pb_cnt (iv_rd x) 256)), .int (mh_b op), .int (mh_b (iv_gd x)), .ref a1, .ref a2, .ref a3, .ref a4, .ref a5, .ref a6])))) H := hX
  have fs94 := mh_self hX
  refine lv_aload_n hx hb d_WK_clear_10 rfl (lv_at hl 0 rfl) ?_
  refine lv_iconst (v := nI 0) hx hb d_WK_clear_11 (by decide) ?_
  refine mh_put K0 hX hS fs94 f_WK_39 p_6_5 rfl rfl (Nat.le_of_ble_eq_true rfl) d_WK_clear_12 (fun H locs hX hS => ?_)
  have hX : mh_P (dC, dI) b (mh_set _ k i (some (a, .inr (6, [.int (nI (iv_sn x)), .int (nI (iv_lv x)), .int (nI (iv_sv x)), .int (nI 0), .int (nI 0), .int (nI 0), .int (mh_b op), .int (mh_b (iv_gd x)), .ref a1, .ref a2, .ref a3, .ref a4, .ref a5, .ref a6])))) H := hX
  have fs95 := mh_self hX
  refine lv_aload_n hx hb d_WK_clear_15 rfl (lv_at hl 0 rfl) ?_
  refine lv_iconst (v := nI 0) hx hb d_WK_clear_16 (by decide) ?_
  refine mh_put K0 hX hS fs95 f_WK_42 p_6_7 (by decide) (by decide) (Nat.le_of_ble_eq_true rfl) d_WK_clear_17 (fun H locs hX hS => ?_)
  have hX : mh_P (dC, dI) b (mh_set _ k i (some (a, .inr (6, [.int (nI (iv_sn x)), .int (nI (iv_lv x)), .int (nI (iv_sv x)), .int (nI 0), .int (nI 0), .int (nI 0), .int (mh_b op), .int (nI 0), .ref a1, .ref a2, .ref a3, .ref a4, .ref a5, .ref a6])))) H := hX
  have fs96 := mh_self hX
  refine lv_iconst (v := nI 0) hx hb d_WK_clear_20 (by decide) ?_
  refine lv_istore_n (lv' := [(1, .int (nI 0)), (0, .ref a)]) hx hb d_WK_clear_21 rfl hl (by decide) rfl (fun ls hl => ?_)
  have LP : ∀ (n : Nat) (j : Nat) (w1 : mh_w) (rf : Nat → Int32) (H : Heap) (locs : List Loc) (ls : Array Slot), mh_P (dC, dI) b w1 H → va_S (mh_A b) s.heap H locs → lv_has ls 2 [(1, .int (nI j)), (0, .ref a)] → (j + n = 256) → (w1 k i = some (a, .inr (6, [.int (nI (iv_sn x)), .int (nI (iv_lv x)), .int (nI (iv_sv x)), .int (nI 0), .int (nI 0), .int (nI 0), .int (mh_b op), .int (nI 0), .ref a1, .ref a2, .ref a3, .ref a4, .ref a5, .ref a6]))) → (w1 (k + 1) i = some (a1, .inl (dA 2, 256, .inl rf))) → (w1 (k + 2) i = some (a2, .inl (dA 0, 8, .inl lo))) → (w1 (k + 3) i = some (a3, .inl (dA 0, 8, .inl hi))) → (w1 (k + 4) i = some (a4, .inl (dA 0, 8, .inl wk))) → (w1 (k + 5) i = some (a5, .inl (dA 1, 8, .inr (.inl nn)))) → (w1 (k + 6) i = some (a6, .inl (dA 2, 8, .inl no))) → (∀ z, z < j → rf z = 0) → (mh_F w w1 k 7 i) → W p l e (mh_rm 0 0 0) s m ([.ref a]).toArray below meth c H locs (0) (0) (mh_MQ below b dC dI (mh_V none (fun w' => rW dA w' k i a (x.1, (fun _ => false), (0, iv_lo x, iv_hi x), (0, iv_wk x, iv_wv x), false) op ∧ mh_F w w' k 7 i)) ([.ref a]).toArray s 0 0) (F0 m 22 ls []) := by
    intro n
    induction n with
    | zero =>
      intro j w1 rf H locs ls hX hS hl hn9 ca ca1 ca2 ca3 ca4 ca5 ca6 hz hF
      refine lv_iload_n hx hb d_WK_clear_22 rfl (lv_at hl 0 rfl) ?_
      refine lv_sipush (v := nI 256) hx hb d_WK_clear_23 (by decide) ?_
      refine mh_icmp_ge (tgt := 42) hx hb (by omega) (by omega) d_WK_clear_26 (by decide) (fun _ => ?_) (fun z => absurd z (by omega))
      exact mh_vret K0 hr hlocks hX hS (⟨rfl, ⟨a1, a2, a3, a4, a5, a6, rf, lo, hi, wk, no, nn, by rw [show pb_cnt (iv_rd (x.1, (fun _ => false), (0, iv_lo x, iv_hi x), (0, iv_wk x, iv_wv x), false)) 256 = 0 from pb_cnt_zero 256]; exact ca, ca1, ca2, ca3, ca4, ca5, ca6, fun j hj => hz j (by omega), fun j hj => absurd hj (Nat.not_lt_zero j), fun j hj => absurd hj (Nat.not_lt_zero j)⟩, hF⟩) (Nat.le_of_ble_eq_true rfl) (Nat.le_of_ble_eq_true rfl) d_WK_clear_42
    | succ n ih =>
      intro j w1 rf H locs ls hX hS hl hn9 ca ca1 ca2 ca3 ca4 ca5 ca6 hz hF
      refine lv_iload_n hx hb d_WK_clear_22 rfl (lv_at hl 0 rfl) ?_
      refine lv_sipush (v := nI 256) hx hb d_WK_clear_23 (by decide) ?_
      refine mh_icmp_ge (tgt := 42) hx hb (by omega) (by omega) d_WK_clear_26 (by decide) (fun z => absurd z (by omega)) (fun _ => ?_)
      refine lv_aload_n hx hb d_WK_clear_29 rfl (lv_at hl 1 rfl) ?_
      refine mh_get K0 hX ca f_WK_9 rfl d_WK_clear_30 ?_
      refine lv_iload_n hx hb d_WK_clear_33 rfl (lv_at hl 0 rfl) ?_
      refine lv_iconst (v := nI 0) hx hb d_WK_clear_34 (by decide) ?_
      refine mh_zastN K0 hX hS ca1 (by decide) (by omega) (by omega) d_WK_clear_35 (fun H locs hX hS => ?_)
      have fs97 := mh_self hX
      refine lv_iinc (v := nI (j + 1)) (k := 0) (lv' := [(1, .int (nI (j + 1))), (0, .ref a)]) hx hb d_WK_clear_36 hl rfl (mh_inc j) (by decide) rfl (fun ls hl => ?_)
      refine lv_goto (tgt := 22) hx hb d_WK_clear_39 (by decide) ?_
      exact ih (j + 1) _ _ _ _ _ hX hS hl (by omega) (mh_kp ca (by omega)) fs97 (mh_kp ca2 (by omega)) (mh_kp ca3 (by omega)) (mh_kp ca4 (by omega)) (mh_kp ca5 (by omega)) (mh_kp ca6 (by omega)) (fun z hz2 => if e9 : z = j then (by rw [e9]; exact pk_us) else (pk_un e9).trans (hz z (by omega))) (hF.set (by omega) (by omega))
  exact LP 256 0 _ _ _ _ _ hX hS hl rfl fs96 (mh_kp (mh_kp (mh_kp (mh_kp i1 (by omega)) (by omega)) (by omega)) (by omega)) (mh_kp (mh_kp (mh_kp (mh_kp i2 (by omega)) (by omega)) (by omega)) (by omega)) (mh_kp (mh_kp (mh_kp (mh_kp i3 (by omega)) (by omega)) (by omega)) (by omega)) (mh_kp (mh_kp (mh_kp (mh_kp i4 (by omega)) (by omega)) (by omega)) (by omega)) (mh_kp (mh_kp (mh_kp (mh_kp i5 (by omega)) (by omega)) (by omega)) (by omega)) (mh_kp (mh_kp (mh_kp (mh_kp i6 (by omega)) (by omega)) (by omega)) (by omega)) (fun z hz => absurd hz (Nat.not_lt_zero z)) ((((mh_F.rf.set (by omega) (by omega)).set (by omega) (by omega)).set (by omega) (by omega)).set (by omega) (by omega))
set_option maxHeartbeats 4000000 in
set_option maxRecDepth 100000 in
theorem c_WK_written_y {l : Launch} {b : Nat} {dC : Nat → ClassId} {dI : Nat → Nat → Nat} {dA : Nat → ClassId} {zs : Nat → Nat} {w : mh_w} {k i a m0 : Nat} {x : st_I} {op : Bool} (h : rW dA w k i a x op) (ho : iv_ok m0 x) {key : Nat} (hk : key < 256) (hp : (st_pl (iv_wk x) key (iv_nw x)) < iv_nw x) : mh_Met l b dC dI dA zs y_WK_written (mh_rm 0 0 0) [.ref a, .int (nI key)] w (mh_V (some (.int (nI (st_pl (iv_wk x) key (iv_nw x))))) (fun w' => w' = w)) := by
  have hW := h
  obtain ⟨a1, a2, a3, a4, a5, a6, rdf, lo, hi, wk, no, nn, i0, i1, i2, i3, i4, i5, i6, hrd, hlo, hwk⟩ := h
  have ho_ := ho
  obtain ⟨o1, o2, o3, o4, o5, o6, o7, o8⟩ := ho
  have hple := st_pl_le (iv_wk x) key (iv_nw x)
  refine mh_ofW (cc := b_WK_written) (n := 3) (ret := (some .int)) (hs := []) (by decide) k765 ?_
  intro p e s m below meth c hx hb hr hml hown hts hlocks hnm hT hOK hadm
  have K0 : mh_K0 p s m ([.ref a, .int (nI key)]).toArray c "MeldHostModel$Work" b_WK_written dC dI dA := ⟨hx, hb, hown, hts, hOK.1, hOK.2.1⟩
  have hX := hOK.2.2.2.2
  have hb0 := hOK.2.2.2.1
  have hS : va_S (mh_A b) s.heap s.heap [] := va_S.rf
  have hl := lv_entry ([.ref a, .int (nI key)]) (n := 3) (Nat.le_of_ble_eq_true rfl)
  rw [lg_entry_eq]
  generalize (lg_sl ([.ref a, .int (nI key)]) ++ List.replicate (3 - (lg_sl ([.ref a, .int (nI key)])).length) Slot.unset).toArray = ls at hl ⊢
  have hl : lv_has ls 3 [(0, .ref a), (1, .int (nI key))] := hl
  refine lv_iconst (v := nI 0) hx hb d_WK_written_0 (by decide) ?_
  refine lv_istore_n (lv' := [(2, .int (nI 0)), (0, .ref a), (1, .int (nI key))]) hx hb d_WK_written_1 rfl hl (by decide) rfl (fun ls hl => ?_)
  have LP : ∀ (n : Nat) (j : Nat) (H : Heap) (locs : List Loc) (ls : Array Slot), mh_P (dC, dI) b w H → va_S (mh_A b) s.heap H locs → lv_has ls 3 [(2, .int (nI j)), (0, .ref a), (1, .int (nI key))] → (j + n = iv_nw x) → (j ≤ (st_pl (iv_wk x) key (iv_nw x))) → W p l e (mh_rm 0 0 0) s m ([.ref a, .int (nI key)]).toArray below meth c H locs (0) (0) (mh_MQ below b dC dI (mh_V (some (.int (nI (st_pl (iv_wk x) key (iv_nw x))))) (fun w' => w' = w)) ([.ref a, .int (nI key)]).toArray s 0 0) (F0 m 2 ls []) := by
    intro n
    induction n with
    | zero =>
      intro j H locs ls hX hS hl hn9 hj
      refine lv_iload_n hx hb d_WK_written_2 rfl (lv_at hl 0 rfl) ?_
      refine lv_aload_n hx hb d_WK_written_3 rfl (lv_at hl 1 rfl) ?_
      refine mh_get K0 hX i0 f_WK_36 rfl d_WK_written_4 ?_
      refine mh_icmp_ge (tgt := 28) hx hb (by omega) (by omega) d_WK_written_7 (by decide) (fun _ => ?_) (fun z => absurd z (by omega))
      refine lv_iconst (v := (-1)) hx hb d_WK_written_28 (by decide) ?_
      exact absurd hp (by omega)
    | succ n ih =>
      intro j H locs ls hX hS hl hn9 hj
      refine lv_iload_n hx hb d_WK_written_2 rfl (lv_at hl 0 rfl) ?_
      refine lv_aload_n hx hb d_WK_written_3 rfl (lv_at hl 1 rfl) ?_
      refine mh_get K0 hX i0 f_WK_36 rfl d_WK_written_4 ?_
      refine mh_icmp_ge (tgt := 28) hx hb (by omega) (by omega) d_WK_written_7 (by decide) (fun z => absurd z (by omega)) (fun _ => ?_)
      refine lv_aload_n hx hb d_WK_written_10 rfl (lv_at hl 1 rfl) ?_
      refine mh_get K0 hX i0 f_WK_22 rfl d_WK_written_11 ?_
      refine lv_iload_n hx hb d_WK_written_14 rfl (lv_at hl 0 rfl) ?_
      refine mh_ialdN K0 hX i4 (by omega) (by omega) d_WK_written_15 ?_
      refine mh_ti (y := nI (iv_wk x j)) ((hwk j (by omega)).1) ?_
      have b7 := o7 j (by omega)
      refine lv_iload_n hx hb d_WK_written_16 rfl (lv_at hl 2 rfl) ?_
      refine mh_icmp_ne (tgt := 22) hx hb (by omega) (by omega) d_WK_written_17 (by decide) (fun ct => ?_) (fun cf => ?_)
      · skip
        have hj2 := st_pl_st hj (by omega) ct
        refine lv_iinc (v := nI (j + 1)) (k := 0) (lv' := [(2, .int (nI (j + 1))), (0, .ref a), (1, .int (nI key))]) hx hb d_WK_written_22 hl rfl (mh_inc j) (by decide) rfl (fun ls hl => ?_)
        refine lv_goto (tgt := 2) hx hb d_WK_written_25 (by decide) ?_
        exact ih (j + 1) _ _ _ hX hS hl (by omega) hj2
      · skip
        have hj2 := st_pl_hit hj cf
        refine lv_iload_n hx hb d_WK_written_20 rfl (lv_at hl 0 rfl) ?_
        exact mh_iret K0 hr rfl hlocks hX hS (⟨by rw [← hj2], rfl⟩) (Nat.le_of_ble_eq_true rfl) (Nat.le_of_ble_eq_true rfl) d_WK_written_21
  exact LP (iv_nw x) 0 _ _ _ hX hS hl (Nat.zero_add _) (Nat.zero_le _)
set_option maxHeartbeats 4000000 in
set_option maxRecDepth 100000 in
theorem c_WK_written_n {l : Launch} {b : Nat} {dC : Nat → ClassId} {dI : Nat → Nat → Nat} {dA : Nat → ClassId} {zs : Nat → Nat} {w : mh_w} {k i a m0 : Nat} {x : st_I} {op : Bool} (h : rW dA w k i a x op) (ho : iv_ok m0 x) {key : Nat} (hk : key < 256) (hp : ¬ (st_pl (iv_wk x) key (iv_nw x)) < iv_nw x) : mh_Met l b dC dI dA zs y_WK_written (mh_rm 0 0 0) [.ref a, .int (nI key)] w (mh_V (some (.int (-1))) (fun w' => w' = w)) := by
  have hW := h
  obtain ⟨a1, a2, a3, a4, a5, a6, rdf, lo, hi, wk, no, nn, i0, i1, i2, i3, i4, i5, i6, hrd, hlo, hwk⟩ := h
  have ho_ := ho
  obtain ⟨o1, o2, o3, o4, o5, o6, o7, o8⟩ := ho
  have hple := st_pl_le (iv_wk x) key (iv_nw x)
  refine mh_ofW (cc := b_WK_written) (n := 3) (ret := (some .int)) (hs := []) (by decide) k765 ?_
  intro p e s m below meth c hx hb hr hml hown hts hlocks hnm hT hOK hadm
  have K0 : mh_K0 p s m ([.ref a, .int (nI key)]).toArray c "MeldHostModel$Work" b_WK_written dC dI dA := ⟨hx, hb, hown, hts, hOK.1, hOK.2.1⟩
  have hX := hOK.2.2.2.2
  have hb0 := hOK.2.2.2.1
  have hS : va_S (mh_A b) s.heap s.heap [] := va_S.rf
  have hl := lv_entry ([.ref a, .int (nI key)]) (n := 3) (Nat.le_of_ble_eq_true rfl)
  rw [lg_entry_eq]
  generalize (lg_sl ([.ref a, .int (nI key)]) ++ List.replicate (3 - (lg_sl ([.ref a, .int (nI key)])).length) Slot.unset).toArray = ls at hl ⊢
  have hl : lv_has ls 3 [(0, .ref a), (1, .int (nI key))] := hl
  refine lv_iconst (v := nI 0) hx hb d_WK_written_0 (by decide) ?_
  refine lv_istore_n (lv' := [(2, .int (nI 0)), (0, .ref a), (1, .int (nI key))]) hx hb d_WK_written_1 rfl hl (by decide) rfl (fun ls hl => ?_)
  have LP : ∀ (n : Nat) (j : Nat) (H : Heap) (locs : List Loc) (ls : Array Slot), mh_P (dC, dI) b w H → va_S (mh_A b) s.heap H locs → lv_has ls 3 [(2, .int (nI j)), (0, .ref a), (1, .int (nI key))] → (j + n = iv_nw x) → (j ≤ (st_pl (iv_wk x) key (iv_nw x))) → W p l e (mh_rm 0 0 0) s m ([.ref a, .int (nI key)]).toArray below meth c H locs (0) (0) (mh_MQ below b dC dI (mh_V (some (.int (-1))) (fun w' => w' = w)) ([.ref a, .int (nI key)]).toArray s 0 0) (F0 m 2 ls []) := by
    intro n
    induction n with
    | zero =>
      intro j H locs ls hX hS hl hn9 hj
      refine lv_iload_n hx hb d_WK_written_2 rfl (lv_at hl 0 rfl) ?_
      refine lv_aload_n hx hb d_WK_written_3 rfl (lv_at hl 1 rfl) ?_
      refine mh_get K0 hX i0 f_WK_36 rfl d_WK_written_4 ?_
      refine mh_icmp_ge (tgt := 28) hx hb (by omega) (by omega) d_WK_written_7 (by decide) (fun _ => ?_) (fun z => absurd z (by omega))
      refine lv_iconst (v := (-1)) hx hb d_WK_written_28 (by decide) ?_
      exact mh_iret K0 hr rfl hlocks hX hS (⟨rfl, rfl⟩) (Nat.le_of_ble_eq_true rfl) (Nat.le_of_ble_eq_true rfl) d_WK_written_29
    | succ n ih =>
      intro j H locs ls hX hS hl hn9 hj
      refine lv_iload_n hx hb d_WK_written_2 rfl (lv_at hl 0 rfl) ?_
      refine lv_aload_n hx hb d_WK_written_3 rfl (lv_at hl 1 rfl) ?_
      refine mh_get K0 hX i0 f_WK_36 rfl d_WK_written_4 ?_
      refine mh_icmp_ge (tgt := 28) hx hb (by omega) (by omega) d_WK_written_7 (by decide) (fun z => absurd z (by omega)) (fun _ => ?_)
      refine lv_aload_n hx hb d_WK_written_10 rfl (lv_at hl 1 rfl) ?_
      refine mh_get K0 hX i0 f_WK_22 rfl d_WK_written_11 ?_
      refine lv_iload_n hx hb d_WK_written_14 rfl (lv_at hl 0 rfl) ?_
      refine mh_ialdN K0 hX i4 (by omega) (by omega) d_WK_written_15 ?_
      refine mh_ti (y := nI (iv_wk x j)) ((hwk j (by omega)).1) ?_
      have b7 := o7 j (by omega)
      refine lv_iload_n hx hb d_WK_written_16 rfl (lv_at hl 2 rfl) ?_
      refine mh_icmp_ne (tgt := 22) hx hb (by omega) (by omega) d_WK_written_17 (by decide) (fun ct => ?_) (fun cf => ?_)
      · skip
        have hj2 := st_pl_st hj (by omega) ct
        refine lv_iinc (v := nI (j + 1)) (k := 0) (lv' := [(2, .int (nI (j + 1))), (0, .ref a), (1, .int (nI key))]) hx hb d_WK_written_22 hl rfl (mh_inc j) (by decide) rfl (fun ls hl => ?_)
        refine lv_goto (tgt := 2) hx hb d_WK_written_25 (by decide) ?_
        exact ih (j + 1) _ _ _ hX hS hl (by omega) hj2
      · skip
        have hj2 := st_pl_hit hj cf
        exact absurd (show (st_pl (iv_wk x) key (iv_nw x)) < iv_nw x by omega) hp
  exact LP (iv_nw x) 0 _ _ _ hX hS hl (Nat.zero_add _) (Nat.zero_le _)
set_option maxHeartbeats 4000000 in
set_option maxRecDepth 100000 in
theorem c_MM_thrown {l : Launch} {b : Nat} {dC : Nat → ClassId} {dI : Nat → Nat → Nat} {dA : Nat → ClassId} {zs : Nat → Nat} {w : mh_w} {m0 aG aO aA aV aH nn rr : Nat} {er : Int32} (h : w 50 0 = some (m0, .inr (7, [.int er, .ref aG, .ref aO, .ref aA, .ref aV, .ref aH, .int (nI nn), .int (nI rr)]))) : mh_Met l b dC dI dA zs y_MM_thrown (mh_rm 0 0 0) [.ref m0] w (mh_V (some (.int er)) (fun w' => w' = w)) := by
  refine mh_ofW (cc := b_MM_thrown) (n := 1) (ret := (some .int)) (hs := []) (by decide) k738 ?_
  intro p e s m below meth c hx hb hr hml hown hts hlocks hnm hT hOK hadm
  have K0 : mh_K0 p s m ([.ref m0]).toArray c "MeldHostModel" b_MM_thrown dC dI dA := ⟨hx, hb, hown, hts, hOK.1, hOK.2.1⟩
  have hX := hOK.2.2.2.2
  have hb0 := hOK.2.2.2.1
  have hS : va_S (mh_A b) s.heap s.heap [] := va_S.rf
  have hl := lv_entry ([.ref m0]) (n := 1) (Nat.le_of_ble_eq_true rfl)
  rw [lg_entry_eq]
  generalize (lg_sl ([.ref m0]) ++ List.replicate (1 - (lg_sl ([.ref m0])).length) Slot.unset).toArray = ls at hl ⊢
  have hl : lv_has ls 1 [(0, .ref m0)] := hl
  refine lv_aload_n hx hb d_MM_thrown_0 rfl (lv_at hl 0 rfl) ?_
  refine mh_get K0 hX h f_MM_31 rfl d_MM_thrown_1 ?_
  exact mh_iret K0 hr rfl hlocks hX hS (⟨rfl, rfl⟩) (Nat.le_of_ble_eq_true rfl) (Nat.le_of_ble_eq_true rfl) d_MM_thrown_4
set_option maxHeartbeats 4000000 in
set_option maxRecDepth 100000 in
theorem c_MM_fails1 {l : Launch} {b : Nat} {dC : Nat → ClassId} {dI : Nat → Nat → Nat} {dA : Nat → ClassId} {zs : Nat → Nat} {w : mh_w} {m0 aG aO aA aV aH nn rr : Nat} {er : Int32} (h : w 50 0 = some (m0, .inr (7, [.int er, .ref aG, .ref aO, .ref aA, .ref aV, .ref aH, .int (nI nn), .int (nI rr)]))) {y : Nat} : mh_Met l b dC dI dA zs y_MM_fails (mh_rm 0 0 0) [.ref m0, .int (nI 1), .int (nI y)] w (mh_V (some (.int (nI 1))) (fun w' => w' 50 0 = some (m0, .inr (7, [.int (nI y), .ref aG, .ref aO, .ref aA, .ref aV, .ref aH, .int (nI nn), .int (nI rr)])) ∧ mh_F w w' 50 1 0)) := by
  refine mh_ofW (cc := b_MM_fails) (n := 3) (ret := (some .boolean)) (hs := []) (by decide) k749 ?_
  intro p e s m below meth c hx hb hr hml hown hts hlocks hnm hT hOK hadm
  have K0 : mh_K0 p s m ([.ref m0, .int (nI 1), .int (nI y)]).toArray c "MeldHostModel" b_MM_fails dC dI dA := ⟨hx, hb, hown, hts, hOK.1, hOK.2.1⟩
  have hX := hOK.2.2.2.2
  have hb0 := hOK.2.2.2.1
  have hS : va_S (mh_A b) s.heap s.heap [] := va_S.rf
  have hl := lv_entry ([.ref m0, .int (nI 1), .int (nI y)]) (n := 3) (Nat.le_of_ble_eq_true rfl)
  rw [lg_entry_eq]
  generalize (lg_sl ([.ref m0, .int (nI 1), .int (nI y)]) ++ List.replicate (3 - (lg_sl ([.ref m0, .int (nI 1), .int (nI y)])).length) Slot.unset).toArray = ls at hl ⊢
  have hl : lv_has ls 3 [(0, .ref m0), (1, .int (nI 1)), (2, .int (nI y))] := hl
  refine lv_aload_n hx hb d_MM_fails_0 rfl (lv_at hl 0 rfl) ?_
  refine lv_iload_n hx hb d_MM_fails_1 rfl (lv_at hl 1 rfl) ?_
  refine mh_if_eq (tgt := 9) hx hb (by omega) d_MM_fails_2 (by decide) (fun z => absurd z (by omega)) (fun _ => ?_)
  refine lv_iload_n hx hb d_MM_fails_5 rfl (lv_at hl 2 rfl) ?_
  refine lv_goto (tgt := 10) hx hb d_MM_fails_6 (by decide) ?_
  refine mh_put K0 hX hS h f_MM_31 p_7_0 rfl rfl (Nat.le_of_ble_eq_true rfl) d_MM_fails_10 (fun H locs hX hS => ?_)
  have hX : mh_P (dC, dI) b (mh_set _ 50 0 (some (m0, .inr (7, [.int (nI y), .ref aG, .ref aO, .ref aA, .ref aV, .ref aH, .int (nI nn), .int (nI rr)])))) H := hX
  have fs98 := mh_self hX
  refine lv_iload_n hx hb d_MM_fails_13 rfl (lv_at hl 1 rfl) ?_
  exact mh_iret K0 hr (by decide) hlocks hX hS (⟨rfl, fs98, (mh_F.rf.set (by omega) (by omega))⟩) (Nat.le_of_ble_eq_true rfl) (Nat.le_of_ble_eq_true rfl) d_MM_fails_14
set_option maxHeartbeats 4000000 in
set_option maxRecDepth 100000 in
theorem c_MM_fails0 {l : Launch} {b : Nat} {dC : Nat → ClassId} {dI : Nat → Nat → Nat} {dA : Nat → ClassId} {zs : Nat → Nat} {w : mh_w} {m0 aG aO aA aV aH nn rr : Nat} {er : Int32} (h : w 50 0 = some (m0, .inr (7, [.int er, .ref aG, .ref aO, .ref aA, .ref aV, .ref aH, .int (nI nn), .int (nI rr)]))) {y : Nat} : mh_Met l b dC dI dA zs y_MM_fails (mh_rm 0 0 0) [.ref m0, .int (nI 0), .int (nI y)] w (mh_V (some (.int (nI 0))) (fun w' => w' 50 0 = some (m0, .inr (7, [.int (nI 0), .ref aG, .ref aO, .ref aA, .ref aV, .ref aH, .int (nI nn), .int (nI rr)])) ∧ mh_F w w' 50 1 0)) := by
  refine mh_ofW (cc := b_MM_fails) (n := 3) (ret := (some .boolean)) (hs := []) (by decide) k749 ?_
  intro p e s m below meth c hx hb hr hml hown hts hlocks hnm hT hOK hadm
  have K0 : mh_K0 p s m ([.ref m0, .int (nI 0), .int (nI y)]).toArray c "MeldHostModel" b_MM_fails dC dI dA := ⟨hx, hb, hown, hts, hOK.1, hOK.2.1⟩
  have hX := hOK.2.2.2.2
  have hb0 := hOK.2.2.2.1
  have hS : va_S (mh_A b) s.heap s.heap [] := va_S.rf
  have hl := lv_entry ([.ref m0, .int (nI 0), .int (nI y)]) (n := 3) (Nat.le_of_ble_eq_true rfl)
  rw [lg_entry_eq]
  generalize (lg_sl ([.ref m0, .int (nI 0), .int (nI y)]) ++ List.replicate (3 - (lg_sl ([.ref m0, .int (nI 0), .int (nI y)])).length) Slot.unset).toArray = ls at hl ⊢
  have hl : lv_has ls 3 [(0, .ref m0), (1, .int (nI 0)), (2, .int (nI y))] := hl
  refine lv_aload_n hx hb d_MM_fails_0 rfl (lv_at hl 0 rfl) ?_
  refine lv_iload_n hx hb d_MM_fails_1 rfl (lv_at hl 1 rfl) ?_
  refine mh_if_eq (tgt := 9) hx hb (by omega) d_MM_fails_2 (by decide) (fun _ => ?_) (fun z => absurd z (by omega))
  refine lv_iconst (v := nI 0) hx hb d_MM_fails_9 (by decide) ?_
  refine mh_put K0 hX hS h f_MM_31 p_7_0 rfl rfl (Nat.le_of_ble_eq_true rfl) d_MM_fails_10 (fun H locs hX hS => ?_)
  have hX : mh_P (dC, dI) b (mh_set _ 50 0 (some (m0, .inr (7, [.int (nI 0), .ref aG, .ref aO, .ref aA, .ref aV, .ref aH, .int (nI nn), .int (nI rr)])))) H := hX
  have fs99 := mh_self hX
  refine lv_iload_n hx hb d_MM_fails_13 rfl (lv_at hl 1 rfl) ?_
  exact mh_iret K0 hr (by decide) hlocks hX hS (⟨rfl, fs99, (mh_F.rf.set (by omega) (by omega))⟩) (Nat.le_of_ble_eq_true rfl) (Nat.le_of_ble_eq_true rfl) d_MM_fails_14
set_option maxHeartbeats 4000000 in
set_option maxRecDepth 100000 in
theorem c_MM_in {l : Launch} {b : Nat} {dC : Nat → ClassId} {dI : Nat → Nat → Nat} {dA : Nat → ClassId} {zs : Nat → Nat} {w : mh_w} {v : Int32} {bd : Nat} : mh_Met l b dC dI dA zs y_MM_in (mh_rm 0 0 0) [.int v, .int (nI bd)] w (mh_V (some (.int (mh_b (st_in v bd)))) (fun w' => w' = w)) := by
  refine mh_ofW (cc := b_MM_in) (n := 2) (ret := (some .boolean)) (hs := []) (by decide) k745 ?_
  intro p e s m below meth c hx hb hr hml hown hts hlocks hnm hT hOK hadm
  have K0 : mh_K0 p s m ([.int v, .int (nI bd)]).toArray c "MeldHostModel" b_MM_in dC dI dA := ⟨hx, hb, hown, hts, hOK.1, hOK.2.1⟩
  have hX := hOK.2.2.2.2
  have hb0 := hOK.2.2.2.1
  have hS : va_S (mh_A b) s.heap s.heap [] := va_S.rf
  have hl := lv_entry ([.int v, .int (nI bd)]) (n := 2) (Nat.le_of_ble_eq_true rfl)
  rw [lg_entry_eq]
  generalize (lg_sl ([.int v, .int (nI bd)]) ++ List.replicate (2 - (lg_sl ([.int v, .int (nI bd)])).length) Slot.unset).toArray = ls at hl ⊢
  have hl : lv_has ls 2 [(0, .int v), (1, .int (nI bd))] := hl
  refine lv_iload_n hx hb d_MM_in_0 rfl (lv_at hl 0 rfl) ?_
  refine lv_if_lt (tgt := 13) hx hb d_MM_in_1 (by decide) (fun ct => ?_) (fun cf => ?_)
  · skip
    refine lv_iconst (v := nI 0) hx hb d_MM_in_13 (by decide) ?_
    exact mh_iret K0 hr (by decide) hlocks hX hS (⟨by rw [st_in_no (Or.inl ct)]; rfl, rfl⟩) (Nat.le_of_ble_eq_true rfl) (Nat.le_of_ble_eq_true rfl) d_MM_in_14
  · skip
    refine lv_iload_n hx hb d_MM_in_4 rfl (lv_at hl 0 rfl) ?_
    refine lv_iload_n hx hb d_MM_in_5 rfl (lv_at hl 1 rfl) ?_
    refine lv_icmp_ge (tgt := 13) hx hb d_MM_in_6 (by decide) (fun c2 => ?_) (fun c2 => ?_)
    · skip
      refine lv_iconst (v := nI 0) hx hb d_MM_in_13 (by decide) ?_
      exact mh_iret K0 hr (by decide) hlocks hX hS (⟨by rw [st_in_no (Or.inr c2)]; rfl, rfl⟩) (Nat.le_of_ble_eq_true rfl) (Nat.le_of_ble_eq_true rfl) d_MM_in_14
    · skip
      refine lv_iconst (v := nI 1) hx hb d_MM_in_9 (by decide) ?_
      refine lv_goto (tgt := 14) hx hb d_MM_in_10 (by decide) ?_
      exact mh_iret K0 hr (by decide) hlocks hX hS (⟨by rw [show st_in v bd = true by simp [st_in, cf, Int32.not_le.mp c2]]; rfl, rfl⟩) (Nat.le_of_ble_eq_true rfl) (Nat.le_of_ble_eq_true rfl) d_MM_in_14
set_option maxHeartbeats 4000000 in
set_option maxRecDepth 100000 in
theorem c_MM_bad {l : Launch} {b : Nat} {dC : Nat → ClassId} {dI : Nat → Nat → Nat} {dA : Nat → ClassId} {zs : Nat → Nat} {w : mh_w} {low high what : Int32} : mh_Met l b dC dI dA zs y_MM_bad (mh_rm 1 0 0) [.int low, .int high, .int what] w (mh_V (some (.int (mh_b (!sp_pt low high what)))) (fun w' => w' = w)) := by
  refine mh_ofW (cc := b_MM_bad) (n := 3) (ret := (some .boolean)) (hs := []) (by decide) k792 ?_
  intro p e s m below meth c hx hb hr hml hown hts hlocks hnm hT hOK hadm
  have K0 : mh_K0 p s m ([.int low, .int high, .int what]).toArray c "MeldHostModel" b_MM_bad dC dI dA := ⟨hx, hb, hown, hts, hOK.1, hOK.2.1⟩
  have hX := hOK.2.2.2.2
  have hb0 := hOK.2.2.2.1
  have hS : va_S (mh_A b) s.heap s.heap [] := va_S.rf
  have hl := lv_entry ([.int low, .int high, .int what]) (n := 3) (Nat.le_of_ble_eq_true rfl)
  rw [lg_entry_eq]
  generalize (lg_sl ([.int low, .int high, .int what]) ++ List.replicate (3 - (lg_sl ([.int low, .int high, .int what])).length) Slot.unset).toArray = ls at hl ⊢
  have hl : lv_has ls 3 [(0, .int low), (1, .int high), (2, .int what)] := hl
  refine lv_iload_n hx hb d_MM_bad_0 rfl (lv_at hl 0 rfl) ?_
  refine lv_sipush (v := nI 256) hx hb d_MM_bad_1 (by decide) ?_
  refine mh_callR (mh_sS (rest := []) (av := [.int low, .int (nI 256)]) K0 e_MM_in l_MM_53 k744 rfl rfl d_MM_bad_4) (c_MM_in) K0 hOK hml hl.1 e_MM_in hX hS d_MM_bad_4 (Nat.le_of_ble_eq_true rfl) (Nat.le_of_ble_eq_true rfl) (Nat.le_of_ble_eq_true rfl) (Nat.le_of_ble_eq_true rfl) (Nat.le_of_ble_eq_true rfl) (fun H locs hX hS => ?_)
  refine W.eq (g2 := F0 m 7 ls [.int (mh_b (st_in low 256))]) rfl ?_
  refine mh_ifeqB (tgt := 33) hx hb d_MM_bad_7 (by decide) (fun c1 => ?_) (fun c1 => ?_)
  · skip
    refine lv_iconst (v := nI 1) hx hb d_MM_bad_33 (by decide) ?_
    refine lv_goto (tgt := 38) hx hb d_MM_bad_34 (by decide) ?_
    exact mh_iret K0 hr (by decide) hlocks hX hS (⟨by rw [show sp_pt low high what = false by simp [sp_pt, c1]]; rfl, rfl⟩) (Nat.le_of_ble_eq_true rfl) (Nat.le_of_ble_eq_true rfl) d_MM_bad_38
  · skip
    refine lv_iload_n hx hb d_MM_bad_10 rfl (lv_at hl 1 rfl) ?_
    refine lv_sipush (v := nI 256) hx hb d_MM_bad_11 (by decide) ?_
    refine mh_callR (mh_sS (rest := []) (av := [.int high, .int (nI 256)]) K0 e_MM_in l_MM_53 k744 rfl rfl d_MM_bad_14) (c_MM_in) K0 hOK hml hl.1 e_MM_in hX hS d_MM_bad_14 (Nat.le_of_ble_eq_true rfl) (Nat.le_of_ble_eq_true rfl) (Nat.le_of_ble_eq_true rfl) (Nat.le_of_ble_eq_true rfl) (Nat.le_of_ble_eq_true rfl) (fun H locs hX hS => ?_)
    refine W.eq (g2 := F0 m 17 ls [.int (mh_b (st_in high 256))]) rfl ?_
    refine mh_ifeqB (tgt := 33) hx hb d_MM_bad_17 (by decide) (fun c2 => ?_) (fun c2 => ?_)
    · skip
      refine lv_iconst (v := nI 1) hx hb d_MM_bad_33 (by decide) ?_
      refine lv_goto (tgt := 38) hx hb d_MM_bad_34 (by decide) ?_
      exact mh_iret K0 hr (by decide) hlocks hX hS (⟨by rw [show sp_pt low high what = false by simp [sp_pt, c2]]; rfl, rfl⟩) (Nat.le_of_ble_eq_true rfl) (Nat.le_of_ble_eq_true rfl) d_MM_bad_38
    · skip
      refine lv_iload_n hx hb d_MM_bad_20 rfl (lv_at hl 0 rfl) ?_
      refine lv_iload_n hx hb d_MM_bad_21 rfl (lv_at hl 1 rfl) ?_
      refine lv_icmp_gt (tgt := 33) hx hb d_MM_bad_22 (by decide) (fun c3 => ?_) (fun c3 => ?_)
      · skip
        refine lv_iconst (v := nI 1) hx hb d_MM_bad_33 (by decide) ?_
        refine lv_goto (tgt := 38) hx hb d_MM_bad_34 (by decide) ?_
        exact mh_iret K0 hr (by decide) hlocks hX hS (⟨by rw [show sp_pt low high what = false by simp [sp_pt, Int32.not_le.mpr c3]]; rfl, rfl⟩) (Nat.le_of_ble_eq_true rfl) (Nat.le_of_ble_eq_true rfl) d_MM_bad_38
      · skip
        refine lv_iload_n hx hb d_MM_bad_25 rfl (lv_at hl 2 rfl) ?_
        refine lv_iconst (v := nI 4) hx hb d_MM_bad_26 (by decide) ?_
        refine mh_callR (mh_sS (rest := []) (av := [.int what, .int (nI 4)]) K0 e_MM_in l_MM_53 k744 rfl rfl d_MM_bad_27) (c_MM_in) K0 hOK hml hl.1 e_MM_in hX hS d_MM_bad_27 (Nat.le_of_ble_eq_true rfl) (Nat.le_of_ble_eq_true rfl) (Nat.le_of_ble_eq_true rfl) (Nat.le_of_ble_eq_true rfl) (Nat.le_of_ble_eq_true rfl) (fun H locs hX hS => ?_)
        refine W.eq (g2 := F0 m 30 ls [.int (mh_b (st_in what 4))]) rfl ?_
        refine mh_ifneB (tgt := 37) hx hb d_MM_bad_30 (by decide) (fun c4 => ?_) (fun c4 => ?_)
        · skip
          refine lv_iconst (v := nI 0) hx hb d_MM_bad_37 (by decide) ?_
          exact mh_iret K0 hr (by decide) hlocks hX hS (⟨by rw [show sp_pt low high what = true by simp [sp_pt, c1, c2, Int32.not_lt.mp c3, c4]]; rfl, rfl⟩) (Nat.le_of_ble_eq_true rfl) (Nat.le_of_ble_eq_true rfl) d_MM_bad_38
        · skip
          refine lv_iconst (v := nI 1) hx hb d_MM_bad_33 (by decide) ?_
          refine lv_goto (tgt := 38) hx hb d_MM_bad_34 (by decide) ?_
          exact mh_iret K0 hr (by decide) hlocks hX hS (⟨by rw [show sp_pt low high what = false by simp [sp_pt, c4]]; rfl, rfl⟩) (Nat.le_of_ble_eq_true rfl) (Nat.le_of_ble_eq_true rfl) d_MM_bad_38
set_option maxHeartbeats 4000000 in
set_option maxRecDepth 100000 in
theorem c_MM_apply {l : Launch} {b : Nat} {dC : Nat → ClassId} {dI : Nat → Nat → Nat} {dA : Nat → ClassId} {zs : Nat → Nat} {w : mh_w} {m0 aG aO aA aV aH nn rr : Nat} {er : Int32} (h : w 50 0 = some (m0, .inr (7, [.int er, .ref aG, .ref aO, .ref aA, .ref aV, .ref aH, .int (nI nn), .int (nI rr)]))) {st : Nat → Option Int64} (hT0 : rT dA w aV aH st) {k i a m9 : Nat} {x : st_I} {op : Bool} (hx9 : rW dA w k i a x op) (ho : iv_ok m9 x) (hk : 56 ≤ k) : mh_Met l b dC dI dA zs y_MM_apply (mh_rm 0 0 0) [.ref m0, .ref a] w (mh_V none (fun w' => rT dA w' aV aH (st_aw (iv_wk x) (iv_wv x) st (iv_nw x)) ∧ mh_F w w' 54 2 0)) := by
  obtain ⟨vf, hf, t54, t55, ht⟩ := hT0
  obtain ⟨a1, a2, a3, a4, a5, a6, rdf, lo, hi, wk, no, nn, i0, i1, i2, i3, i4, i5, i6, hrd, hlo, hwk⟩ := hx9
  obtain ⟨o1, o2, o3, o4, o5, o6, o7, o8⟩ := ho
  refine mh_ofW (cc := b_MM_apply) (n := 3) (ret := none) (hs := []) (by decide) k773 ?_
  intro p e s m below meth c hx hb hr hml hown hts hlocks hnm hT hOK hadm
  have K0 : mh_K0 p s m ([.ref m0, .ref a]).toArray c "MeldHostModel" b_MM_apply dC dI dA := ⟨hx, hb, hown, hts, hOK.1, hOK.2.1⟩
  have hX := hOK.2.2.2.2
  have hb0 := hOK.2.2.2.1
  have hS : va_S (mh_A b) s.heap s.heap [] := va_S.rf
  have hl := lv_entry ([.ref m0, .ref a]) (n := 3) (Nat.le_of_ble_eq_true rfl)
  rw [lg_entry_eq]
  generalize (lg_sl ([.ref m0, .ref a]) ++ List.replicate (3 - (lg_sl ([.ref m0, .ref a])).length) Slot.unset).toArray = ls at hl ⊢
  have hl : lv_has ls 3 [(0, .ref m0), (1, .ref a)] := hl
  refine lv_iconst (v := nI 0) hx hb d_MM_apply_0 (by decide) ?_
  refine lv_istore_n (lv' := [(2, .int (nI 0)), (0, .ref m0), (1, .ref a)]) hx hb d_MM_apply_1 rfl hl (by decide) rfl (fun ls hl => ?_)
  have LP : ∀ (n : Nat) (j : Nat) (w1 : mh_w) (vf1 : Nat → Int64) (hf1 : Nat → Int32) (H : Heap) (locs : List Loc) (ls : Array Slot), mh_P (dC, dI) b w1 H → va_S (mh_A b) s.heap H locs → lv_has ls 3 [(2, .int (nI j)), (0, .ref m0), (1, .ref a)] → (j + n = iv_nw x) → (w1 54 0 = some (aV, .inl (dA 1, 256, .inr (.inl vf1)))) → (w1 55 0 = some (aH, .inl (dA 2, 256, .inl hf1))) → (∀ z, z < 256 → hf1 z = mh_b (st_aw (iv_wk x) (iv_wv x) st j z).isSome ∧ ∀ v, st_aw (iv_wk x) (iv_wv x) st j z = some v → vf1 z = v) → (mh_F w w1 54 2 0) → W p l e (mh_rm 0 0 0) s m ([.ref m0, .ref a]).toArray below meth c H locs (0) (0) (mh_MQ below b dC dI (mh_V none (fun w' => rT dA w' aV aH (st_aw (iv_wk x) (iv_wv x) st (iv_nw x)) ∧ mh_F w w' 54 2 0)) ([.ref m0, .ref a]).toArray s 0 0) (F0 m 2 ls []) := by
    intro n
    induction n with
    | zero =>
      intro j w1 vf1 hf1 H locs ls hX hS hl hn9 c54 c55 hq hF
      refine lv_iload_n hx hb d_MM_apply_2 rfl (lv_at hl 0 rfl) ?_
      refine lv_aload_n hx hb d_MM_apply_3 rfl (lv_at hl 2 rfl) ?_
      refine mh_get K0 hX ((hF k i (by omega)).trans i0) f_MM_43 rfl d_MM_apply_4 ?_
      refine mh_icmp_ge (tgt := 58) hx hb (by omega) (by omega) d_MM_apply_7 (by decide) (fun _ => ?_) (fun z => absurd z (by omega))
      exact mh_vret K0 hr hlocks hX hS (⟨rfl, ⟨vf1, hf1, c54, c55, by rw [show iv_nw x = j by omega]; exact hq⟩, hF⟩) (Nat.le_of_ble_eq_true rfl) (Nat.le_of_ble_eq_true rfl) d_MM_apply_58
    | succ n ih =>
      intro j w1 vf1 hf1 H locs ls hX hS hl hn9 c54 c55 hq hF
      have b7 := o7 j (by omega)
      refine lv_iload_n hx hb d_MM_apply_2 rfl (lv_at hl 0 rfl) ?_
      refine lv_aload_n hx hb d_MM_apply_3 rfl (lv_at hl 2 rfl) ?_
      refine mh_get K0 hX ((hF k i (by omega)).trans i0) f_MM_43 rfl d_MM_apply_4 ?_
      refine mh_icmp_ge (tgt := 58) hx hb (by omega) (by omega) d_MM_apply_7 (by decide) (fun z => absurd z (by omega)) (fun _ => ?_)
      refine lv_aload_n hx hb d_MM_apply_10 rfl (lv_at hl 1 rfl) ?_
      refine mh_get K0 hX ((hF 50 0 (by omega)).trans h) f_MM_22 rfl d_MM_apply_11 ?_
      refine lv_aload_n hx hb d_MM_apply_14 rfl (lv_at hl 2 rfl) ?_
      refine mh_get K0 hX ((hF k i (by omega)).trans i0) f_MM_46 rfl d_MM_apply_15 ?_
      refine lv_iload_n hx hb d_MM_apply_18 rfl (lv_at hl 0 rfl) ?_
      refine mh_ialdN K0 hX ((hF (k + 4) i (by omega)).trans i4) (by omega) (by omega) d_MM_apply_19 ?_
      refine mh_ti (y := nI (iv_wk x j)) ((hwk j (by omega)).1) ?_
      refine lv_aload_n hx hb d_MM_apply_20 rfl (lv_at hl 2 rfl) ?_
      refine mh_get K0 hX ((hF k i (by omega)).trans i0) f_MM_49 rfl d_MM_apply_21 ?_
      refine lv_iload_n hx hb d_MM_apply_24 rfl (lv_at hl 0 rfl) ?_
      refine mh_laldN K0 hX ((hF (k + 5) i (by omega)).trans i5) (by omega) (by omega) d_MM_apply_25 ?_
      refine mh_lastN K0 hX hS c54 (by omega) (by omega) d_MM_apply_26 (fun H locs hX hS => ?_)
      have fs100 := mh_self hX
      refine lv_aload_n hx hb d_MM_apply_27 rfl (lv_at hl 1 rfl) ?_
      refine mh_get K0 hX (mh_kp ((hF 50 0 (by omega)).trans h) (by omega)) f_MM_26 rfl d_MM_apply_28 ?_
      refine lv_aload_n hx hb d_MM_apply_31 rfl (lv_at hl 2 rfl) ?_
      refine mh_get K0 hX (mh_kp ((hF k i (by omega)).trans i0) (by omega)) f_MM_46 rfl d_MM_apply_32 ?_
      refine lv_iload_n hx hb d_MM_apply_35 rfl (lv_at hl 0 rfl) ?_
      refine mh_ialdN K0 hX (mh_kp ((hF (k + 4) i (by omega)).trans i4) (by omega)) (by omega) (by omega) d_MM_apply_36 ?_
      refine mh_ti (y := nI (iv_wk x j)) ((hwk j (by omega)).1) ?_
      refine lv_aload_n hx hb d_MM_apply_37 rfl (lv_at hl 2 rfl) ?_
      refine mh_get K0 hX (mh_kp ((hF k i (by omega)).trans i0) (by omega)) f_MM_50 rfl d_MM_apply_38 ?_
      refine lv_iload_n hx hb d_MM_apply_41 rfl (lv_at hl 0 rfl) ?_
      refine mh_zaldN K0 hX (mh_kp ((hF (k + 6) i (by omega)).trans i6) (by omega)) (by omega) (by omega) d_MM_apply_42 ?_
      refine mh_ti (y := mh_b (!(iv_wv x j).isSome)) ((hwk j (by omega)).2.1) ?_
      refine mh_ifneB (tgt := 50) hx hb d_MM_apply_43 (by decide) (fun ct => ?_) (fun cf => ?_)
      · skip
        refine lv_iconst (v := nI 0) hx hb d_MM_apply_50 (by decide) ?_
        refine mh_zastN K0 hX hS (mh_kp c55 (by omega)) (by decide) (by omega) (by omega) d_MM_apply_51 (fun H locs hX hS => ?_)
        have fs101 := mh_self hX
        refine lv_iinc (v := nI (j + 1)) (k := 0) (lv' := [(2, .int (nI (j + 1))), (0, .ref m0), (1, .ref a)]) hx hb d_MM_apply_52 hl rfl (mh_inc j) (by decide) rfl (fun ls hl => ?_)
        refine lv_goto (tgt := 2) hx hb d_MM_apply_55 (by decide) ?_
        refine ih (j + 1) _ _ _ _ _ _ hX hS hl (by omega) (mh_kp fs100 (by omega)) fs101 (fun z hz => ?_) ((hF.set (by omega) (by omega)).set (by omega) (by omega))
        rw [st_aw]
        by_cases e9 : z = iv_wk x j
        · have ev : iv_wv x j = none := by cases e8 : iv_wv x j with | none => rfl | some q => rw [e8] at ct; cases ct
          rw [e9, pk_us, va_up_self, ev]; exact ⟨rfl, fun v hv => by cases hv⟩
        · rw [pk_un e9, pk_uLn e9, va_up_ne _ _ e9]; exact hq z hz
      · skip
        refine lv_iconst (v := nI 1) hx hb d_MM_apply_46 (by decide) ?_
        refine lv_goto (tgt := 51) hx hb d_MM_apply_47 (by decide) ?_
        refine mh_zastN K0 hX hS (mh_kp c55 (by omega)) (by decide) (by omega) (by omega) d_MM_apply_51 (fun H locs hX hS => ?_)
        have fs102 := mh_self hX
        refine lv_iinc (v := nI (j + 1)) (k := 0) (lv' := [(2, .int (nI (j + 1))), (0, .ref m0), (1, .ref a)]) hx hb d_MM_apply_52 hl rfl (mh_inc j) (by decide) rfl (fun ls hl => ?_)
        refine lv_goto (tgt := 2) hx hb d_MM_apply_55 (by decide) ?_
        refine ih (j + 1) _ _ _ _ _ _ hX hS hl (by omega) (mh_kp fs100 (by omega)) fs102 (fun z hz => ?_) ((hF.set (by omega) (by omega)).set (by omega) (by omega))
        rw [st_aw]
        by_cases e9 : z = iv_wk x j
        · obtain ⟨q, hq9⟩ : ∃ q, iv_wv x j = some q := by cases e8 : iv_wv x j with | none => rw [e8] at cf; cases cf | some q => exact ⟨q, rfl⟩
          rw [e9, pk_us, pk_uLs, va_up_self, hq9]; exact ⟨rfl, fun v hv => by cases hv; exact (hwk j (by omega)).2.2 _ hq9⟩
        · rw [pk_un e9, pk_uLn e9, va_up_ne _ _ e9]; exact hq z hz
  exact LP (iv_nw x) 0 _ _ _ _ _ _ hX hS hl (Nat.zero_add _) t54 t55 ht mh_F.rf
set_option maxHeartbeats 4000000 in
set_option maxRecDepth 100000 in
theorem c_MM_upTo {l : Launch} {b : Nat} {dC : Nat → ClassId} {dI : Nat → Nat → Nat} {dA : Nat → ClassId} {zs : Nat → Nat} {w : mh_w} {m0 aG aO aA aV aH nn rr : Nat} {er : Int32} (h : w 50 0 = some (m0, .inr (7, [.int er, .ref aG, .ref aO, .ref aA, .ref aV, .ref aH, .int (nI nn), .int (nI rr)]))) {lg : Nat → Option Nat} {log : Nat → st_I} (hlg : w 51 0 = some (aG, .inl (dA 7, 400, .inr (.inr (.inr (.inr lg)))))) {n0 : Nat} (hn0 : n0 ≤ 400) (rl : ∀ i, i < n0 → ∃ a, lg i = some a ∧ rW dA w 66 i a (log i) false) (glo : ∀ i, i < n0 → iv_ok i (log i)) (h54 : ∃ vf, w 54 0 = some (aV, .inl (dA 1, 256, .inr (.inl vf)))) (h55 : ∃ hf, w 55 0 = some (aH, .inl (dA 2, 256, .inl hf))) : mh_Met l b dC dI dA zs y_MM_upTo (mh_rm 1 0 0) [.ref m0, .int (nI n0)] w (mh_V none (fun w' => rT dA w' aV aH (st_st log n0) ∧ mh_F w w' 54 2 0)) := by
  obtain ⟨vf, t54⟩ := h54
  obtain ⟨hf, t55⟩ := h55
  refine mh_ofW (cc := b_MM_upTo) (n := 3) (ret := none) (hs := []) (by decide) k769 ?_
  intro p e s m below meth c hx hb hr hml hown hts hlocks hnm hT hOK hadm
  have K0 : mh_K0 p s m ([.ref m0, .int (nI n0)]).toArray c "MeldHostModel" b_MM_upTo dC dI dA := ⟨hx, hb, hown, hts, hOK.1, hOK.2.1⟩
  have hX := hOK.2.2.2.2
  have hb0 := hOK.2.2.2.1
  have hS : va_S (mh_A b) s.heap s.heap [] := va_S.rf
  have hl := lv_entry ([.ref m0, .int (nI n0)]) (n := 3) (Nat.le_of_ble_eq_true rfl)
  rw [lg_entry_eq]
  generalize (lg_sl ([.ref m0, .int (nI n0)]) ++ List.replicate (3 - (lg_sl ([.ref m0, .int (nI n0)])).length) Slot.unset).toArray = ls at hl ⊢
  have hl : lv_has ls 3 [(0, .ref m0), (1, .int (nI n0))] := hl
  refine lv_iconst (v := nI 0) hx hb d_MM_upTo_0 (by decide) ?_
  refine lv_istore_n (lv' := [(2, .int (nI 0)), (0, .ref m0), (1, .int (nI n0))]) hx hb d_MM_upTo_1 rfl hl (by decide) rfl (fun ls hl => ?_)
  have LP : ∀ (n : Nat) (j : Nat) (w1 : mh_w) (hf1 : Nat → Int32) (H : Heap) (locs : List Loc) (ls : Array Slot), mh_P (dC, dI) b w1 H → va_S (mh_A b) s.heap H locs → lv_has ls 3 [(2, .int (nI j)), (0, .ref m0), (1, .int (nI n0))] → (j + n = 256) → (w1 55 0 = some (aH, .inl (dA 2, 256, .inl hf1))) → (∀ z, z < j → hf1 z = 0) → (mh_F w w1 54 2 0) → (w1 54 0 = some (aV, .inl (dA 1, 256, .inr (.inl vf)))) → W p l e (mh_rm 1 0 0) s m ([.ref m0, .int (nI n0)]).toArray below meth c H locs (0) (0) (mh_MQ below b dC dI (mh_V none (fun w' => rT dA w' aV aH (st_st log n0) ∧ mh_F w w' 54 2 0)) ([.ref m0, .int (nI n0)]).toArray s 0 0) (F0 m 2 ls []) := by
    intro n
    induction n with
    | zero =>
      intro j w1 hf1 H locs ls hX hS hl hn9 c55 hq hF c54
      refine lv_iload_n hx hb d_MM_upTo_2 rfl (lv_at hl 0 rfl) ?_
      refine lv_sipush (v := nI 256) hx hb d_MM_upTo_3 (by decide) ?_
      refine mh_icmp_ge (tgt := 22) hx hb (by omega) (by omega) d_MM_upTo_6 (by decide) (fun _ => ?_) (fun z => absurd z (by omega))
      refine lv_iconst (v := nI 0) hx hb d_MM_upTo_22 (by decide) ?_
      refine lv_istore_n (lv' := [(2, .int (nI 0)), (0, .ref m0), (1, .int (nI n0))]) hx hb d_MM_upTo_23 rfl hl (by decide) rfl (fun ls hl => ?_)
      have LP2 : ∀ (n : Nat) (j : Nat) (w2 : mh_w) (H : Heap) (locs : List Loc) (ls : Array Slot), mh_P (dC, dI) b w2 H → va_S (mh_A b) s.heap H locs → lv_has ls 3 [(2, .int (nI j)), (0, .ref m0), (1, .int (nI n0))] → (j + n = n0) → (rT dA w2 aV aH (st_st log j)) → (mh_F w w2 54 2 0) → W p l e (mh_rm 1 0 0) s m ([.ref m0, .int (nI n0)]).toArray below meth c H locs (0) (0) (mh_MQ below b dC dI (mh_V none (fun w' => rT dA w' aV aH (st_st log n0) ∧ mh_F w w' 54 2 0)) ([.ref m0, .int (nI n0)]).toArray s 0 0) (F0 m 24 ls []) := by
        intro n
        induction n with
        | zero =>
          intro j w2 H locs ls hX hS hl hn9 hT2 hF2
          refine lv_iload_n hx hb d_MM_upTo_24 rfl (lv_at hl 0 rfl) ?_
          refine lv_iload_n hx hb d_MM_upTo_25 rfl (lv_at hl 2 rfl) ?_
          refine mh_icmp_ge (tgt := 57) hx hb (by omega) (by omega) d_MM_upTo_26 (by decide) (fun _ => ?_) (fun z => absurd z (by omega))
          exact mh_vret K0 hr hlocks hX hS (⟨rfl, by rw [show n0 = j by omega]; exact hT2, hF2⟩) (Nat.le_of_ble_eq_true rfl) (Nat.le_of_ble_eq_true rfl) d_MM_upTo_57
        | succ n ih =>
          intro j w2 H locs ls hX hS hl hn9 hT2 hF2
          obtain ⟨yy, hy1, hy2⟩ := rl j (by omega)
          have hy3 : rW dA w2 66 j yy (log j) false := hy2.to (fun z hz => hF2 _ _ (by omega))
          obtain ⟨a1, a2, a3, a4, a5, a6, j0⟩ := hy3.fst
          refine lv_iload_n hx hb d_MM_upTo_24 rfl (lv_at hl 0 rfl) ?_
          refine lv_iload_n hx hb d_MM_upTo_25 rfl (lv_at hl 2 rfl) ?_
          refine mh_icmp_ge (tgt := 57) hx hb (by omega) (by omega) d_MM_upTo_26 (by decide) (fun z => absurd z (by omega)) (fun _ => ?_)
          refine lv_aload_n hx hb d_MM_upTo_29 rfl (lv_at hl 1 rfl) ?_
          refine mh_get K0 hX ((hF2 50 0 (by omega)).trans h) f_MM_11 rfl d_MM_upTo_30 ?_
          refine lv_iload_n hx hb d_MM_upTo_33 rfl (lv_at hl 0 rfl) ?_
          refine mh_aaldN 7 rfl K0 hX ((hF2 51 0 (by omega)).trans hlg) (by omega) (by omega) (r := (some yy)) (hy1) d_MM_upTo_34 ?_
          refine W.eq (g2 := F0 m 35 ls [.ref yy]) rfl ?_
          refine mh_get K0 hX j0 f_MM_35 rfl d_MM_upTo_35 ?_
          refine mh_ifeqB (tgt := 51) hx hb d_MM_upTo_38 (by decide) (fun ct => ?_) (fun cf => ?_)
          · skip
            refine lv_iinc (v := nI (j + 1)) (k := 0) (lv' := [(2, .int (nI (j + 1))), (0, .ref m0), (1, .int (nI n0))]) hx hb d_MM_upTo_51 hl rfl (mh_inc j) (by decide) rfl (fun ls hl => ?_)
            refine lv_goto (tgt := 24) hx hb d_MM_upTo_54 (by decide) ?_
            exact ih (j + 1) _ _ _ _ hX hS hl (by omega) (by rw [st_st, if_neg (by rw [ct]; decide)]; exact hT2) hF2
          · skip
            refine lv_aload_n hx hb d_MM_upTo_41 rfl (lv_at hl 1 rfl) ?_
            refine lv_aload_n hx hb d_MM_upTo_42 rfl (lv_at hl 1 rfl) ?_
            refine mh_get K0 hX ((hF2 50 0 (by omega)).trans h) f_MM_11 rfl d_MM_upTo_43 ?_
            refine lv_iload_n hx hb d_MM_upTo_46 rfl (lv_at hl 0 rfl) ?_
            refine mh_aaldN 7 rfl K0 hX ((hF2 51 0 (by omega)).trans hlg) (by omega) (by omega) (r := (some yy)) (hy1) d_MM_upTo_47 ?_
            refine W.eq (g2 := F0 m 48 ls [.ref yy, .ref m0]) rfl ?_
            refine mh_callV (mh_sV (rest := []) (av := [.ref yy]) K0 hX ((hF2 50 0 (by omega)).trans h) rfl e_MM_apply l_MM_39 k772 kp18 rfl rfl d_MM_upTo_48) (c_MM_apply ((hF2 50 0 (by omega)).trans h) hT2 hy3 (glo j (by omega)) (by omega)) K0 hOK hml hl.1 e_MM_apply hX hS d_MM_upTo_48 (Nat.le_of_ble_eq_true rfl) (Nat.le_of_ble_eq_true rfl) (Nat.le_of_ble_eq_true rfl) (Nat.le_of_ble_eq_true rfl) (Nat.le_of_ble_eq_true rfl) (fun w3 H locs ⟨hT3, hF3⟩ hX hS => ?_)
            refine W.eq (g2 := F0 m 51 ls []) rfl ?_
            refine lv_iinc (v := nI (j + 1)) (k := 0) (lv' := [(2, .int (nI (j + 1))), (0, .ref m0), (1, .int (nI n0))]) hx hb d_MM_upTo_51 hl rfl (mh_inc j) (by decide) rfl (fun ls hl => ?_)
            refine lv_goto (tgt := 24) hx hb d_MM_upTo_54 (by decide) ?_
            exact ih (j + 1) _ _ _ _ hX hS hl (by omega) (by rw [st_st, if_pos cf]; exact hT3) (fun k i h => (hF3 k i h).trans (hF2 k i h))
      exact LP2 n0 0 _ _ _ _ hX hS hl (Nat.zero_add _) ⟨vf, hf1, c54, c55, fun q hq9 => ⟨hq q (by omega), fun v hv => by cases hv⟩⟩ hF
    | succ n ih =>
      intro j w1 hf1 H locs ls hX hS hl hn9 c55 hq hF c54
      refine lv_iload_n hx hb d_MM_upTo_2 rfl (lv_at hl 0 rfl) ?_
      refine lv_sipush (v := nI 256) hx hb d_MM_upTo_3 (by decide) ?_
      refine mh_icmp_ge (tgt := 22) hx hb (by omega) (by omega) d_MM_upTo_6 (by decide) (fun z => absurd z (by omega)) (fun _ => ?_)
      refine lv_aload_n hx hb d_MM_upTo_9 rfl (lv_at hl 1 rfl) ?_
      refine mh_get K0 hX ((hF 50 0 (by omega)).trans h) f_MM_26 rfl d_MM_upTo_10 ?_
      refine lv_iload_n hx hb d_MM_upTo_13 rfl (lv_at hl 0 rfl) ?_
      refine lv_iconst (v := nI 0) hx hb d_MM_upTo_14 (by decide) ?_
      refine mh_zastN K0 hX hS c55 (by decide) (by omega) (by omega) d_MM_upTo_15 (fun H locs hX hS => ?_)
      have fs103 := mh_self hX
      refine lv_iinc (v := nI (j + 1)) (k := 0) (lv' := [(2, .int (nI (j + 1))), (0, .ref m0), (1, .int (nI n0))]) hx hb d_MM_upTo_16 hl rfl (mh_inc j) (by decide) rfl (fun ls hl => ?_)
      refine lv_goto (tgt := 2) hx hb d_MM_upTo_19 (by decide) ?_
      exact ih (j + 1) _ _ _ _ _ hX hS hl (by omega) fs103 (fun z hz => if e9 : z = j then (by rw [e9]; exact pk_us) else (pk_un e9).trans (hq z (by omega))) (hF.set (by omega) (by omega)) (mh_kp c54 (by omega))
  exact LP 256 0 _ _ _ _ _ hX hS hl rfl t55 (fun z hz => absurd hz (Nat.not_lt_zero z)) mh_F.rf t54
set_option maxHeartbeats 4000000 in
set_option maxRecDepth 100000 in
theorem c_MM_told {l : Launch} {b : Nat} {dC : Nat → ClassId} {dI : Nat → Nat → Nat} {dA : Nat → ClassId} {zs : Nat → Nat} {w : mh_w} {m0 aG aO aA aV aH nn rr : Nat} {er : Int32} (h : w 50 0 = some (m0, .inr (7, [.int er, .ref aG, .ref aO, .ref aA, .ref aV, .ref aH, .int (nI nn), .int (nI rr)]))) {st : Nat → Option Int64} (hT0 : rT dA w aV aH st) {low high q9 : Nat} (h1 : low ≤ high) (h2 : high < 256) (h3 : q9 < 4) : mh_Met l b dC dI dA zs y_MM_told (mh_rm 0 0 0) [.ref m0, .int (nI low), .int (nI high), .int (nI q9)] w (mh_V (some (.long (tl_a st low (high + 1 - low) (nI q9)))) (fun w' => w' = w)) := by
  obtain ⟨vf, hf, t54, t55, ht⟩ := hT0
  refine mh_ofW (cc := b_MM_told) (n := 10) (ret := (some .long)) (hs := []) (by decide) k796 ?_
  intro p e s m below meth c hx hb hr hml hown hts hlocks hnm hT hOK hadm
  have K0 : mh_K0 p s m ([.ref m0, .int (nI low), .int (nI high), .int (nI q9)]).toArray c "MeldHostModel" b_MM_told dC dI dA := ⟨hx, hb, hown, hts, hOK.1, hOK.2.1⟩
  have hX := hOK.2.2.2.2
  have hb0 := hOK.2.2.2.1
  have hS : va_S (mh_A b) s.heap s.heap [] := va_S.rf
  have hl := lv_entry ([.ref m0, .int (nI low), .int (nI high), .int (nI q9)]) (n := 10) (Nat.le_of_ble_eq_true rfl)
  rw [lg_entry_eq]
  generalize (lg_sl ([.ref m0, .int (nI low), .int (nI high), .int (nI q9)]) ++ List.replicate (10 - (lg_sl ([.ref m0, .int (nI low), .int (nI high), .int (nI q9)])).length) Slot.unset).toArray = ls at hl ⊢
  have hl : lv_has ls 10 [(0, .ref m0), (1, .int (nI low)), (2, .int (nI high)), (3, .int (nI q9))] := hl
  refine lv_lconst (v := 0) hx hb d_MM_told_0 rfl ?_
  refine lv_lstore (lv' := [(4, .long 0), (0, .ref m0), (1, .int (nI low)), (2, .int (nI high)), (3, .int (nI q9))]) hx hb d_MM_told_1 hl (by decide) rfl (fun ls hl => ?_)
  refine lv_iconst (v := nI 0) hx hb d_MM_told_3 (by decide) ?_
  refine lv_istore (lv' := [(6, .int (nI 0)), (4, .long 0), (0, .ref m0), (1, .int (nI low)), (2, .int (nI high)), (3, .int (nI q9))]) hx hb d_MM_told_4 hl (by decide) rfl (fun ls hl => ?_)
  refine lv_iconst (v := (-1)) hx hb d_MM_told_6 (by decide) ?_
  refine lv_istore (lv' := [(7, .int (-1)), (6, .int (nI 0)), (4, .long 0), (0, .ref m0), (1, .int (nI low)), (2, .int (nI high)), (3, .int (nI q9))]) hx hb d_MM_told_7 hl (by decide) rfl (fun ls hl => ?_)
  refine lv_iconst (v := (-1)) hx hb d_MM_told_9 (by decide) ?_
  refine lv_istore (lv' := [(8, .int (-1)), (7, .int (-1)), (6, .int (nI 0)), (4, .long 0), (0, .ref m0), (1, .int (nI low)), (2, .int (nI high)), (3, .int (nI q9))]) hx hb d_MM_told_10 hl (by decide) rfl (fun ls hl => ?_)
  refine lv_iload_n hx hb d_MM_told_12 rfl (lv_at hl 5 rfl) ?_
  refine lv_istore (lv' := [(9, .int (nI low)), (8, .int (-1)), (7, .int (-1)), (6, .int (nI 0)), (4, .long 0), (0, .ref m0), (1, .int (nI low)), (2, .int (nI high)), (3, .int (nI q9))]) hx hb d_MM_told_13 hl (by decide) rfl (fun ls hl => ?_)
  have LP : ∀ (n : Nat) (j : Nat) (H : Heap) (locs : List Loc) (ls : Array Slot), mh_P (dC, dI) b w H → va_S (mh_A b) s.heap H locs → lv_has ls 10 [(9, .int (nI (low + j))), (8, .int (tl_i (tl_g st low j))), (7, .int (tl_i (tl_l st low j))), (6, .int (nI (tl_n st low j))), (4, .long (tl_s st low j)), (0, .ref m0), (1, .int (nI low)), (2, .int (nI high)), (3, .int (nI q9))] → (j + n = high + 1 - low) → W p l e (mh_rm 0 0 0) s m ([.ref m0, .int (nI low), .int (nI high), .int (nI q9)]).toArray below meth c H locs (0) (0) (mh_MQ below b dC dI (mh_V (some (.long (tl_a st low (high + 1 - low) (nI q9)))) (fun w' => w' = w)) ([.ref m0, .int (nI low), .int (nI high), .int (nI q9)]).toArray s 0 0) (F0 m 15 ls []) := by
    intro n
    induction n with
    | zero =>
      intro j H locs ls hX hS hl hn9
      refine lv_iload hx hb d_MM_told_15 (lv_at hl 0 rfl) ?_
      refine lv_iload_n hx hb d_MM_told_17 rfl (lv_at hl 7 rfl) ?_
      refine mh_icmp_gt (tgt := 65) hx hb (by omega) (by omega) d_MM_told_18 (by decide) (fun _ => ?_) (fun z => absurd z (by omega))
      refine lv_iload_n hx hb d_MM_told_65 rfl (lv_at hl 8 rfl) ?_
      have ej : high + 1 - low = j := by omega
      have hle := tl_n_le st low j
      have hq4 : q9 = 0 ∨ q9 = 1 ∨ q9 = 2 ∨ q9 = 3 := by omega
      rcases hq4 with rfl | rfl | rfl | rfl
      · skip
        refine mh_if_ne (tgt := 75) hx hb (by omega) d_MM_told_66 (by decide) (fun z => absurd z (by omega)) (fun _ => ?_)
        refine lv_iload hx hb d_MM_told_69 (lv_at hl 3 rfl) ?_
        refine lv_i2l hx hb d_MM_told_71 rfl ?_
        refine lv_goto (tgt := 99) hx hb d_MM_told_72 (by decide) ?_
        exact mh_lret K0 hr hlocks hX hS (⟨by rw [ej, tl_a0, nI_l (by omega)], rfl⟩) (Nat.le_of_ble_eq_true rfl) (Nat.le_of_ble_eq_true rfl) d_MM_told_99
      · skip
        refine mh_if_ne (tgt := 75) hx hb (by omega) d_MM_told_66 (by decide) (fun _ => ?_) (fun z => absurd z (by omega))
        refine lv_iload_n hx hb d_MM_told_75 rfl (lv_at hl 8 rfl) ?_
        refine lv_iconst (v := nI 1) hx hb d_MM_told_76 (by decide) ?_
        refine mh_icmp_ne (tgt := 85) hx hb (by omega) (by omega) d_MM_told_77 (by decide) (fun z => absurd z (by omega)) (fun _ => ?_)
        refine lv_lload hx hb d_MM_told_80 (lv_at hl 4 rfl) ?_
        refine lv_goto (tgt := 99) hx hb d_MM_told_82 (by decide) ?_
        exact mh_lret K0 hr hlocks hX hS (⟨by rw [ej, tl_a1], rfl⟩) (Nat.le_of_ble_eq_true rfl) (Nat.le_of_ble_eq_true rfl) d_MM_told_99
      · skip
        refine mh_if_ne (tgt := 75) hx hb (by omega) d_MM_told_66 (by decide) (fun _ => ?_) (fun z => absurd z (by omega))
        refine lv_iload_n hx hb d_MM_told_75 rfl (lv_at hl 8 rfl) ?_
        refine lv_iconst (v := nI 1) hx hb d_MM_told_76 (by decide) ?_
        refine mh_icmp_ne (tgt := 85) hx hb (by omega) (by omega) d_MM_told_77 (by decide) (fun _ => ?_) (fun z => absurd z (by omega))
        refine lv_iload_n hx hb d_MM_told_85 rfl (lv_at hl 8 rfl) ?_
        refine lv_iconst (v := nI 2) hx hb d_MM_told_86 (by decide) ?_
        refine mh_icmp_ne (tgt := 96) hx hb (by omega) (by omega) d_MM_told_87 (by decide) (fun z => absurd z (by omega)) (fun _ => ?_)
        refine lv_iload hx hb d_MM_told_90 (lv_at hl 2 rfl) ?_
        refine lv_i2l hx hb d_MM_told_92 rfl ?_
        refine lv_goto (tgt := 99) hx hb d_MM_told_93 (by decide) ?_
        exact mh_lret K0 hr hlocks hX hS (⟨by rw [ej, tl_a2], rfl⟩) (Nat.le_of_ble_eq_true rfl) (Nat.le_of_ble_eq_true rfl) d_MM_told_99
      · skip
        refine mh_if_ne (tgt := 75) hx hb (by omega) d_MM_told_66 (by decide) (fun _ => ?_) (fun z => absurd z (by omega))
        refine lv_iload_n hx hb d_MM_told_75 rfl (lv_at hl 8 rfl) ?_
        refine lv_iconst (v := nI 1) hx hb d_MM_told_76 (by decide) ?_
        refine mh_icmp_ne (tgt := 85) hx hb (by omega) (by omega) d_MM_told_77 (by decide) (fun _ => ?_) (fun z => absurd z (by omega))
        refine lv_iload_n hx hb d_MM_told_85 rfl (lv_at hl 8 rfl) ?_
        refine lv_iconst (v := nI 2) hx hb d_MM_told_86 (by decide) ?_
        refine mh_icmp_ne (tgt := 96) hx hb (by omega) (by omega) d_MM_told_87 (by decide) (fun _ => ?_) (fun z => absurd z (by omega))
        refine lv_iload hx hb d_MM_told_96 (lv_at hl 1 rfl) ?_
        refine lv_i2l hx hb d_MM_told_98 rfl ?_
        exact mh_lret K0 hr hlocks hX hS (⟨by rw [ej, tl_a3], rfl⟩) (Nat.le_of_ble_eq_true rfl) (Nat.le_of_ble_eq_true rfl) d_MM_told_99
    | succ n ih =>
      intro j H locs ls hX hS hl hn9
      have hj9 := ht (low + j) (by omega)
      refine lv_iload hx hb d_MM_told_15 (lv_at hl 0 rfl) ?_
      refine lv_iload_n hx hb d_MM_told_17 rfl (lv_at hl 7 rfl) ?_
      refine mh_icmp_gt (tgt := 65) hx hb (by omega) (by omega) d_MM_told_18 (by decide) (fun z => absurd z (by omega)) (fun _ => ?_)
      refine lv_aload_n hx hb d_MM_told_21 rfl (lv_at hl 5 rfl) ?_
      refine mh_get K0 hX h f_MM_26 rfl d_MM_told_22 ?_
      refine lv_iload hx hb d_MM_told_25 (lv_at hl 0 rfl) ?_
      refine mh_zaldN K0 hX t55 (by omega) (by omega) d_MM_told_27 ?_
      refine mh_ti (y := mh_b ((st (low + j)).isSome)) (hj9.1) ?_
      refine mh_ifeqB (tgt := 59) hx hb d_MM_told_28 (by decide) (fun ct => ?_) (fun cf => ?_)
      · skip
        refine lv_iinc (v := nI ((low + j) + 1)) (k := 0) (lv' := [(9, .int (nI ((low + j) + 1))), (8, .int (tl_i (tl_g st low j))), (7, .int (tl_i (tl_l st low j))), (6, .int (nI (tl_n st low j))), (4, .long (tl_s st low j)), (0, .ref m0), (1, .int (nI low)), (2, .int (nI high)), (3, .int (nI q9))]) hx hb d_MM_told_59 hl rfl (mh_inc (low + j)) (by decide) rfl (fun ls hl => ?_)
        refine lv_goto (tgt := 15) hx hb d_MM_told_62 (by decide) ?_
        have hl : lv_has ls 10 [(9, .int (nI (low + (j + 1)))), (8, .int (tl_i (tl_g st low (j + 1)))), (7, .int (tl_i (tl_l st low (j + 1)))), (6, .int (nI (tl_n st low (j + 1)))), (4, .long (tl_s st low (j + 1))), (0, .ref m0), (1, .int (nI low)), (2, .int (nI high)), (3, .int (nI q9))] := by rw [tl_n_f ct, tl_s_f ct, tl_g_f ct, tl_l_k ct]; exact hl
        exact ih (j + 1) _ _ _ hX hS hl (by omega)
      · skip
        obtain ⟨u, hu⟩ := Option.isSome_iff_exists.mp cf
        refine lv_iinc (v := nI ((tl_n st low j) + 1)) (k := 3) (lv' := [(6, .int (nI ((tl_n st low j) + 1))), (9, .int (nI (low + j))), (8, .int (tl_i (tl_g st low j))), (7, .int (tl_i (tl_l st low j))), (4, .long (tl_s st low j)), (0, .ref m0), (1, .int (nI low)), (2, .int (nI high)), (3, .int (nI q9))]) hx hb d_MM_told_31 hl rfl (mh_inc (tl_n st low j)) (by decide) rfl (fun ls hl => ?_)
        refine lv_lload hx hb d_MM_told_34 (lv_at hl 4 rfl) ?_
        refine lv_aload_n hx hb d_MM_told_36 rfl (lv_at hl 5 rfl) ?_
        refine mh_get K0 hX h f_MM_22 rfl d_MM_told_37 ?_
        refine lv_iload hx hb d_MM_told_40 (lv_at hl 1 rfl) ?_
        refine mh_laldN K0 hX t54 (by omega) (by omega) d_MM_told_42 ?_
        refine mh_tl (y := u) (hj9.2 u hu) ?_
        refine lv_ladd hx hb d_MM_told_43 ?_
        refine lv_lstore (lv' := [(4, .long ((tl_s st low j) + u)), (6, .int (nI ((tl_n st low j) + 1))), (9, .int (nI (low + j))), (8, .int (tl_i (tl_g st low j))), (7, .int (tl_i (tl_l st low j))), (0, .ref m0), (1, .int (nI low)), (2, .int (nI high)), (3, .int (nI q9))]) hx hb d_MM_told_44 hl (by decide) rfl (fun ls hl => ?_)
        refine lv_iload hx hb d_MM_told_46 (lv_at hl 2 rfl) ?_
        refine lv_istore (lv' := [(8, .int (nI (low + j))), (4, .long ((tl_s st low j) + u)), (6, .int (nI ((tl_n st low j) + 1))), (9, .int (nI (low + j))), (7, .int (tl_i (tl_l st low j))), (0, .ref m0), (1, .int (nI low)), (2, .int (nI high)), (3, .int (nI q9))]) hx hb d_MM_told_48 hl (by decide) rfl (fun ls hl => ?_)
        refine lv_iload hx hb d_MM_told_50 (lv_at hl 4 rfl) ?_
        cases e9 : tl_l st low j with
        | none =>
          rw [e9] at hl
          refine lv_if_ge (tgt := 59) hx hb d_MM_told_52 (by decide) (fun z => absurd z (by decide)) (fun _ => ?_)
          refine lv_iload hx hb d_MM_told_55 (lv_at hl 3 rfl) ?_
          refine lv_istore (lv' := [(7, .int (nI (low + j))), (8, .int (nI (low + j))), (4, .long ((tl_s st low j) + u)), (6, .int (nI ((tl_n st low j) + 1))), (9, .int (nI (low + j))), (0, .ref m0), (1, .int (nI low)), (2, .int (nI high)), (3, .int (nI q9))]) hx hb d_MM_told_57 hl (by decide) rfl (fun ls hl => ?_)
          refine lv_iinc (v := nI ((low + j) + 1)) (k := 4) (lv' := [(9, .int (nI ((low + j) + 1))), (7, .int (nI (low + j))), (8, .int (nI (low + j))), (4, .long ((tl_s st low j) + u)), (6, .int (nI ((tl_n st low j) + 1))), (0, .ref m0), (1, .int (nI low)), (2, .int (nI high)), (3, .int (nI q9))]) hx hb d_MM_told_59 hl rfl (mh_inc (low + j)) (by decide) rfl (fun ls hl => ?_)
          refine lv_goto (tgt := 15) hx hb d_MM_told_62 (by decide) ?_
          have hl : lv_has ls 10 [(9, .int (nI (low + (j + 1)))), (7, .int (tl_i (tl_l st low (j + 1)))), (8, .int (tl_i (tl_g st low (j + 1)))), (4, .long (tl_s st low (j + 1))), (6, .int (nI (tl_n st low (j + 1)))), (0, .ref m0), (1, .int (nI low)), (2, .int (nI high)), (3, .int (nI q9))] := by rw [tl_n_t cf, tl_s_t hu, tl_g_t cf, tl_l_t e9 cf]; exact hl
          exact ih (j + 1) _ _ _ hX hS (lv_sub hl [0, 2, 1, 4, 3, 5, 6, 7, 8] rfl) (by omega)
        | some q =>
          have hq1 := tl_l_lt e9
          rw [e9] at hl
          refine lv_if_ge (tgt := 59) hx hb d_MM_told_52 (by decide) (fun _ => ?_) (fun z => absurd z (not_not_intro (nI_pos' (by omega))))
          refine lv_iinc (v := nI ((low + j) + 1)) (k := 3) (lv' := [(9, .int (nI ((low + j) + 1))), (8, .int (nI (low + j))), (4, .long ((tl_s st low j) + u)), (6, .int (nI ((tl_n st low j) + 1))), (7, .int (tl_i (some q))), (0, .ref m0), (1, .int (nI low)), (2, .int (nI high)), (3, .int (nI q9))]) hx hb d_MM_told_59 hl rfl (mh_inc (low + j)) (by decide) rfl (fun ls hl => ?_)
          refine lv_goto (tgt := 15) hx hb d_MM_told_62 (by decide) ?_
          have hl : lv_has ls 10 [(9, .int (nI (low + (j + 1)))), (8, .int (tl_i (tl_g st low (j + 1)))), (4, .long (tl_s st low (j + 1))), (6, .int (nI (tl_n st low (j + 1)))), (7, .int (tl_i (tl_l st low (j + 1)))), (0, .ref m0), (1, .int (nI low)), (2, .int (nI high)), (3, .int (nI q9))] := by rw [tl_n_t cf, tl_s_t hu, tl_g_t cf, tl_l_on (n := 1) e9]; exact hl
          exact ih (j + 1) _ _ _ hX hS (lv_sub hl [0, 1, 4, 3, 2, 5, 6, 7, 8] rfl) (by omega)
  exact LP (high + 1 - low) 0 _ _ _ hX hS hl (by omega)
set_option maxHeartbeats 4000000 in
set_option maxRecDepth 100000 in
theorem c_MM_shut1 {l : Launch} {b : Nat} {dC : Nat → ClassId} {dI : Nat → Nat → Nat} {dA : Nat → ClassId} {zs : Nat → Nat} {w : mh_w} {m0 aG aO aA aV aH nn rr : Nat} {er : Int32} (h : w 50 0 = some (m0, .inr (7, [.int er, .ref aG, .ref aO, .ref aA, .ref aV, .ref aH, .int (nI nn), .int (nI rr)]))) {op : Nat → Option Nat} (hop : w 52 0 = some (aO, .inl (dA 7, 16, .inr (.inr (.inr (.inr op)))))) {t y : Nat} (ht : t < 16) {a : Nat} {x : st_I} (ha : op t = some a) (hW : rW dA w 56 t a x false) : mh_Met l b dC dI dA zs y_MM_shut (mh_rm 1 0 0) [.ref m0, .int (nI t), .int (nI y)] w (mh_V (some (.int (nI 1))) (fun w' => w' 50 0 = some (m0, .inr (7, [.int (nI y), .ref aG, .ref aO, .ref aA, .ref aV, .ref aH, .int (nI nn), .int (nI rr)])) ∧ mh_F w w' 50 1 0)) := by
  obtain ⟨a1, a2, a3, a4, a5, a6, i0⟩ := hW.fst
  refine mh_ofW (cc := b_MM_shut) (n := 3) (ret := (some .boolean)) (hs := []) (by decide) k761 ?_
  intro p e s m below meth c hx hb hr hml hown hts hlocks hnm hT hOK hadm
  have K0 : mh_K0 p s m ([.ref m0, .int (nI t), .int (nI y)]).toArray c "MeldHostModel" b_MM_shut dC dI dA := ⟨hx, hb, hown, hts, hOK.1, hOK.2.1⟩
  have hX := hOK.2.2.2.2
  have hb0 := hOK.2.2.2.1
  have hS : va_S (mh_A b) s.heap s.heap [] := va_S.rf
  have hl := lv_entry ([.ref m0, .int (nI t), .int (nI y)]) (n := 3) (Nat.le_of_ble_eq_true rfl)
  rw [lg_entry_eq]
  generalize (lg_sl ([.ref m0, .int (nI t), .int (nI y)]) ++ List.replicate (3 - (lg_sl ([.ref m0, .int (nI t), .int (nI y)])).length) Slot.unset).toArray = ls at hl ⊢
  have hl : lv_has ls 3 [(0, .ref m0), (1, .int (nI t)), (2, .int (nI y))] := hl
  refine lv_aload_n hx hb d_MM_shut_0 rfl (lv_at hl 0 rfl) ?_
  refine lv_aload_n hx hb d_MM_shut_1 rfl (lv_at hl 0 rfl) ?_
  refine mh_get K0 hX h f_MM_15 rfl d_MM_shut_2 ?_
  refine lv_iload_n hx hb d_MM_shut_5 rfl (lv_at hl 1 rfl) ?_
  refine mh_aaldN 7 rfl K0 hX hop (by omega) (by omega) (r := (some a)) (ha) d_MM_shut_6 ?_
  refine W.eq (g2 := F0 m 7 ls [.ref a, .ref m0]) rfl ?_
  refine mh_get K0 hX i0 f_MM_61 rfl d_MM_shut_7 ?_
  refine mh_ifneB (tgt := 17) hx hb d_MM_shut_10 (by decide) (fun z => absurd z (by decide)) (fun _ => ?_)
  refine lv_iconst (v := nI 1) hx hb d_MM_shut_13 (by decide) ?_
  refine lv_goto (tgt := 18) hx hb d_MM_shut_14 (by decide) ?_
  refine lv_iload_n hx hb d_MM_shut_18 rfl (lv_at hl 2 rfl) ?_
  refine mh_callV (mh_sV (rest := []) (av := [.int (nI 1), .int (nI y)]) K0 hX h rfl e_MM_fails l_MM_57 k748 kp15 rfl rfl d_MM_shut_19) (c_MM_fails1 h) K0 hOK hml hl.1 e_MM_fails hX hS d_MM_shut_19 (Nat.le_of_ble_eq_true rfl) (Nat.le_of_ble_eq_true rfl) (Nat.le_of_ble_eq_true rfl) (Nat.le_of_ble_eq_true rfl) (Nat.le_of_ble_eq_true rfl) (fun w1 H locs hw hX hS => ?_)
  refine W.eq (g2 := F0 m 22 ls [.int (nI 1)]) rfl ?_
  exact mh_iret K0 hr (by decide) hlocks hX hS (⟨rfl, hw⟩) (Nat.le_of_ble_eq_true rfl) (Nat.le_of_ble_eq_true rfl) d_MM_shut_22
set_option maxHeartbeats 4000000 in
set_option maxRecDepth 100000 in
theorem c_MM_shut0 {l : Launch} {b : Nat} {dC : Nat → ClassId} {dI : Nat → Nat → Nat} {dA : Nat → ClassId} {zs : Nat → Nat} {w : mh_w} {m0 aG aO aA aV aH nn rr : Nat} {er : Int32} (h : w 50 0 = some (m0, .inr (7, [.int er, .ref aG, .ref aO, .ref aA, .ref aV, .ref aH, .int (nI nn), .int (nI rr)]))) {op : Nat → Option Nat} (hop : w 52 0 = some (aO, .inl (dA 7, 16, .inr (.inr (.inr (.inr op)))))) {t y : Nat} (ht : t < 16) {a : Nat} {x : st_I} (ha : op t = some a) (hW : rW dA w 56 t a x true) : mh_Met l b dC dI dA zs y_MM_shut (mh_rm 1 0 0) [.ref m0, .int (nI t), .int (nI y)] w (mh_V (some (.int (nI 0))) (fun w' => w' 50 0 = some (m0, .inr (7, [.int (nI 0), .ref aG, .ref aO, .ref aA, .ref aV, .ref aH, .int (nI nn), .int (nI rr)])) ∧ mh_F w w' 50 1 0)) := by
  obtain ⟨a1, a2, a3, a4, a5, a6, i0⟩ := hW.fst
  refine mh_ofW (cc := b_MM_shut) (n := 3) (ret := (some .boolean)) (hs := []) (by decide) k761 ?_
  intro p e s m below meth c hx hb hr hml hown hts hlocks hnm hT hOK hadm
  have K0 : mh_K0 p s m ([.ref m0, .int (nI t), .int (nI y)]).toArray c "MeldHostModel" b_MM_shut dC dI dA := ⟨hx, hb, hown, hts, hOK.1, hOK.2.1⟩
  have hX := hOK.2.2.2.2
  have hb0 := hOK.2.2.2.1
  have hS : va_S (mh_A b) s.heap s.heap [] := va_S.rf
  have hl := lv_entry ([.ref m0, .int (nI t), .int (nI y)]) (n := 3) (Nat.le_of_ble_eq_true rfl)
  rw [lg_entry_eq]
  generalize (lg_sl ([.ref m0, .int (nI t), .int (nI y)]) ++ List.replicate (3 - (lg_sl ([.ref m0, .int (nI t), .int (nI y)])).length) Slot.unset).toArray = ls at hl ⊢
  have hl : lv_has ls 3 [(0, .ref m0), (1, .int (nI t)), (2, .int (nI y))] := hl
  refine lv_aload_n hx hb d_MM_shut_0 rfl (lv_at hl 0 rfl) ?_
  refine lv_aload_n hx hb d_MM_shut_1 rfl (lv_at hl 0 rfl) ?_
  refine mh_get K0 hX h f_MM_15 rfl d_MM_shut_2 ?_
  refine lv_iload_n hx hb d_MM_shut_5 rfl (lv_at hl 1 rfl) ?_
  refine mh_aaldN 7 rfl K0 hX hop (by omega) (by omega) (r := (some a)) (ha) d_MM_shut_6 ?_
  refine W.eq (g2 := F0 m 7 ls [.ref a, .ref m0]) rfl ?_
  refine mh_get K0 hX i0 f_MM_61 rfl d_MM_shut_7 ?_
  refine mh_ifneB (tgt := 17) hx hb d_MM_shut_10 (by decide) (fun _ => ?_) (fun z => absurd z (by decide))
  refine lv_iconst (v := nI 0) hx hb d_MM_shut_17 (by decide) ?_
  refine lv_iload_n hx hb d_MM_shut_18 rfl (lv_at hl 2 rfl) ?_
  refine mh_callV (mh_sV (rest := []) (av := [.int (nI 0), .int (nI y)]) K0 hX h rfl e_MM_fails l_MM_57 k748 kp15 rfl rfl d_MM_shut_19) (c_MM_fails0 h) K0 hOK hml hl.1 e_MM_fails hX hS d_MM_shut_19 (Nat.le_of_ble_eq_true rfl) (Nat.le_of_ble_eq_true rfl) (Nat.le_of_ble_eq_true rfl) (Nat.le_of_ble_eq_true rfl) (Nat.le_of_ble_eq_true rfl) (fun w1 H locs hw hX hS => ?_)
  refine W.eq (g2 := F0 m 22 ls [.int (nI 0)]) rfl ?_
  exact mh_iret K0 hr (by decide) hlocks hX hS (⟨rfl, hw⟩) (Nat.le_of_ble_eq_true rfl) (Nat.le_of_ble_eq_true rfl) d_MM_shut_22
set_option maxHeartbeats 4000000 in
set_option maxRecDepth 100000 in
theorem c_MM_good {l : Launch} {b : Nat} {dC : Nat → ClassId} {dI : Nat → Nat → Nat} {dA : Nat → ClassId} {zs : Nat → Nat} {w : mh_w} {m0 aG aO aA aV aH nn rr : Nat} {er : Int32} (h : w 50 0 = some (m0, .inr (7, [.int er, .ref aG, .ref aO, .ref aA, .ref aV, .ref aH, .int (nI nn), .int (nI rr)]))) {lg : Nat → Option Nat} {log : Nat → st_I} (hlg : w 51 0 = some (aG, .inl (dA 7, 400, .inr (.inr (.inr (.inr lg)))))) {n0 : Nat} (hn0 : n0 ≤ 400) (rl : ∀ i, i < n0 → ∃ a, lg i = some a ∧ rW dA w 66 i a (log i) false) (glo : ∀ i, i < n0 → iv_ok i (log i)) {k i a : Nat} {x : st_I} {op : Bool} (hx9 : rW dA w k i a x op) (ho : iv_ok n0 x) : mh_Met l b dC dI dA zs y_MM_good (mh_rm 1 0 0) [.ref m0, .ref a, .int (nI n0)] w (mh_V (some (.int (mh_b (st_ok log x n0)))) (fun w' => w' = w)) := by
  have hWx := hx9
  have ho_ := ho
  obtain ⟨a1, a2, a3, a4, a5, a6, rdf, lo, hi, wk, no, nn, i0, i1, i2, i3, i4, i5, i6, hrd, hlo, hwk⟩ := hx9
  obtain ⟨o1, o2, o3, o4, o5, o6, o7, o8⟩ := ho
  refine mh_ofW (cc := b_MM_good) (n := 8) (ret := (some .boolean)) (hs := []) (by decide) k804 ?_
  intro p e s m below meth c hx hb hr hml hown hts hlocks hnm hT hOK hadm
  have K0 : mh_K0 p s m ([.ref m0, .ref a, .int (nI n0)]).toArray c "MeldHostModel" b_MM_good dC dI dA := ⟨hx, hb, hown, hts, hOK.1, hOK.2.1⟩
  have hX := hOK.2.2.2.2
  have hb0 := hOK.2.2.2.1
  have hS : va_S (mh_A b) s.heap s.heap [] := va_S.rf
  have hl := lv_entry ([.ref m0, .ref a, .int (nI n0)]) (n := 8) (Nat.le_of_ble_eq_true rfl)
  rw [lg_entry_eq]
  generalize (lg_sl ([.ref m0, .ref a, .int (nI n0)]) ++ List.replicate (8 - (lg_sl ([.ref m0, .ref a, .int (nI n0)])).length) Slot.unset).toArray = ls at hl ⊢
  have hl : lv_has ls 8 [(0, .ref m0), (1, .ref a), (2, .int (nI n0))] := hl
  refine lv_aload_n hx hb d_MM_good_0 rfl (lv_at hl 1 rfl) ?_
  refine mh_get K0 hX i0 f_MM_72 rfl d_MM_good_1 ?_
  refine lv_istore_n (lv' := [(3, .int (nI (iv_sn x))), (0, .ref m0), (1, .ref a), (2, .int (nI n0))]) hx hb d_MM_good_4 rfl hl (by decide) rfl (fun ls hl => ?_)
  have LP : ∀ (n : Nat) (j : Nat) (H : Heap) (locs : List Loc) (ls : Array Slot), mh_P (dC, dI) b w H → va_S (mh_A b) s.heap H locs → lv_has ls 8 [(3, .int (nI j)), (0, .ref m0), (1, .ref a), (2, .int (nI n0))] → (j + n = n0) → (iv_sn x ≤ j) → (∀ z, z < j → (decide (iv_sn x ≤ z) && (iv_gd (log z) && st_ht x (log z))) = false) → W p l e (mh_rm 1 0 0) s m ([.ref m0, .ref a, .int (nI n0)]).toArray below meth c H locs (0) (0) (mh_MQ below b dC dI (mh_V (some (.int (mh_b (st_ok log x n0)))) (fun w' => w' = w)) ([.ref m0, .ref a, .int (nI n0)]).toArray s 0 0) (F0 m 5 ls []) := by
    intro n
    induction n with
    | zero =>
      intro j H locs ls hX hS hl hn9 hsj hj
      refine lv_iload_n hx hb d_MM_good_5 rfl (lv_at hl 0 rfl) ?_
      refine lv_iload_n hx hb d_MM_good_6 rfl (lv_at hl 3 rfl) ?_
      refine mh_icmp_ge (tgt := 150) hx hb (by omega) (by omega) d_MM_good_7 (by decide) (fun _ => ?_) (fun z => absurd z (by omega))
      refine lv_iconst (v := nI 1) hx hb d_MM_good_150 (by decide) ?_
      exact mh_iret K0 hr (by decide) hlocks hX hS (⟨by unfold st_ok; rw [st_any_false (fun z hz => hj z (by omega))]; rfl, rfl⟩) (Nat.le_of_ble_eq_true rfl) (Nat.le_of_ble_eq_true rfl) d_MM_good_151
    | succ n ih =>
      intro j H locs ls hX hS hl hn9 hsj hj
      have ih0 := ih
      obtain ⟨yy, hy1, hy2⟩ := rl j (by omega)
      obtain ⟨b1, b2, b3, b4, b5, b6, rdf2, lo2, hi2, wk2, no2, nn2, j0, j1, j2, j3, j4, j5, j6, hrd2, hlo2, hwk2⟩ := hy2
      have gj := glo j (by omega)
      obtain ⟨u1, u2, u3, u4, u5, u6, u7, u8⟩ := gj
      refine lv_iload_n hx hb d_MM_good_5 rfl (lv_at hl 0 rfl) ?_
      refine lv_iload_n hx hb d_MM_good_6 rfl (lv_at hl 3 rfl) ?_
      refine mh_icmp_ge (tgt := 150) hx hb (by omega) (by omega) d_MM_good_7 (by decide) (fun z => absurd z (by omega)) (fun _ => ?_)
      refine lv_aload_n hx hb d_MM_good_10 rfl (lv_at hl 1 rfl) ?_
      refine mh_get K0 hX h f_MM_11 rfl d_MM_good_11 ?_
      refine lv_iload_n hx hb d_MM_good_14 rfl (lv_at hl 0 rfl) ?_
      refine mh_aaldN 7 rfl K0 hX hlg (by omega) (by omega) (r := (some yy)) (hy1) d_MM_good_15 ?_
      refine W.eq (g2 := F0 m 16 ls [.ref yy]) rfl ?_
      refine lv_astore (lv' := [(4, .ref yy), (3, .int (nI j)), (0, .ref m0), (1, .ref a), (2, .int (nI n0))]) hx hb d_MM_good_16 hl (by decide) rfl (fun ls hl => ?_)
      refine lv_aload hx hb d_MM_good_18 (lv_at hl 0 rfl) ?_
      refine mh_get K0 hX j0 f_MM_35 rfl d_MM_good_20 ?_
      refine mh_ifneB (tgt := 29) hx hb d_MM_good_23 (by decide) (fun ct => ?_) (fun cf => ?_)
      · skip
        refine lv_iconst (v := nI 0) hx hb d_MM_good_29 (by decide) ?_
        refine lv_istore (lv' := [(5, .int (nI 0)), (4, .ref yy), (3, .int (nI j)), (0, .ref m0), (1, .ref a), (2, .int (nI n0))]) hx hb d_MM_good_30 hl (by decide) rfl (fun ls hl => ?_)
        have LP2 : ∀ (n : Nat) (j2 : Nat) (H : Heap) (locs : List Loc) (ls : Array Slot), mh_P (dC, dI) b w H → va_S (mh_A b) s.heap H locs → lv_has ls 8 [(5, .int (nI j2)), (4, .ref yy), (3, .int (nI j)), (0, .ref m0), (1, .ref a), (2, .int (nI n0))] → (j2 + n = iv_nw (log j)) → (∀ z, z < j2 → (if iv_lv x = 0 then st_rd x (iv_wk (log j) z) else decide (st_pl (iv_wk x) (iv_wk (log j) z) (iv_nw x) < iv_nw x)) = false) → W p l e (mh_rm 1 0 0) s m ([.ref m0, .ref a, .int (nI n0)]).toArray below meth c H locs (0) (0) (mh_MQ below b dC dI (mh_V (some (.int (mh_b (st_ok log x n0)))) (fun w' => w' = w)) ([.ref m0, .ref a, .int (nI n0)]).toArray s 0 0) (F0 m 32 ls []) := by
          intro n
          induction n with
          | zero =>
            intro j2 H locs ls hX hS hl hm9 hm
            refine lv_iload hx hb d_MM_good_32 (lv_at hl 0 rfl) ?_
            refine lv_aload hx hb d_MM_good_34 (lv_at hl 1 rfl) ?_
            refine mh_get K0 hX j0 f_MM_43 rfl d_MM_good_36 ?_
            refine mh_icmp_ge (tgt := 144) hx hb (by omega) (by omega) d_MM_good_39 (by decide) (fun _ => ?_) (fun z => absurd z (by omega))
            refine lv_iinc (v := nI (j + 1)) (k := 2) (lv' := [(3, .int (nI (j + 1))), (5, .int (nI j2)), (4, .ref yy), (0, .ref m0), (1, .ref a), (2, .int (nI n0))]) hx hb d_MM_good_144 hl rfl (mh_inc j) (by decide) rfl (fun ls hl => ?_)
            refine lv_goto (tgt := 5) hx hb d_MM_good_147 (by decide) ?_
            exact ih0 (j + 1) _ _ _ hX hS (lv_sub hl [0, 3, 4, 5] rfl) (by omega) (by omega) (fun z hz => if e : z = j then (by rw [e]; rw [show st_ht x (log j) = false by unfold st_ht; exact st_any_false (fun z hz => hm z (by omega))]; simp) else hj z (by omega))
          | succ n ih =>
            intro j2 H locs ls hX hS hl hm9 hm
            have ih1 := ih
            have b7 := u7 j2 (by omega)
            refine lv_iload hx hb d_MM_good_32 (lv_at hl 0 rfl) ?_
            refine lv_aload hx hb d_MM_good_34 (lv_at hl 1 rfl) ?_
            refine mh_get K0 hX j0 f_MM_43 rfl d_MM_good_36 ?_
            refine mh_icmp_ge (tgt := 144) hx hb (by omega) (by omega) d_MM_good_39 (by decide) (fun z => absurd z (by omega)) (fun _ => ?_)
            refine lv_aload hx hb d_MM_good_42 (lv_at hl 1 rfl) ?_
            refine mh_get K0 hX j0 f_MM_46 rfl d_MM_good_44 ?_
            refine lv_iload hx hb d_MM_good_47 (lv_at hl 0 rfl) ?_
            refine mh_ialdN K0 hX j4 (by omega) (by omega) d_MM_good_49 ?_
            refine mh_ti (y := nI (iv_wk (log j) j2)) ((hwk2 j2 (by omega)).1) ?_
            refine lv_istore (lv' := [(6, .int (nI (iv_wk (log j) j2))), (5, .int (nI j2)), (4, .ref yy), (3, .int (nI j)), (0, .ref m0), (1, .ref a), (2, .int (nI n0))]) hx hb d_MM_good_50 hl (by decide) rfl (fun ls hl => ?_)
            refine lv_aload_n hx hb d_MM_good_52 rfl (lv_at hl 5 rfl) ?_
            refine mh_get K0 hX i0 f_MM_69 rfl d_MM_good_53 ?_
            refine lv_iconst (v := nI 1) hx hb d_MM_good_56 (by decide) ?_
            refine mh_icmp_ne (tgt := 71) hx hb (by omega) (by omega) d_MM_good_57 (by decide) (fun c2 => ?_) (fun c2 => ?_)
            · skip
              have hl0 : iv_lv x = 0 := by omega
              refine lv_aload_n hx hb d_MM_good_71 rfl (lv_at hl 5 rfl) ?_
              refine mh_get K0 hX i0 f_MM_69 rfl d_MM_good_72 ?_
              refine lv_iconst (v := nI 1) hx hb d_MM_good_75 (by decide) ?_
              refine mh_icmp_ne (tgt := 82) hx hb (by omega) (by omega) d_MM_good_76 (by decide) (fun _ => ?_) (fun z => absurd z (by omega))
              refine lv_aload_n hx hb d_MM_good_82 rfl (lv_at hl 5 rfl) ?_
              refine mh_get K0 hX i0 f_MM_82 rfl d_MM_good_83 ?_
              refine lv_iload hx hb d_MM_good_86 (lv_at hl 0 rfl) ?_
              refine mh_zaldN K0 hX i1 (by omega) (by omega) d_MM_good_88 ?_
              refine mh_ti (y := mh_b (iv_rd x (iv_wk (log j) j2))) (hrd _ b7) ?_
              refine mh_ifeqB (tgt := 94) hx hb d_MM_good_89 (by decide) (fun c3 => ?_) (fun c3 => ?_)
              · skip
                refine lv_iconst (v := nI 0) hx hb d_MM_good_94 (by decide) ?_
                refine lv_istore (lv' := [(7, .int (nI 0)), (6, .int (nI (iv_wk (log j) j2))), (5, .int (nI j2)), (4, .ref yy), (3, .int (nI j)), (0, .ref m0), (1, .ref a), (2, .int (nI n0))]) hx hb d_MM_good_95 hl (by decide) rfl (fun ls hl => ?_)
                have LP3 : ∀ (n : Nat) (j3 : Nat) (H : Heap) (locs : List Loc) (ls : Array Slot), mh_P (dC, dI) b w H → va_S (mh_A b) s.heap H locs → lv_has ls 8 [(7, .int (nI j3)), (6, .int (nI (iv_wk (log j) j2))), (5, .int (nI j2)), (4, .ref yy), (3, .int (nI j)), (0, .ref m0), (1, .ref a), (2, .int (nI n0))] → (j3 + n = iv_np x) → (∀ z, z < j3 → (decide (iv_lo x z ≤ iv_wk (log j) j2) && decide (iv_wk (log j) j2 ≤ iv_hi x z)) = false) → W p l e (mh_rm 1 0 0) s m ([.ref m0, .ref a, .int (nI n0)]).toArray below meth c H locs (0) (0) (mh_MQ below b dC dI (mh_V (some (.int (mh_b (st_ok log x n0)))) (fun w' => w' = w)) ([.ref m0, .ref a, .int (nI n0)]).toArray s 0 0) (F0 m 97 ls []) := by
                  intro n
                  induction n with
                  | zero =>
                    intro j3 H locs ls hX hS hl hp9 hp
                    refine lv_iload hx hb d_MM_good_97 (lv_at hl 0 rfl) ?_
                    refine lv_aload_n hx hb d_MM_good_99 rfl (lv_at hl 6 rfl) ?_
                    refine mh_get K0 hX i0 f_MM_100 rfl d_MM_good_100 ?_
                    refine mh_icmp_ge (tgt := 138) hx hb (by omega) (by omega) d_MM_good_103 (by decide) (fun _ => ?_) (fun z => absurd z (by omega))
                    refine lv_iinc (v := nI (j2 + 1)) (k := 2) (lv' := [(5, .int (nI (j2 + 1))), (7, .int (nI j3)), (6, .int (nI (iv_wk (log j) j2))), (4, .ref yy), (3, .int (nI j)), (0, .ref m0), (1, .ref a), (2, .int (nI n0))]) hx hb d_MM_good_138 hl rfl (mh_inc j2) (by decide) rfl (fun ls hl => ?_)
                    refine lv_goto (tgt := 32) hx hb d_MM_good_141 (by decide) ?_
                    exact ih1 (j2 + 1) _ _ _ hX hS (lv_sub hl [0, 3, 4, 5, 6, 7] rfl) (by omega) (fun z hz => if e : z = j2 then (by rw [e]; rw [if_pos hl0]; unfold st_rd; rw [st_any_false (fun z hz => hp z (by omega)), c3]; rfl) else hm z (by omega))
                  | succ n ih =>
                    intro j3 H locs ls hX hS hl hp9 hp
                    have b6 := o6 j3 (by omega)
                    refine lv_iload hx hb d_MM_good_97 (lv_at hl 0 rfl) ?_
                    refine lv_aload_n hx hb d_MM_good_99 rfl (lv_at hl 6 rfl) ?_
                    refine mh_get K0 hX i0 f_MM_100 rfl d_MM_good_100 ?_
                    refine mh_icmp_ge (tgt := 138) hx hb (by omega) (by omega) d_MM_good_103 (by decide) (fun z => absurd z (by omega)) (fun _ => ?_)
                    refine lv_iload hx hb d_MM_good_106 (lv_at hl 1 rfl) ?_
                    refine lv_aload_n hx hb d_MM_good_108 rfl (lv_at hl 6 rfl) ?_
                    refine mh_get K0 hX i0 f_MM_103 rfl d_MM_good_109 ?_
                    refine lv_iload hx hb d_MM_good_112 (lv_at hl 0 rfl) ?_
                    refine mh_ialdN K0 hX i2 (by omega) (by omega) d_MM_good_114 ?_
                    refine mh_ti (y := nI (iv_lo x j3)) ((hlo j3 (by omega)).1) ?_
                    refine mh_icmp_lt (tgt := 132) hx hb (by omega) (by omega) d_MM_good_115 (by decide) (fun c4 => ?_) (fun c4 => ?_)
                    · skip
                      refine lv_iinc (v := nI (j3 + 1)) (k := 0) (lv' := [(7, .int (nI (j3 + 1))), (6, .int (nI (iv_wk (log j) j2))), (5, .int (nI j2)), (4, .ref yy), (3, .int (nI j)), (0, .ref m0), (1, .ref a), (2, .int (nI n0))]) hx hb d_MM_good_132 hl rfl (mh_inc j3) (by decide) rfl (fun ls hl => ?_)
                      refine lv_goto (tgt := 97) hx hb d_MM_good_135 (by decide) ?_
                      exact ih (j3 + 1) _ _ _ hX hS hl (by omega) (fun z hz => if e : z = j3 then (by rw [e, decide_eq_false (by omega)]; rfl) else hp z (by omega))
                    · skip
                      refine lv_iload hx hb d_MM_good_118 (lv_at hl 1 rfl) ?_
                      refine lv_aload_n hx hb d_MM_good_120 rfl (lv_at hl 6 rfl) ?_
                      refine mh_get K0 hX i0 f_MM_106 rfl d_MM_good_121 ?_
                      refine lv_iload hx hb d_MM_good_124 (lv_at hl 0 rfl) ?_
                      refine mh_ialdN K0 hX i3 (by omega) (by omega) d_MM_good_126 ?_
                      refine mh_ti (y := nI (iv_hi x j3)) ((hlo j3 (by omega)).2) ?_
                      refine mh_icmp_gt (tgt := 132) hx hb (by omega) (by omega) d_MM_good_127 (by decide) (fun c5 => ?_) (fun c5 => ?_)
                      · skip
                        refine lv_iinc (v := nI (j3 + 1)) (k := 0) (lv' := [(7, .int (nI (j3 + 1))), (6, .int (nI (iv_wk (log j) j2))), (5, .int (nI j2)), (4, .ref yy), (3, .int (nI j)), (0, .ref m0), (1, .ref a), (2, .int (nI n0))]) hx hb d_MM_good_132 hl rfl (mh_inc j3) (by decide) rfl (fun ls hl => ?_)
                        refine lv_goto (tgt := 97) hx hb d_MM_good_135 (by decide) ?_
                        exact ih (j3 + 1) _ _ _ hX hS hl (by omega) (fun z hz => if e : z = j3 then (by rw [e, Bool.and_comm, decide_eq_false (by omega)]; rfl) else hp z (by omega))
                      · skip
                        refine lv_iconst (v := nI 0) hx hb d_MM_good_130 (by decide) ?_
                        exact mh_iret K0 hr (by decide) hlocks hX hS (⟨by unfold st_ok; rw [st_any_true (i := j) (by omega) (by rw [ct, decide_eq_true hsj, show st_ht x (log j) = true by unfold st_ht; exact st_any_true (i := j2) (by omega) (by show (if iv_lv x = 0 then st_rd x (iv_wk (log j) j2) else decide (st_pl (iv_wk x) (iv_wk (log j) j2) (iv_nw x) < iv_nw x)) = true; rw [if_pos hl0]; unfold st_rd; rw [st_any_true (i := j3) (by omega) (by rw [decide_eq_true c4, decide_eq_true c5]; rfl)]; rfl)]; rfl)]; rfl, rfl⟩) (Nat.le_of_ble_eq_true rfl) (Nat.le_of_ble_eq_true rfl) d_MM_good_131
                exact LP3 (iv_np x) 0 _ _ _ hX hS hl (Nat.zero_add _) (fun z hz => absurd hz (Nat.not_lt_zero z))
              · skip
                refine lv_iconst (v := nI 0) hx hb d_MM_good_92 (by decide) ?_
                exact mh_iret K0 hr (by decide) hlocks hX hS (⟨by unfold st_ok; rw [st_any_true (i := j) (by omega) (by rw [ct, decide_eq_true hsj, show st_ht x (log j) = true by unfold st_ht; exact st_any_true (i := j2) (by omega) (by show (if iv_lv x = 0 then st_rd x (iv_wk (log j) j2) else decide (st_pl (iv_wk x) (iv_wk (log j) j2) (iv_nw x) < iv_nw x)) = true; rw [if_pos hl0]; unfold st_rd; rw [c3]; simp)]; rfl)]; rfl, rfl⟩) (Nat.le_of_ble_eq_true rfl) (Nat.le_of_ble_eq_true rfl) d_MM_good_93
            · skip
              refine lv_aload_n hx hb d_MM_good_60 rfl (lv_at hl 5 rfl) ?_
              refine lv_iload hx hb d_MM_good_61 (lv_at hl 0 rfl) ?_
              have hl1 : ¬ iv_lv x = 0 := by omega
              by_cases c6 : st_pl (iv_wk x) (iv_wk (log j) j2) (iv_nw x) < iv_nw x
              · skip
                refine mh_callR (mh_sV (rest := []) (av := [.int (nI (iv_wk (log j) j2))]) K0 hX i0 rfl e_WK_written l_MM_78 k763 k764 rfl rfl d_MM_good_63) (c_WK_written_y hWx ho_ b7 c6) K0 hOK hml hl.1 e_WK_written hX hS d_MM_good_63 (Nat.le_of_ble_eq_true rfl) (Nat.le_of_ble_eq_true rfl) (Nat.le_of_ble_eq_true rfl) (Nat.le_of_ble_eq_true rfl) (Nat.le_of_ble_eq_true rfl) (fun H locs hX hS => ?_)
                refine W.eq (g2 := F0 m 66 ls [.int (nI (st_pl (iv_wk x) (iv_wk (log j) j2) (iv_nw x)))]) rfl ?_
                refine mh_if_lt (tgt := 71) hx hb (by omega) d_MM_good_66 (by decide) (fun z => absurd z (by omega)) (fun _ => ?_)
                refine lv_iconst (v := nI 0) hx hb d_MM_good_69 (by decide) ?_
                exact mh_iret K0 hr (by decide) hlocks hX hS (⟨by unfold st_ok; rw [st_any_true (i := j) (by omega) (by rw [ct, decide_eq_true hsj, show st_ht x (log j) = true by unfold st_ht; exact st_any_true (i := j2) (by omega) (by show (if iv_lv x = 0 then st_rd x (iv_wk (log j) j2) else decide (st_pl (iv_wk x) (iv_wk (log j) j2) (iv_nw x) < iv_nw x)) = true; rw [if_neg hl1, decide_eq_true c6])]; rfl)]; rfl, rfl⟩) (Nat.le_of_ble_eq_true rfl) (Nat.le_of_ble_eq_true rfl) d_MM_good_70
              · skip
                refine mh_callR (mh_sV (rest := []) (av := [.int (nI (iv_wk (log j) j2))]) K0 hX i0 rfl e_WK_written l_MM_78 k763 k764 rfl rfl d_MM_good_63) (c_WK_written_n hWx ho_ b7 c6) K0 hOK hml hl.1 e_WK_written hX hS d_MM_good_63 (Nat.le_of_ble_eq_true rfl) (Nat.le_of_ble_eq_true rfl) (Nat.le_of_ble_eq_true rfl) (Nat.le_of_ble_eq_true rfl) (Nat.le_of_ble_eq_true rfl) (fun H locs hX hS => ?_)
                refine W.eq (g2 := F0 m 66 ls [.int (-1)]) rfl ?_
                refine lv_if_lt (tgt := 71) hx hb d_MM_good_66 (by decide) (fun _ => ?_) (fun z => absurd z (by decide))
                refine lv_aload_n hx hb d_MM_good_71 rfl (lv_at hl 5 rfl) ?_
                refine mh_get K0 hX i0 f_MM_69 rfl d_MM_good_72 ?_
                refine lv_iconst (v := nI 1) hx hb d_MM_good_75 (by decide) ?_
                refine mh_icmp_ne (tgt := 82) hx hb (by omega) (by omega) d_MM_good_76 (by decide) (fun z => absurd z (by omega)) (fun _ => ?_)
                refine lv_goto (tgt := 138) hx hb d_MM_good_79 (by decide) ?_
                refine lv_iinc (v := nI (j2 + 1)) (k := 1) (lv' := [(5, .int (nI (j2 + 1))), (6, .int (nI (iv_wk (log j) j2))), (4, .ref yy), (3, .int (nI j)), (0, .ref m0), (1, .ref a), (2, .int (nI n0))]) hx hb d_MM_good_138 hl rfl (mh_inc j2) (by decide) rfl (fun ls hl => ?_)
                refine lv_goto (tgt := 32) hx hb d_MM_good_141 (by decide) ?_
                exact ih (j2 + 1) _ _ _ hX hS (lv_sub hl [0, 2, 3, 4, 5, 6] rfl) (by omega) (fun z hz => if e : z = j2 then (by rw [e]; rw [if_neg hl1, decide_eq_false c6]) else hm z (by omega))
        exact LP2 (iv_nw (log j)) 0 _ _ _ hX hS hl (Nat.zero_add _) (fun z hz => absurd hz (Nat.not_lt_zero z))
      · skip
        refine lv_goto (tgt := 144) hx hb d_MM_good_26 (by decide) ?_
        refine lv_iinc (v := nI (j + 1)) (k := 1) (lv' := [(3, .int (nI (j + 1))), (4, .ref yy), (0, .ref m0), (1, .ref a), (2, .int (nI n0))]) hx hb d_MM_good_144 hl rfl (mh_inc j) (by decide) rfl (fun ls hl => ?_)
        refine lv_goto (tgt := 5) hx hb d_MM_good_147 (by decide) ?_
        exact ih (j + 1) _ _ _ hX hS (lv_sub hl [0, 2, 3, 4] rfl) (by omega) (by omega) (fun z hz => if e : z = j then (by rw [e]; rw [cf]; simp) else hj z (by omega))
  exact LP (n0 - iv_sn x) _ _ _ _ hX hS hl (show iv_sn x + (n0 - iv_sn x) = n0 by omega) (Nat.le_refl _) (fun z hz => by rw [decide_eq_false (by omega)]; rfl)
