def mh_rv (w : mh_w) (t n : Nat) : mh_w := fun k i => if 56 ≤ k ∧ k < 63 ∧ i = t then none else if 66 ≤ k ∧ k < 73 ∧ i = n then w (k - 10) t else w k i
theorem mh_rv_eq {w : mh_w} {t n k i : Nat} (h1 : ¬ (56 ≤ k ∧ k < 63 ∧ i = t)) (h2 : ¬ (66 ≤ k ∧ k < 73 ∧ i = n)) : mh_rv w t n k i = w k i := by
  unfold mh_rv
  rw [if_neg h1, if_neg h2]
theorem mh_rv_new {w : mh_w} {t n : Nat} (k : Nat) (h1 : 66 ≤ k) (h2 : k < 73) : mh_rv w t n k n = w (k - 10) t := by
  unfold mh_rv
  rw [if_neg (by omega), if_pos (by omega)]
theorem mh_rv_P {D : va_G} {b : Nat} {w : mh_w} {t n : Nat} {H : Heap} (h : mh_P D b w H) : mh_P D b (mh_rv w t n) H := by
  refine h.by (fun k i => if 66 ≤ k ∧ k < 73 ∧ i = n then (k - 10, t) else (k, i)) (fun k i q hq => ?_) (fun k i k' i' q q' h1 h2 e => ?_)
  · unfold mh_rv at hq
    by_cases c1 : 56 ≤ k ∧ k < 63 ∧ i = t
    · rw [if_pos c1] at hq; cases hq
    · rw [if_neg c1] at hq
      by_cases c2 : 66 ≤ k ∧ k < 73 ∧ i = n
      · rw [if_pos c2] at hq ⊢; exact hq
      · rw [if_neg c2] at hq ⊢; exact hq
  · have n1 : ¬ (56 ≤ k ∧ k < 63 ∧ i = t) := fun z => by unfold mh_rv at h1; rw [if_pos z] at h1; cases h1
    have n2 : ¬ (56 ≤ k' ∧ k' < 63 ∧ i' = t) := fun z => by unfold mh_rv at h2; rw [if_pos z] at h2; cases h2
    by_cases c1 : 66 ≤ k ∧ k < 73 ∧ i = n <;> by_cases c2 : 66 ≤ k' ∧ k' < 73 ∧ i' = n
    · rw [if_pos c1, if_pos c2] at e
      have := (Prod.mk.inj e).1
      omega
    · rw [if_pos c1, if_neg c2] at e
      have := (Prod.mk.inj e).1; have := (Prod.mk.inj e).2
      omega
    · rw [if_neg c1, if_pos c2] at e
      have := (Prod.mk.inj e).1; have := (Prod.mk.inj e).2
      omega
    · rw [if_neg c1, if_neg c2] at e
      exact ⟨(Prod.mk.inj e).1, (Prod.mk.inj e).2⟩
theorem rQ.cm {dA : Nat → ClassId} {w w' : mh_w} {m0 : Nat} {er er' : Int32} {g : st_G} {aG aO aA aV aH : Nat} {lg op : Nat → Option Nat} {at_ : Nat → Int32} (h : rQ dA w m0 er g aG aO aA aV aH lg op at_) {t a q : Nat} {x' : st_I} (hw : ∀ k i, 50 < k → k < 80 → k ≠ 51 → k ≠ 52 → k ≠ 54 → k ≠ 55 → ¬ (56 ≤ k ∧ k < 63 ∧ i = t) → ¬ (66 ≤ k ∧ k < 73 ∧ i = sg_n g) → w' k i = w k i)
    (h50 : w' 50 0 = some (m0, .inr (7, [.int er', .ref aG, .ref aO, .ref aA, .ref aV, .ref aH, .int (nI (sg_n g + 1)), .int (nI (sg_rs g))]))) (h51 : w' 51 0 = some (aG, .inl (dA 7, 400, .inr (.inr (.inr (.inr (va_up lg (sg_n g) (some a)))))))) (h52 : w' 52 0 = some (aO, .inl (dA 7, 16, .inr (.inr (.inr (.inr (va_up op t (some q))))))))
    (h54 : ∃ vf, w' 54 0 = some (aV, .inl (dA 1, 256, .inr (.inl vf)))) (h55 : ∃ hf, w' 55 0 = some (aH, .inl (dA 2, 256, .inl hf))) (hq : rW dA w' 56 t q (st_new 0 0 0) false) (ha : rW dA w' 66 (sg_n g) a x' false) :
    rQ dA w' m0 er' ((sg_n g + 1, va_up (sg_lg g) (sg_n g) x'), g.2.1, va_up (sg_dr g) t none, g.2.2.2) aG aO aA aV aH (va_up lg (sg_n g) (some a)) (va_up op t (some q)) at_ := by
  obtain ⟨r50, r51, r52, r53, r54, r55, ra, ro, rl⟩ := h
  refine ⟨h50, h51, h52, (hw 53 0 (by omega) (by omega) (by omega) (by omega) (by omega) (by omega) (by omega) (by omega)).trans r53, h54, h55, ra, fun z hz => ?_, fun i hi => ?_⟩
  · show ∃ a x, va_up op t (some q) z = some a ∧ rW dA w' 56 z a x (va_up (sg_dr g) t none z).isSome ∧ iv_ok 400 x ∧ ∀ x', va_up (sg_dr g) t none z = some x' → x' = x
    by_cases e : z = t
    · subst e; rw [va_up_self, va_up_self]; exact ⟨q, _, rfl, hq, st_new_ok (by omega) (by omega) (by omega), fun x hx => by cases hx⟩
    · rw [va_up_ne _ _ e, va_up_ne _ _ e]
      obtain ⟨a, x, e1, e2, e3⟩ := ro z hz
      exact ⟨a, x, e1, e2.mv (fun q hq => hw (56 + q) z (by omega) (by omega) (by omega) (by omega) (by omega) (by omega) (by omega) (by omega)), e3⟩
  · show ∃ a2, va_up lg (sg_n g) (some a) i = some a2 ∧ rW dA w' 66 i a2 (va_up (sg_lg g) (sg_n g) x' i) false
    have hi : i < sg_n g + 1 := hi
    by_cases e : i = sg_n g
    · subst e; rw [va_up_self, va_up_self]; exact ⟨a, rfl, ha⟩
    · rw [va_up_ne _ _ e, va_up_ne _ _ e]
      obtain ⟨a, e1, e2⟩ := rl i (by omega)
      exact ⟨a, e1, e2.mv (fun z hz => hw (66 + z) i (by omega) (by omega) (by omega) (by omega) (by omega) (by omega) (by omega) (by omega))⟩
theorem rQ.at {dA : Nat → ClassId} {w w' : mh_w} {m0 : Nat} {er er' : Int32} {g : st_G} {aG aO aA aV aH : Nat} {lg op : Nat → Option Nat} {at_ : Nat → Int32} (h : rQ dA w m0 er g aG aO aA aV aH lg op at_) {u m : Nat} (hw : ∀ k i, 50 < k → k < 80 → k ≠ 53 → k ≠ 54 → k ≠ 55 → w' k i = w k i)
    (h50 : w' 50 0 = some (m0, .inr (7, [.int er', .ref aG, .ref aO, .ref aA, .ref aV, .ref aH, .int (nI (sg_n g)), .int (nI (sg_rs g))]))) (h53 : w' 53 0 = some (aA, .inl (dA 0, 4, .inl (upd at_ u (nI m)))))
    (h54 : ∃ vf, w' 54 0 = some (aV, .inl (dA 1, 256, .inr (.inl vf)))) (h55 : ∃ hf, w' 55 0 = some (aH, .inl (dA 2, 256, .inl hf))) : rQ dA w' m0 er' (g.1, va_up (sg_at g) u m, g.2.2) aG aO aA aV aH lg op (upd at_ u (nI m)) := by
  obtain ⟨r50, r51, r52, r53, r54, r55, ra, ro, rl⟩ := h
  refine ⟨h50, (hw 51 0 (by omega) (by omega) (by omega) (by omega) (by omega)).trans r51, (hw 52 0 (by omega) (by omega) (by omega) (by omega) (by omega)).trans r52, h53, h54, h55, fun z hz => ?_, fun t ht => ?_, fun i hi => ?_⟩
  · show upd at_ u (nI m) z = nI (va_up (sg_at g) u m z)
    by_cases e : z = u
    · subst e; rw [pk_us, va_up_self]
    · rw [pk_un e, va_up_ne _ _ e]; exact ra z hz
  · obtain ⟨a, x, e1, e2, e3⟩ := ro t ht
    exact ⟨a, x, e1, e2.mv (fun z hz => hw (56 + z) t (by omega) (by omega) (by omega) (by omega) (by omega)), e3⟩
  · obtain ⟨a, e1, e2⟩ := rl i hi
    exact ⟨a, e1, e2.mv (fun z hz => hw (66 + z) i (by omega) (by omega) (by omega) (by omega) (by omega))⟩
theorem rQ.rs {dA : Nat → ClassId} {w w' : mh_w} {m0 : Nat} {er er' : Int32} {g : st_G} {aG aO aA aV aH : Nat} {lg op : Nat → Option Nat} {at_ : Nat → Int32} (h : rQ dA w m0 er g aG aO aA aV aH lg op at_) {u : Nat} (hw : ∀ k i, 50 < k → k < 80 → k ≠ 53 → k ≠ 54 → k ≠ 55 → ¬ (56 ≤ k ∧ k < 63) → w' k i = w k i)
    (h50 : w' 50 0 = some (m0, .inr (7, [.int er', .ref aG, .ref aO, .ref aA, .ref aV, .ref aH, .int (nI (sg_n g)), .int (nI (sg_rs g + 1))]))) (h53 : w' 53 0 = some (aA, .inl (dA 0, 4, .inl (upd at_ u (nI 0)))))
    (h54 : ∃ vf, w' 54 0 = some (aV, .inl (dA 1, 256, .inr (.inl vf)))) (h55 : ∃ hf, w' 55 0 = some (aH, .inl (dA 2, 256, .inl hf))) (hO : ∀ z, z < 16 → ∃ a x, op z = some a ∧ rW dA w' 56 z a x (if iv_sv x = u then false else (sg_dr g z).isSome) ∧ iv_ok 400 x ∧ ∀ x', sg_dr g z = some x' → x' = x) :
    rQ dA w' m0 er' (g.1, va_up (sg_at g) u 0, (fun t => match sg_dr g t with | some x => if iv_sv x = u then none else some x | none => none), sg_rs g + 1) aG aO aA aV aH lg op (upd at_ u (nI 0)) := by
  obtain ⟨r50, r51, r52, r53, r54, r55, ra, ro, rl⟩ := h
  refine ⟨h50, (hw 51 0 (by omega) (by omega) (by omega) (by omega) (by omega) (by omega)).trans r51, (hw 52 0 (by omega) (by omega) (by omega) (by omega) (by omega) (by omega)).trans r52, h53, h54, h55, fun z hz => ?_, fun t ht => ?_, fun i hi => ?_⟩
  · show upd at_ u (nI 0) z = nI (va_up (sg_at g) u 0 z)
    by_cases e : z = u
    · subst e; rw [pk_us, va_up_self]
    · rw [pk_un e, va_up_ne _ _ e]; exact ra z hz
  · show ∃ a x, op t = some a ∧ rW dA w' 56 t a x (match sg_dr g t with | some x => if iv_sv x = u then none else some x | none => none).isSome ∧ iv_ok 400 x ∧ ∀ x', (match sg_dr g t with | some x => if iv_sv x = u then none else some x | none => none) = some x' → x' = x
    obtain ⟨a, x, e1, e2, e3, e4⟩ := hO t ht
    refine ⟨a, x, e1, ?_, e3, ?_⟩
    · cases e9 : sg_dr g t with
      | none =>
        rw [e9] at e2
        by_cases c : iv_sv x = u
        · rw [if_pos c] at e2; exact e2
        · rw [if_neg c] at e2; exact e2
      | some x2 =>
        have e5 := e4 x2 e9
        subst e5
        rw [e9] at e2
        by_cases c : iv_sv x2 = u
        · rw [if_pos c] at e2; simp only [if_pos c]; exact e2
        · rw [if_neg c] at e2; simp only [if_neg c]; exact e2
    · intro x' hx'
      cases e9 : sg_dr g t with
      | none => rw [e9] at hx'; cases hx'
      | some x2 =>
        rw [e9] at hx'
        by_cases c : iv_sv x2 = u
        · simp only [if_pos c] at hx'; cases hx'
        · simp only [if_neg c] at hx'; cases hx'; exact e4 x' e9
  · obtain ⟨a, e1, e2⟩ := rl i hi
    exact ⟨a, e1, e2.mv (fun z hz => hw (66 + z) i (by omega) (by omega) (by omega) (by omega) (by omega) (by omega))⟩
theorem d_MM_commit_64 : decode b_MM_commit 64 = .ok (.iconst 0, 1) := by decide +kernel
theorem d_MM_commit_74 : decode b_MM_commit 74 = .ok (.aload_n 2, 1) := by decide +kernel
theorem d_MM_commit_75 : decode b_MM_commit 75 = .ok (.aload_n 0, 1) := by decide +kernel
theorem d_MM_commit_76 : decode b_MM_commit 76 = .ok (.aload_n 2, 1) := by decide +kernel
theorem d_MM_commit_77 : decode b_MM_commit 77 = .ok (.aload_n 0, 1) := by decide +kernel
theorem d_MM_commit_78 : decode b_MM_commit 78 = .ok (.getfield 113, 3) := by decide +kernel
theorem d_MM_commit_81 : decode b_MM_commit 81 = .ok (.invokevirtual 116, 3) := by decide +kernel
theorem d_MM_commit_84 : decode b_MM_commit 84 = .ok (.putfield 35, 3) := by decide +kernel
theorem d_MM_commit_87 : decode b_MM_commit 87 = .ok (.aload_n 0, 1) := by decide +kernel
theorem d_MM_commit_88 : decode b_MM_commit 88 = .ok (.getfield 11, 3) := by decide +kernel
theorem d_MM_commit_91 : decode b_MM_commit 91 = .ok (.aload_n 0, 1) := by decide +kernel
theorem d_MM_commit_92 : decode b_MM_commit 92 = .ok (.dup, 1) := by decide +kernel
theorem d_MM_commit_93 : decode b_MM_commit 93 = .ok (.getfield 113, 3) := by decide +kernel
theorem d_MM_commit_96 : decode b_MM_commit 96 = .ok (.dup_x1, 1) := by decide +kernel
theorem d_MM_commit_97 : decode b_MM_commit 97 = .ok (.iconst 1, 1) := by decide +kernel
theorem d_MM_commit_98 : decode b_MM_commit 98 = .ok (.iadd, 1) := by decide +kernel
theorem d_MM_commit_99 : decode b_MM_commit 99 = .ok (.putfield 113, 3) := by decide +kernel
theorem d_MM_commit_102 : decode b_MM_commit 102 = .ok (.aload_n 2, 1) := by decide +kernel
theorem d_MM_commit_103 : decode b_MM_commit 103 = .ok (.aastore, 1) := by decide +kernel
theorem d_MM_commit_104 : decode b_MM_commit 104 = .ok (.aload_n 2, 1) := by decide +kernel
theorem d_MM_commit_105 : decode b_MM_commit 105 = .ok (.iconst 0, 1) := by decide +kernel
theorem d_MM_commit_106 : decode b_MM_commit 106 = .ok (.putfield 61, 3) := by decide +kernel
theorem d_MM_commit_109 : decode b_MM_commit 109 = .ok (.aload_n 0, 1) := by decide +kernel
theorem d_MM_commit_110 : decode b_MM_commit 110 = .ok (.getfield 15, 3) := by decide +kernel
theorem d_MM_commit_113 : decode b_MM_commit 113 = .ok (.iload_n 1, 1) := by decide +kernel
theorem d_MM_commit_114 : decode b_MM_commit 114 = .ok (.new 9, 3) := by decide +kernel
theorem d_MM_commit_117 : decode b_MM_commit 117 = .ok (.dup, 1) := by decide +kernel
theorem d_MM_commit_118 : decode b_MM_commit 118 = .ok (.invokespecial 30, 3) := by decide +kernel
theorem d_MM_commit_121 : decode b_MM_commit 121 = .ok (.aastore, 1) := by decide +kernel
theorem d_MM_commit_122 : decode b_MM_commit 122 = .ok (.goto 8, 3) := by decide +kernel
theorem d_MM_commit_137 : decode b_MM_commit 137 = .ok (.aload_n 0, 1) := by decide +kernel
theorem d_MM_commit_138 : decode b_MM_commit 138 = .ok (.getfield 113, 3) := by decide +kernel
theorem d_MM_commit_141 : decode b_MM_commit 141 = .ok (.iconst 1, 1) := by decide +kernel
theorem d_MM_commit_142 : decode b_MM_commit 142 = .ok (.isub, 1) := by decide +kernel
theorem d_MM_commit_143 : decode b_MM_commit 143 = .ok (.goto 4, 3) := by decide +kernel
theorem d_MM_advance_24 : decode b_MM_advance 24 = .ok (.iconst 0, 1) := by decide +kernel
theorem d_MM_advance_34 : decode b_MM_advance 34 = .ok (.iload_n 2, 1) := by decide +kernel
theorem d_MM_advance_35 : decode b_MM_advance 35 = .ok (.aload_n 0, 1) := by decide +kernel
theorem d_MM_advance_36 : decode b_MM_advance 36 = .ok (.getfield 113, 3) := by decide +kernel
theorem d_MM_advance_39 : decode b_MM_advance 39 = .ok (.aload_n 0, 1) := by decide +kernel
theorem d_MM_advance_40 : decode b_MM_advance 40 = .ok (.getfield 18, 3) := by decide +kernel
theorem d_MM_advance_43 : decode b_MM_advance 43 = .ok (.iload_n 1, 1) := by decide +kernel
theorem d_MM_advance_44 : decode b_MM_advance 44 = .ok (.iaload, 1) := by decide +kernel
theorem d_MM_advance_45 : decode b_MM_advance 45 = .ok (.isub, 1) := by decide +kernel
theorem d_MM_advance_46 : decode b_MM_advance 46 = .ok (.invokestatic 119, 3) := by decide +kernel
theorem d_MM_advance_49 : decode b_MM_advance 49 = .ok (.istore_n 3, 1) := by decide +kernel
theorem d_MM_advance_50 : decode b_MM_advance 50 = .ok (.aload_n 0, 1) := by decide +kernel
theorem d_MM_advance_51 : decode b_MM_advance 51 = .ok (.getfield 18, 3) := by decide +kernel
theorem d_MM_advance_54 : decode b_MM_advance 54 = .ok (.iload_n 1, 1) := by decide +kernel
theorem d_MM_advance_55 : decode b_MM_advance 55 = .ok (.dup2, 1) := by decide +kernel
theorem d_MM_advance_56 : decode b_MM_advance 56 = .ok (.iaload, 1) := by decide +kernel
theorem d_MM_advance_57 : decode b_MM_advance 57 = .ok (.iload_n 3, 1) := by decide +kernel
theorem d_MM_advance_58 : decode b_MM_advance 58 = .ok (.iadd, 1) := by decide +kernel
theorem d_MM_advance_59 : decode b_MM_advance 59 = .ok (.iastore, 1) := by decide +kernel
theorem d_MM_advance_60 : decode b_MM_advance 60 = .ok (.iload_n 3, 1) := by decide +kernel
theorem d_MM_advance_61 : decode b_MM_advance 61 = .ok (.ireturn, 1) := by decide +kernel
theorem d_MM_restart_22 : decode b_MM_restart 22 = .ok (.aload_n 0, 1) := by decide +kernel
theorem d_MM_restart_23 : decode b_MM_restart 23 = .ok (.aload_n 0, 1) := by decide +kernel
theorem d_MM_restart_24 : decode b_MM_restart 24 = .ok (.getfield 125, 3) := by decide +kernel
theorem d_MM_restart_27 : decode b_MM_restart 27 = .ok (.iconst 4, 1) := by decide +kernel
theorem d_MM_restart_28 : decode b_MM_restart 28 = .ok (.if_icmp .ne 7, 3) := by decide +kernel
theorem d_MM_restart_31 : decode b_MM_restart 31 = .ok (.iconst 1, 1) := by decide +kernel
theorem d_MM_restart_32 : decode b_MM_restart 32 = .ok (.goto 4, 3) := by decide +kernel
theorem d_MM_restart_36 : decode b_MM_restart 36 = .ok (.iconst 2, 1) := by decide +kernel
theorem d_MM_restart_37 : decode b_MM_restart 37 = .ok (.invokevirtual 57, 3) := by decide +kernel
theorem d_MM_restart_40 : decode b_MM_restart 40 = .ok (.ifCond .eq 4, 3) := by decide +kernel
theorem d_MM_restart_43 : decode b_MM_restart 43 = .ok (.return_, 1) := by decide +kernel
theorem d_MM_restart_35 : decode b_MM_restart 35 = .ok (.iconst 0, 1) := by decide +kernel
theorem d_MM_restart_44 : decode b_MM_restart 44 = .ok (.aload_n 0, 1) := by decide +kernel
theorem d_MM_restart_45 : decode b_MM_restart 45 = .ok (.dup, 1) := by decide +kernel
theorem d_MM_restart_46 : decode b_MM_restart 46 = .ok (.getfield 125, 3) := by decide +kernel
theorem d_MM_restart_49 : decode b_MM_restart 49 = .ok (.iconst 1, 1) := by decide +kernel
theorem d_MM_restart_50 : decode b_MM_restart 50 = .ok (.iadd, 1) := by decide +kernel
theorem d_MM_restart_51 : decode b_MM_restart 51 = .ok (.putfield 125, 3) := by decide +kernel
theorem d_MM_restart_54 : decode b_MM_restart 54 = .ok (.aload_n 0, 1) := by decide +kernel
theorem d_MM_restart_55 : decode b_MM_restart 55 = .ok (.getfield 18, 3) := by decide +kernel
theorem d_MM_restart_58 : decode b_MM_restart 58 = .ok (.iload_n 1, 1) := by decide +kernel
theorem d_MM_restart_59 : decode b_MM_restart 59 = .ok (.iconst 0, 1) := by decide +kernel
theorem d_MM_restart_60 : decode b_MM_restart 60 = .ok (.iastore, 1) := by decide +kernel
theorem d_MM_restart_61 : decode b_MM_restart 61 = .ok (.iconst 0, 1) := by decide +kernel
theorem d_MM_restart_62 : decode b_MM_restart 62 = .ok (.istore_n 2, 1) := by decide +kernel
theorem d_MM_restart_63 : decode b_MM_restart 63 = .ok (.iload_n 2, 1) := by decide +kernel
theorem d_MM_restart_64 : decode b_MM_restart 64 = .ok (.bipush 16, 2) := by decide +kernel
theorem d_MM_restart_66 : decode b_MM_restart 66 = .ok (.if_icmp .ge 32, 3) := by decide +kernel
theorem d_MM_restart_98 : decode b_MM_restart 98 = .ok (.return_, 1) := by decide +kernel
theorem d_MM_restart_69 : decode b_MM_restart 69 = .ok (.aload_n 0, 1) := by decide +kernel
theorem d_MM_restart_70 : decode b_MM_restart 70 = .ok (.getfield 15, 3) := by decide +kernel
theorem d_MM_restart_73 : decode b_MM_restart 73 = .ok (.iload_n 2, 1) := by decide +kernel
theorem d_MM_restart_74 : decode b_MM_restart 74 = .ok (.aaload, 1) := by decide +kernel
theorem d_MM_restart_75 : decode b_MM_restart 75 = .ok (.getfield 66, 3) := by decide +kernel
theorem d_MM_restart_78 : decode b_MM_restart 78 = .ok (.iload_n 1, 1) := by decide +kernel
theorem d_MM_restart_79 : decode b_MM_restart 79 = .ok (.if_icmp .ne 13, 3) := by decide +kernel
theorem d_MM_restart_92 : decode b_MM_restart 92 = .ok (.iinc 2 1, 3) := by decide +kernel
theorem d_MM_restart_95 : decode b_MM_restart 95 = .ok (.goto (-32), 3) := by decide +kernel
theorem d_MM_restart_82 : decode b_MM_restart 82 = .ok (.aload_n 0, 1) := by decide +kernel
theorem d_MM_restart_83 : decode b_MM_restart 83 = .ok (.getfield 15, 3) := by decide +kernel
theorem d_MM_restart_86 : decode b_MM_restart 86 = .ok (.iload_n 2, 1) := by decide +kernel
theorem d_MM_restart_87 : decode b_MM_restart 87 = .ok (.aaload, 1) := by decide +kernel
theorem d_MM_restart_88 : decode b_MM_restart 88 = .ok (.iconst 0, 1) := by decide +kernel
theorem d_MM_restart_89 : decode b_MM_restart 89 = .ok (.putfield 61, 3) := by decide +kernel
theorem d_MM_count_0 : decode b_MM_count 0 = .ok (.aload_n 0, 1) := by decide +kernel
theorem d_MM_count_1 : decode b_MM_count 1 = .ok (.iload_n 1, 1) := by decide +kernel
theorem d_MM_count_2 : decode b_MM_count 2 = .ok (.iconst 5, 1) := by decide +kernel
theorem d_MM_count_3 : decode b_MM_count 3 = .ok (.invokestatic 53, 3) := by decide +kernel
theorem d_MM_count_6 : decode b_MM_count 6 = .ok (.ifCond .eq 31, 3) := by decide +kernel
theorem d_MM_count_37 : decode b_MM_count 37 = .ok (.iconst 1, 1) := by decide +kernel
theorem d_MM_count_38 : decode b_MM_count 38 = .ok (.goto 4, 3) := by decide +kernel
theorem d_MM_count_42 : decode b_MM_count 42 = .ok (.iconst 1, 1) := by decide +kernel
theorem d_MM_count_43 : decode b_MM_count 43 = .ok (.invokevirtual 57, 3) := by decide +kernel
theorem d_MM_count_46 : decode b_MM_count 46 = .ok (.ifCond .eq 5, 3) := by decide +kernel
theorem d_MM_count_49 : decode b_MM_count 49 = .ok (.iconst 0, 1) := by decide +kernel
theorem d_MM_count_50 : decode b_MM_count 50 = .ok (.ireturn, 1) := by decide +kernel
theorem d_MM_count_9 : decode b_MM_count 9 = .ok (.iload_n 1, 1) := by decide +kernel
theorem d_MM_count_10 : decode b_MM_count 10 = .ok (.iconst 1, 1) := by decide +kernel
theorem d_MM_count_11 : decode b_MM_count 11 = .ok (.if_icmp .le 11, 3) := by decide +kernel
theorem d_MM_count_14 : decode b_MM_count 14 = .ok (.iload_n 2, 1) := by decide +kernel
theorem d_MM_count_15 : decode b_MM_count 15 = .ok (.iconst 4, 1) := by decide +kernel
theorem d_MM_count_16 : decode b_MM_count 16 = .ok (.invokestatic 53, 3) := by decide +kernel
theorem d_MM_count_19 : decode b_MM_count 19 = .ok (.ifCond .eq 18, 3) := by decide +kernel
theorem d_MM_count_22 : decode b_MM_count 22 = .ok (.iload_n 1, 1) := by decide +kernel
theorem d_MM_count_23 : decode b_MM_count 23 = .ok (.iconst 3, 1) := by decide +kernel
theorem d_MM_count_24 : decode b_MM_count 24 = .ok (.if_icmp .le 17, 3) := by decide +kernel
theorem d_MM_count_27 : decode b_MM_count 27 = .ok (.iload_n 3, 1) := by decide +kernel
theorem d_MM_count_28 : decode b_MM_count 28 = .ok (.sipush 256, 3) := by decide +kernel
theorem d_MM_count_31 : decode b_MM_count 31 = .ok (.invokestatic 53, 3) := by decide +kernel
theorem d_MM_count_34 : decode b_MM_count 34 = .ok (.ifCond .ne 7, 3) := by decide +kernel
theorem d_MM_count_41 : decode b_MM_count 41 = .ok (.iconst 0, 1) := by decide +kernel
theorem d_MM_count_51 : decode b_MM_count 51 = .ok (.iconst 0, 1) := by decide +kernel
theorem d_MM_count_52 : decode b_MM_count 52 = .ok (.istore 4, 2) := by decide +kernel
theorem d_MM_count_54 : decode b_MM_count 54 = .ok (.iconst (-1), 1) := by decide +kernel
theorem d_MM_count_55 : decode b_MM_count 55 = .ok (.istore 5, 2) := by decide +kernel
theorem d_MM_count_57 : decode b_MM_count 57 = .ok (.iload_n 1, 1) := by decide +kernel
theorem d_MM_count_58 : decode b_MM_count 58 = .ok (.ifCond .ne 8, 3) := by decide +kernel
theorem d_MM_count_61 : decode b_MM_count 61 = .ok (.aload_n 0, 1) := by decide +kernel
theorem d_MM_count_62 : decode b_MM_count 62 = .ok (.getfield 113, 3) := by decide +kernel
theorem d_MM_count_65 : decode b_MM_count 65 = .ok (.ireturn, 1) := by decide +kernel
theorem d_MM_count_66 : decode b_MM_count 66 = .ok (.iload_n 1, 1) := by decide +kernel
theorem d_MM_count_67 : decode b_MM_count 67 = .ok (.iconst 1, 1) := by decide +kernel
theorem d_MM_count_68 : decode b_MM_count 68 = .ok (.if_icmp .ne 38, 3) := by decide +kernel
theorem d_MM_count_71 : decode b_MM_count 71 = .ok (.iconst 0, 1) := by decide +kernel
theorem d_MM_count_72 : decode b_MM_count 72 = .ok (.istore 6, 2) := by decide +kernel
theorem d_MM_count_74 : decode b_MM_count 74 = .ok (.iload 6, 2) := by decide +kernel
theorem d_MM_count_76 : decode b_MM_count 76 = .ok (.bipush 16, 2) := by decide +kernel
theorem d_MM_count_78 : decode b_MM_count 78 = .ok (.if_icmp .ge 25, 3) := by decide +kernel
theorem d_MM_count_103 : decode b_MM_count 103 = .ok (.iload 4, 2) := by decide +kernel
theorem d_MM_count_105 : decode b_MM_count 105 = .ok (.ireturn, 1) := by decide +kernel
theorem d_MM_count_81 : decode b_MM_count 81 = .ok (.aload_n 0, 1) := by decide +kernel
theorem d_MM_count_82 : decode b_MM_count 82 = .ok (.getfield 15, 3) := by decide +kernel
theorem d_MM_count_85 : decode b_MM_count 85 = .ok (.iload 6, 2) := by decide +kernel
theorem d_MM_count_87 : decode b_MM_count 87 = .ok (.aaload, 1) := by decide +kernel
theorem d_MM_count_88 : decode b_MM_count 88 = .ok (.getfield 61, 3) := by decide +kernel
theorem d_MM_count_91 : decode b_MM_count 91 = .ok (.ifCond .eq 6, 3) := by decide +kernel
theorem d_MM_count_97 : decode b_MM_count 97 = .ok (.iinc 6 1, 3) := by decide +kernel
theorem d_MM_count_100 : decode b_MM_count 100 = .ok (.goto (-26), 3) := by decide +kernel
theorem d_MM_count_94 : decode b_MM_count 94 = .ok (.iinc 4 1, 3) := by decide +kernel
theorem d_MM_count_106 : decode b_MM_count 106 = .ok (.iload_n 1, 1) := by decide +kernel
theorem d_MM_count_107 : decode b_MM_count 107 = .ok (.iconst 2, 1) := by decide +kernel
theorem d_MM_count_108 : decode b_MM_count 108 = .ok (.if_icmp .ne 10, 3) := by decide +kernel
theorem d_MM_count_111 : decode b_MM_count 111 = .ok (.aload_n 0, 1) := by decide +kernel
theorem d_MM_count_112 : decode b_MM_count 112 = .ok (.getfield 18, 3) := by decide +kernel
theorem d_MM_count_115 : decode b_MM_count 115 = .ok (.iload_n 2, 1) := by decide +kernel
theorem d_MM_count_116 : decode b_MM_count 116 = .ok (.iaload, 1) := by decide +kernel
theorem d_MM_count_117 : decode b_MM_count 117 = .ok (.ireturn, 1) := by decide +kernel
theorem d_MM_count_118 : decode b_MM_count 118 = .ok (.iconst 0, 1) := by decide +kernel
theorem d_MM_count_119 : decode b_MM_count 119 = .ok (.istore 6, 2) := by decide +kernel
theorem d_MM_count_121 : decode b_MM_count 121 = .ok (.iload 6, 2) := by decide +kernel
theorem d_MM_count_123 : decode b_MM_count 123 = .ok (.aload_n 0, 1) := by decide +kernel
theorem d_MM_count_124 : decode b_MM_count 124 = .ok (.getfield 18, 3) := by decide +kernel
theorem d_MM_count_127 : decode b_MM_count 127 = .ok (.iload_n 2, 1) := by decide +kernel
theorem d_MM_count_128 : decode b_MM_count 128 = .ok (.iaload, 1) := by decide +kernel
theorem d_MM_count_129 : decode b_MM_count 129 = .ok (.if_icmp .ge 48, 3) := by decide +kernel
theorem d_MM_count_177 : decode b_MM_count 177 = .ok (.iload_n 1, 1) := by decide +kernel
theorem d_MM_count_178 : decode b_MM_count 178 = .ok (.iconst 3, 1) := by decide +kernel
theorem d_MM_count_179 : decode b_MM_count 179 = .ok (.if_icmp .ne 8, 3) := by decide +kernel
theorem d_MM_count_182 : decode b_MM_count 182 = .ok (.iload 4, 2) := by decide +kernel
theorem d_MM_count_184 : decode b_MM_count 184 = .ok (.goto 5, 3) := by decide +kernel
theorem d_MM_count_189 : decode b_MM_count 189 = .ok (.ireturn, 1) := by decide +kernel
theorem d_MM_count_132 : decode b_MM_count 132 = .ok (.aload_n 0, 1) := by decide +kernel
theorem d_MM_count_133 : decode b_MM_count 133 = .ok (.getfield 11, 3) := by decide +kernel
theorem d_MM_count_136 : decode b_MM_count 136 = .ok (.iload 6, 2) := by decide +kernel
theorem d_MM_count_138 : decode b_MM_count 138 = .ok (.aaload, 1) := by decide +kernel
theorem d_MM_count_139 : decode b_MM_count 139 = .ok (.getfield 35, 3) := by decide +kernel
theorem d_MM_count_142 : decode b_MM_count 142 = .ok (.ifCond .eq 29, 3) := by decide +kernel
theorem d_MM_count_171 : decode b_MM_count 171 = .ok (.iinc 6 1, 3) := by decide +kernel
theorem d_MM_count_174 : decode b_MM_count 174 = .ok (.goto (-53), 3) := by decide +kernel
theorem d_MM_count_145 : decode b_MM_count 145 = .ok (.iinc 4 1, 3) := by decide +kernel
theorem d_MM_count_148 : decode b_MM_count 148 = .ok (.iload_n 1, 1) := by decide +kernel
theorem d_MM_count_149 : decode b_MM_count 149 = .ok (.iconst 4, 1) := by decide +kernel
theorem d_MM_count_150 : decode b_MM_count 150 = .ok (.if_icmp .ne 21, 3) := by decide +kernel
theorem d_MM_count_187 : decode b_MM_count 187 = .ok (.iload 5, 2) := by decide +kernel
theorem d_MM_count_153 : decode b_MM_count 153 = .ok (.aload_n 0, 1) := by decide +kernel
theorem d_MM_count_154 : decode b_MM_count 154 = .ok (.getfield 11, 3) := by decide +kernel
theorem d_MM_count_157 : decode b_MM_count 157 = .ok (.iload 6, 2) := by decide +kernel
theorem d_MM_count_159 : decode b_MM_count 159 = .ok (.aaload, 1) := by decide +kernel
theorem d_MM_count_160 : decode b_MM_count 160 = .ok (.iload_n 3, 1) := by decide +kernel
theorem d_MM_count_161 : decode b_MM_count 161 = .ok (.invokevirtual 78, 3) := by decide +kernel
theorem d_MM_count_164 : decode b_MM_count 164 = .ok (.ifCond .lt 7, 3) := by decide +kernel
theorem d_MM_count_167 : decode b_MM_count 167 = .ok (.iload 6, 2) := by decide +kernel
theorem d_MM_count_169 : decode b_MM_count 169 = .ok (.istore 5, 2) := by decide +kernel
theorem d_MM_init_0 : decode b_MM_init 0 = .ok (.aload_n 0, 1) := by decide +kernel
theorem d_MM_init_1 : decode b_MM_init 1 = .ok (.invokespecial 1, 3) := by decide +kernel
theorem d_MM_init_4 : decode b_MM_init 4 = .ok (.aload_n 0, 1) := by decide +kernel
theorem d_MM_init_5 : decode b_MM_init 5 = .ok (.sipush 400, 3) := by decide +kernel
theorem d_MM_init_8 : decode b_MM_init 8 = .ok (.anewarray 9, 3) := by decide +kernel
theorem d_MM_init_11 : decode b_MM_init 11 = .ok (.putfield 11, 3) := by decide +kernel
theorem d_MM_init_14 : decode b_MM_init 14 = .ok (.aload_n 0, 1) := by decide +kernel
theorem d_MM_init_15 : decode b_MM_init 15 = .ok (.bipush 16, 2) := by decide +kernel
theorem d_MM_init_17 : decode b_MM_init 17 = .ok (.anewarray 9, 3) := by decide +kernel
theorem d_MM_init_20 : decode b_MM_init 20 = .ok (.putfield 15, 3) := by decide +kernel
theorem d_MM_init_23 : decode b_MM_init 23 = .ok (.aload_n 0, 1) := by decide +kernel
theorem d_MM_init_24 : decode b_MM_init 24 = .ok (.iconst 4, 1) := by decide +kernel
theorem d_MM_init_25 : decode b_MM_init 25 = .ok (.newarray .int, 2) := by decide +kernel
theorem d_MM_init_27 : decode b_MM_init 27 = .ok (.putfield 18, 3) := by decide +kernel
theorem d_MM_init_30 : decode b_MM_init 30 = .ok (.aload_n 0, 1) := by decide +kernel
theorem d_MM_init_31 : decode b_MM_init 31 = .ok (.sipush 256, 3) := by decide +kernel
theorem d_MM_init_34 : decode b_MM_init 34 = .ok (.newarray .long, 2) := by decide +kernel
theorem d_MM_init_36 : decode b_MM_init 36 = .ok (.putfield 22, 3) := by decide +kernel
theorem d_MM_init_39 : decode b_MM_init 39 = .ok (.aload_n 0, 1) := by decide +kernel
theorem d_MM_init_40 : decode b_MM_init 40 = .ok (.sipush 256, 3) := by decide +kernel
theorem d_MM_init_43 : decode b_MM_init 43 = .ok (.newarray .boolean, 2) := by decide +kernel
theorem d_MM_init_45 : decode b_MM_init 45 = .ok (.putfield 26, 3) := by decide +kernel
theorem d_MM_init_48 : decode b_MM_init 48 = .ok (.iconst 0, 1) := by decide +kernel
theorem d_MM_init_49 : decode b_MM_init 49 = .ok (.istore_n 1, 1) := by decide +kernel
theorem d_MM_init_50 : decode b_MM_init 50 = .ok (.iload_n 1, 1) := by decide +kernel
theorem d_MM_init_51 : decode b_MM_init 51 = .ok (.bipush 16, 2) := by decide +kernel
theorem d_MM_init_53 : decode b_MM_init 53 = .ok (.if_icmp .ge 22, 3) := by decide +kernel
theorem d_MM_init_75 : decode b_MM_init 75 = .ok (.return_, 1) := by decide +kernel
theorem d_MM_init_56 : decode b_MM_init 56 = .ok (.aload_n 0, 1) := by decide +kernel
theorem d_MM_init_57 : decode b_MM_init 57 = .ok (.getfield 15, 3) := by decide +kernel
theorem d_MM_init_60 : decode b_MM_init 60 = .ok (.iload_n 1, 1) := by decide +kernel
theorem d_MM_init_61 : decode b_MM_init 61 = .ok (.new 9, 3) := by decide +kernel
theorem d_MM_init_64 : decode b_MM_init 64 = .ok (.dup, 1) := by decide +kernel
theorem d_MM_init_65 : decode b_MM_init 65 = .ok (.invokespecial 30, 3) := by decide +kernel
theorem d_MM_init_68 : decode b_MM_init 68 = .ok (.aastore, 1) := by decide +kernel
theorem d_MM_init_69 : decode b_MM_init 69 = .ok (.iinc 1 1, 3) := by decide +kernel
theorem d_MM_init_72 : decode b_MM_init 72 = .ok (.goto (-22), 3) := by decide +kernel
set_option maxHeartbeats 4000000 in
set_option maxRecDepth 100000 in
theorem c_MM_commit_0 {l : Launch} {b : Nat} {dC : Nat → ClassId} {dI : Nat → Nat → Nat} {dA : Nat → ClassId} {zs : Nat → Nat} {w : mh_w} {m0 : Nat} {er : Int32} {g : st_G} (hR : rM dA w m0 er g) (hG : sg_ok g) {t : Nat} (ht : t < 16) {x : st_I} (hd : sg_dr g t = some x) (h0 : ¬ iv_nw x = 0) (hn : sg_n g < 400) : mh_Met l b dC dI dA zs y_MM_commit (mh_rm 4 10 500) [.ref m0, .int (nI t)] w (mh_V (some (.int (nI (sg_n g)))) (fun w' => rM dA w' m0 (nI 0) ((sg_n g + 1, va_up (sg_lg g) (sg_n g) (st_lgd g x)), g.2.1, va_up (sg_dr g) t none, g.2.2.2) ∧ mh_D w w')) := by
  obtain ⟨aG, aO, aA, aV, aH, lg, op, at_, hQ⟩ := hR
  have hQ2 := hQ
  obtain ⟨r50, r51, r52, r53, ⟨vf, r54⟩, ⟨hf, r55⟩, ra, ro, rl⟩ := hQ2
  have hG2 := hG
  obtain ⟨gn, grs, gat, glo, gdr⟩ := hG2
  refine mh_ofW (cc := b_MM_commit) (n := 3) (ret := (some .int)) (hs := []) (by decide) k800 ?_
  intro p e s m below meth c hx hb hr hml hown hts hlocks hnm hT hOK hadm
  have K0 : mh_K0 p s m ([.ref m0, .int (nI t)]).toArray c "MeldHostModel" b_MM_commit dC dI dA := ⟨hx, hb, hown, hts, hOK.1, hOK.2.1⟩
  have hX := hOK.2.2.2.2
  have hb0 := hOK.2.2.2.1
  have hS : va_S (mh_A b) s.heap s.heap [] := va_S.rf
  have hl := lv_entry ([.ref m0, .int (nI t)]) (n := 3) (Nat.le_of_ble_eq_true rfl)
  rw [lg_entry_eq]
  generalize (lg_sl ([.ref m0, .int (nI t)]) ++ List.replicate (3 - (lg_sl ([.ref m0, .int (nI t)])).length) Slot.unset).toArray = ls at hl ⊢
  have hl : lv_has ls 3 [(0, .ref m0), (1, .int (nI t))] := hl
  obtain ⟨a, x9, ha, hW0, ho9, hx9⟩ := ro t ht
  have ex := hx9 x hd
  subst ex
  have hW : rW dA w 56 t a x true := by rw [hd] at hW0; exact hW0
  have ho := gdr t x ht hd
  have ho2 := ho
  obtain ⟨o1, o2, o3, o4, o5, o6, o7, o8⟩ := ho2
  have hWc := hW
  obtain ⟨a1, a2, a3, a4, a5, a6, rdf, lo, hi, wk, no, nn, i0, i1, i2, i3, i4, i5, i6, hrd, hlo, hwk⟩ := hWc
  refine lv_aload_n hx hb d_MM_commit_0 rfl (lv_at hl 0 rfl) ?_
  refine lv_iload_n hx hb d_MM_commit_1 rfl (lv_at hl 1 rfl) ?_
  refine lv_bipush (v := nI 16) hx hb d_MM_commit_2 (by decide) ?_
  refine mh_callR (mh_sS (rest := [.ref m0]) (av := [.int (nI t), .int (nI 16)]) K0 e_MM_in l_MM_53 k744 rfl rfl d_MM_commit_4) (c_MM_in) K0 hOK hml hl.1 e_MM_in hX hS d_MM_commit_4 (Nat.le_of_ble_eq_true rfl) (Nat.le_of_ble_eq_true rfl) (Nat.le_of_ble_eq_true rfl) (Nat.le_of_ble_eq_true rfl) (Nat.le_of_ble_eq_true rfl) (fun H locs hX hS => ?_)
  refine W.eq (g2 := F0 m 7 ls [.int (mh_b (st_in (nI t) 16)), .ref m0]) rfl ?_
  refine mh_ifneB (tgt := 14) hx hb d_MM_commit_7 (by decide) (fun _ => ?_) (fun z => absurd z (by rw [st_in_nI ht (by decide)]; decide))
  refine lv_iconst (v := nI 0) hx hb d_MM_commit_14 (by decide) ?_
  refine lv_iconst (v := nI 1) hx hb d_MM_commit_15 (by decide) ?_
  refine mh_callV (mh_sV (rest := []) (av := [.int (nI 0), .int (nI 1)]) K0 hX r50 rfl e_MM_fails l_MM_57 k748 kp15 rfl rfl d_MM_commit_16) (c_MM_fails0 r50) K0 hOK hml hl.1 e_MM_fails hX hS d_MM_commit_16 (Nat.le_of_ble_eq_true rfl) (Nat.le_of_ble_eq_true rfl) (Nat.le_of_ble_eq_true rfl) (Nat.le_of_ble_eq_true rfl) (Nat.le_of_ble_eq_true rfl) (fun wf96 H locs ⟨hm96, hF96⟩ hX hS => ?_)
  refine W.eq (g2 := F0 m 19 ls [.int (nI 0)]) rfl ?_
  refine mh_if_eq (tgt := 24) hx hb (by omega) d_MM_commit_19 (by decide) (fun _ => ?_) (fun z => absurd z (by omega))
  refine lv_aload_n hx hb d_MM_commit_24 rfl (lv_at hl 0 rfl) ?_
  refine lv_iload_n hx hb d_MM_commit_25 rfl (lv_at hl 1 rfl) ?_
  refine lv_iconst (v := nI 2) hx hb d_MM_commit_26 (by decide) ?_
  refine mh_callV (mh_sV (rest := []) (av := [.int (nI t), .int (nI 2)]) K0 hX hm96 rfl e_MM_shut l_MM_75 k760 kp16 rfl rfl d_MM_commit_27) (c_MM_shut0 (x := x) hm96 ((hF96 52 0 (by omega)).trans r52) ht ha (hW.mv (fun z hz => by rw [hF96 _ _ (by omega)]))) K0 hOK hml hl.1 e_MM_shut hX hS d_MM_commit_27 (Nat.le_of_ble_eq_true rfl) (Nat.le_of_ble_eq_true rfl) (Nat.le_of_ble_eq_true rfl) (Nat.le_of_ble_eq_true rfl) (Nat.le_of_ble_eq_true rfl) (fun wf97 H locs ⟨hm97, hF97⟩ hX hS => ?_)
  refine W.eq (g2 := F0 m 30 ls [.int (nI 0)]) rfl ?_
  refine mh_if_eq (tgt := 35) hx hb (by omega) d_MM_commit_30 (by decide) (fun _ => ?_) (fun z => absurd z (by omega))
  refine lv_aload_n hx hb d_MM_commit_35 rfl (lv_at hl 0 rfl) ?_
  refine mh_get K0 hX hm97 f_MM_15 rfl d_MM_commit_36 ?_
  refine lv_iload_n hx hb d_MM_commit_39 rfl (lv_at hl 1 rfl) ?_
  refine mh_aaldN 7 rfl K0 hX ((hF97 52 0 (by omega)).trans ((hF96 52 0 (by omega)).trans r52)) (by omega) (by omega) (r := (some a)) (ha) d_MM_commit_40 ?_
  refine W.eq (g2 := F0 m 41 ls [.ref a]) rfl ?_
  refine lv_astore_n (lv' := [(2, .ref a), (0, .ref m0), (1, .int (nI t))]) hx hb d_MM_commit_41 rfl hl (by decide) rfl (fun ls hl => ?_)
  refine lv_aload_n hx hb d_MM_commit_42 rfl (lv_at hl 0 rfl) ?_
  refine mh_get K0 hX ((hF97 56 t (by omega)).trans ((hF96 56 t (by omega)).trans i0)) f_MM_43 rfl d_MM_commit_43 ?_
  refine mh_if_le (tgt := 125) hx hb (by omega) d_MM_commit_46 (by decide) (fun z => absurd z (by omega)) (fun _ => ?_)
  refine lv_aload_n hx hb d_MM_commit_49 rfl (lv_at hl 1 rfl) ?_
  refine lv_aload_n hx hb d_MM_commit_50 rfl (lv_at hl 1 rfl) ?_
  refine mh_get K0 hX hm97 f_MM_113 rfl d_MM_commit_51 ?_
  refine lv_sipush (v := nI 400) hx hb d_MM_commit_54 (by decide) ?_
  refine mh_icmp_ne (tgt := 64) hx hb (by omega) (by omega) d_MM_commit_57 (by decide) (fun _ => ?_) (fun z => absurd z (by omega))
  refine lv_iconst (v := nI 0) hx hb d_MM_commit_64 (by decide) ?_
  refine lv_iconst (v := nI 3) hx hb d_MM_commit_65 (by decide) ?_
  refine mh_callV (mh_sV (rest := []) (av := [.int (nI 0), .int (nI 3)]) K0 hX hm97 rfl e_MM_fails l_MM_57 k748 kp15 rfl rfl d_MM_commit_66) (c_MM_fails0 hm97) K0 hOK hml hl.1 e_MM_fails hX hS d_MM_commit_66 (Nat.le_of_ble_eq_true rfl) (Nat.le_of_ble_eq_true rfl) (Nat.le_of_ble_eq_true rfl) (Nat.le_of_ble_eq_true rfl) (Nat.le_of_ble_eq_true rfl) (fun wf98 H locs ⟨hm98, hF98⟩ hX hS => ?_)
  refine W.eq (g2 := F0 m 69 ls [.int (nI 0)]) rfl ?_
  refine mh_if_eq (tgt := 74) hx hb (by omega) d_MM_commit_69 (by decide) (fun _ => ?_) (fun z => absurd z (by omega))
  refine lv_aload_n hx hb d_MM_commit_74 rfl (lv_at hl 0 rfl) ?_
  refine lv_aload_n hx hb d_MM_commit_75 rfl (lv_at hl 1 rfl) ?_
  refine lv_aload_n hx hb d_MM_commit_76 rfl (lv_at hl 0 rfl) ?_
  refine lv_aload_n hx hb d_MM_commit_77 rfl (lv_at hl 1 rfl) ?_
  refine mh_get K0 hX hm98 f_MM_113 rfl d_MM_commit_78 ?_
  refine mh_callR (mh_sV (rest := [.ref a]) (av := [.ref a, .int (nI (sg_n g))]) K0 hX hm98 rfl e_MM_good l_MM_116 k803 kp21 rfl rfl d_MM_commit_81) (c_MM_good (log := sg_lg g) hm98 ((hF98 51 0 (by omega)).trans ((hF97 51 0 (by omega)).trans ((hF96 51 0 (by omega)).trans r51))) (n0 := sg_n g) gn (fun i hi => (rl i (by omega)).imp (fun aa h => ⟨h.1, h.2.mv (fun z hz => by rw [hF98 _ _ (by omega), hF97 _ _ (by omega), hF96 _ _ (by omega)])⟩)) glo (hW.mv (fun z hz => by rw [hF98 _ _ (by omega), hF97 _ _ (by omega), hF96 _ _ (by omega)])) ho) K0 hOK hml hl.1 e_MM_good hX hS d_MM_commit_81 (Nat.le_of_ble_eq_true rfl) (Nat.le_of_ble_eq_true rfl) (Nat.le_of_ble_eq_true rfl) (Nat.le_of_ble_eq_true rfl) (Nat.le_of_ble_eq_true rfl) (fun H locs hX hS => ?_)
  refine W.eq (g2 := F0 m 84 ls [.int (mh_b (st_ok (sg_lg g) x (sg_n g))), .ref a]) rfl ?_
  refine mh_put K0 hX hS ((hF98 56 t (by omega)).trans ((hF97 56 t (by omega)).trans ((hF96 56 t (by omega)).trans i0))) f_MM_35 p_6_7 (mh_b_nar _) (mh_b_fit _) (Nat.le_of_ble_eq_true rfl) d_MM_commit_84 (fun H locs hX hS => ?_)
  have hX : mh_P (dC, dI) b (mh_set _ 56 t (some (a, .inr (6, [.int (nI (iv_sn x)), .int (nI (iv_lv x)), .int (nI (iv_sv x)), .int (nI (iv_np x)), .int (nI (iv_nw x)), .int (nI (pb_cnt (iv_rd x) 256)), .int (mh_b true), .int (mh_b (st_ok (sg_lg g) x (sg_n g))), .ref a1, .ref a2, .ref a3, .ref a4, .ref a5, .ref a6])))) H := hX
  have fs124 := mh_self hX
  refine lv_aload_n hx hb d_MM_commit_87 rfl (lv_at hl 1 rfl) ?_
  refine mh_get K0 hX (mh_kp hm98 (by omega)) f_MM_11 rfl d_MM_commit_88 ?_
  refine lv_aload_n hx hb d_MM_commit_91 rfl (lv_at hl 1 rfl) ?_
  refine lv_dup hx hb d_MM_commit_92 rfl ?_
  refine mh_get K0 hX (mh_kp hm98 (by omega)) f_MM_113 rfl d_MM_commit_93 ?_
  refine lv_dup_x1 hx hb d_MM_commit_96 rfl rfl ?_
  refine lv_iconst (v := nI 1) hx hb d_MM_commit_97 (by decide) ?_
  refine mh_addN hx hb d_MM_commit_98 ?_
  refine mh_put K0 hX hS (mh_kp hm98 (by omega)) f_MM_113 p_7_6 rfl rfl (Nat.le_of_ble_eq_true rfl) d_MM_commit_99 (fun H locs hX hS => ?_)
  have hX : mh_P (dC, dI) b (mh_set _ 50 0 (some (m0, .inr (7, [.int (nI 0), .ref aG, .ref aO, .ref aA, .ref aV, .ref aH, .int (nI ((sg_n g) + 1)), .int (nI (sg_rs g))])))) H := hX
  have fs125 := mh_self hX
  refine lv_aload_n hx hb d_MM_commit_102 rfl (lv_at hl 0 rfl) ?_
  refine mh_aastX 7 rfl rfl K0 hX hS (mh_kp (mh_kp ((hF98 51 0 (by omega)).trans ((hF97 51 0 (by omega)).trans ((hF96 51 0 (by omega)).trans r51))) (by omega)) (by omega)) (mh_kp fs124 (by omega)) (by omega) (by omega) d_MM_commit_103 (fun H locs hX hS => ?_)
  have fs126 := mh_self hX
  refine lv_aload_n hx hb d_MM_commit_104 rfl (lv_at hl 0 rfl) ?_
  refine lv_iconst (v := nI 0) hx hb d_MM_commit_105 (by decide) ?_
  refine mh_put K0 hX hS (mh_kp (mh_kp fs124 (by omega)) (by omega)) f_MM_61 p_6_6 (by decide) (by decide) (Nat.le_of_ble_eq_true rfl) d_MM_commit_106 (fun H locs hX hS => ?_)
  have hX : mh_P (dC, dI) b (mh_set _ 56 t (some (a, .inr (6, [.int (nI (iv_sn x)), .int (nI (iv_lv x)), .int (nI (iv_sv x)), .int (nI (iv_np x)), .int (nI (iv_nw x)), .int (nI (pb_cnt (iv_rd x) 256)), .int (nI 0), .int (mh_b (st_ok (sg_lg g) x (sg_n g))), .ref a1, .ref a2, .ref a3, .ref a4, .ref a5, .ref a6])))) H := hX
  have fs127 := mh_self hX
  refine lv_aload_n hx hb d_MM_commit_109 rfl (lv_at hl 1 rfl) ?_
  refine mh_get K0 hX (mh_kp (mh_kp fs125 (by omega)) (by omega)) f_MM_15 rfl d_MM_commit_110 ?_
  refine lv_iload_n hx hb d_MM_commit_113 rfl (lv_at hl 2 rfl) ?_
  have hX := mh_rv_P (t := t) (n := sg_n g) hX
  refine mh_new 56 t K0 hX hS hb0 (ci := 6) rfl i_WK ty_WK ty_WK_ok k650 k652 k10 (fs := [.int (nI 0), .int (nI 0), .int (nI 0), .int (nI 0), .int (nI 0), .int (nI 0), .int (nI 0), .int (nI 0), .null, .null, .null, .null, .null, .null]) (by decide) (Nat.le_of_ble_eq_true rfl) (Nat.le_of_ble_eq_true rfl) d_MM_commit_114 (fun q H hX hS => ?_)
  have fs128 := mh_self hX
  refine lv_dup hx hb d_MM_commit_117 rfl ?_
  refine mh_callV (mh_sI (rest := [.ref q, .int (nI t), .ref aO]) (av := []) K0 e_WK_init l_MM_30 k654 rfl rfl rfl d_MM_commit_118) (c_WK_init (mh_set_eq _ _ _ _)) K0 hOK hml hl.1 e_WK_init hX hS d_MM_commit_118 (Nat.le_of_ble_eq_true rfl) (Nat.le_of_ble_eq_true rfl) (Nat.le_of_ble_eq_true rfl) (Nat.le_of_ble_eq_true rfl) (Nat.le_of_ble_eq_true rfl) (fun wc H locs ⟨hW2, hFc⟩ hX hS => ?_)
  refine W.eq (g2 := F0 m 121 ls [.ref q, .int (nI t), .ref aO]) rfl ?_
  obtain ⟨b1, b2, b3, b4, b5, b6, j0⟩ := hW2.fst
  refine mh_aastX 7 rfl rfl K0 hX hS ((hFc 52 0 (by omega)).trans (mh_kp ((mh_rv_eq (by omega) (by omega)).trans (mh_kp (mh_kp (mh_kp (mh_kp ((hF98 52 0 (by omega)).trans ((hF97 52 0 (by omega)).trans ((hF96 52 0 (by omega)).trans r52))) (by omega)) (by omega)) (by omega)) (by omega))) (by omega))) j0 (by omega) (by omega) d_MM_commit_121 (fun H locs hX hS => ?_)
  have fs129 := mh_self hX
  refine lv_goto (tgt := 130) hx hb d_MM_commit_122 (by decide) ?_
  refine lv_aload_n hx hb d_MM_commit_130 rfl (lv_at hl 0 rfl) ?_
  refine mh_get K0 hX (mh_kp ((hFc 66 (sg_n g) (by omega)).trans (mh_kp ((mh_rv_new 66 (by omega) (by omega)).trans fs127) (by omega))) (by omega)) f_MM_43 rfl d_MM_commit_131 ?_
  refine mh_if_le (tgt := 146) hx hb (by omega) d_MM_commit_134 (by decide) (fun z => absurd z (by omega)) (fun _ => ?_)
  refine lv_aload_n hx hb d_MM_commit_137 rfl (lv_at hl 1 rfl) ?_
  refine mh_get K0 hX (mh_kp ((hFc 50 0 (by omega)).trans (mh_kp ((mh_rv_eq (by omega) (by omega)).trans (mh_kp (mh_kp fs125 (by omega)) (by omega))) (by omega))) (by omega)) f_MM_113 rfl d_MM_commit_138 ?_
  refine lv_iconst (v := nI 1) hx hb d_MM_commit_141 (by decide) ?_
  refine mh_subN hx hb (by omega) d_MM_commit_142 ?_
  refine lv_goto (tgt := 147) hx hb d_MM_commit_143 (by decide) ?_
  refine mh_ti (y := nI (sg_n g)) (by rw [Nat.add_sub_cancel]) ?_
  exact mh_iret K0 hr rfl hlocks hX hS (⟨rfl, ⟨aG, aO, aA, aV, aH, _, _, at_, hQ.cm (t := t) (x' := st_lgd g x) (fun k i h0 h1 h2 h3 h4 h5 h6 h7 => by rw [mh_set_ne _ _ _ _ (by omega), hFc _ _ (by omega), mh_set_ne _ _ _ _ (by omega), mh_rv_eq (by omega) (by omega), mh_set_ne _ _ _ _ (by omega), mh_set_ne _ _ _ _ (by omega), mh_set_ne _ _ _ _ (by omega), mh_set_ne _ _ _ _ (by omega), hF98 _ _ (by omega), hF97 _ _ (by omega), hF96 _ _ (by omega)]) (mh_kp ((hFc 50 0 (by omega)).trans (mh_kp ((mh_rv_eq (by omega) (by omega)).trans (mh_kp (mh_kp fs125 (by omega)) (by omega))) (by omega))) (by omega)) (mh_kp ((hFc 51 0 (by omega)).trans (mh_kp ((mh_rv_eq (by omega) (by omega)).trans (mh_kp fs126 (by omega))) (by omega))) (by omega)) fs129 ⟨_, (mh_kp ((hFc 54 0 (by omega)).trans (mh_kp ((mh_rv_eq (by omega) (by omega)).trans (mh_kp (mh_kp (mh_kp (mh_kp ((hF98 54 0 (by omega)).trans ((hF97 54 0 (by omega)).trans ((hF96 54 0 (by omega)).trans r54))) (by omega)) (by omega)) (by omega)) (by omega))) (by omega))) (by omega))⟩ ⟨_, (mh_kp ((hFc 55 0 (by omega)).trans (mh_kp ((mh_rv_eq (by omega) (by omega)).trans (mh_kp (mh_kp (mh_kp (mh_kp ((hF98 55 0 (by omega)).trans ((hF97 55 0 (by omega)).trans ((hF96 55 0 (by omega)).trans r55))) (by omega)) (by omega)) (by omega)) (by omega))) (by omega))) (by omega))⟩ (hW2.mv (fun z hz => mh_set_ne _ _ _ _ (by omega))) ⟨a1, a2, a3, a4, a5, a6, rdf, lo, hi, wk, no, nn, (mh_kp ((hFc 66 (sg_n g) (by omega)).trans (mh_kp ((mh_rv_new 66 (by omega) (by omega)).trans fs127) (by omega))) (by omega)), (mh_kp ((hFc 67 (sg_n g) (by omega)).trans (mh_kp ((mh_rv_new 67 (by omega) (by omega)).trans (mh_kp (mh_kp (mh_kp (mh_kp ((hF98 57 t (by omega)).trans ((hF97 57 t (by omega)).trans ((hF96 57 t (by omega)).trans i1))) (by omega)) (by omega)) (by omega)) (by omega))) (by omega))) (by omega)), (mh_kp ((hFc 68 (sg_n g) (by omega)).trans (mh_kp ((mh_rv_new 68 (by omega) (by omega)).trans (mh_kp (mh_kp (mh_kp (mh_kp ((hF98 58 t (by omega)).trans ((hF97 58 t (by omega)).trans ((hF96 58 t (by omega)).trans i2))) (by omega)) (by omega)) (by omega)) (by omega))) (by omega))) (by omega)), (mh_kp ((hFc 69 (sg_n g) (by omega)).trans (mh_kp ((mh_rv_new 69 (by omega) (by omega)).trans (mh_kp (mh_kp (mh_kp (mh_kp ((hF98 59 t (by omega)).trans ((hF97 59 t (by omega)).trans ((hF96 59 t (by omega)).trans i3))) (by omega)) (by omega)) (by omega)) (by omega))) (by omega))) (by omega)), (mh_kp ((hFc 70 (sg_n g) (by omega)).trans (mh_kp ((mh_rv_new 70 (by omega) (by omega)).trans (mh_kp (mh_kp (mh_kp (mh_kp ((hF98 60 t (by omega)).trans ((hF97 60 t (by omega)).trans ((hF96 60 t (by omega)).trans i4))) (by omega)) (by omega)) (by omega)) (by omega))) (by omega))) (by omega)), (mh_kp ((hFc 71 (sg_n g) (by omega)).trans (mh_kp ((mh_rv_new 71 (by omega) (by omega)).trans (mh_kp (mh_kp (mh_kp (mh_kp ((hF98 61 t (by omega)).trans ((hF97 61 t (by omega)).trans ((hF96 61 t (by omega)).trans i5))) (by omega)) (by omega)) (by omega)) (by omega))) (by omega))) (by omega)), (mh_kp ((hFc 72 (sg_n g) (by omega)).trans (mh_kp ((mh_rv_new 72 (by omega) (by omega)).trans (mh_kp (mh_kp (mh_kp (mh_kp ((hF98 62 t (by omega)).trans ((hF97 62 t (by omega)).trans ((hF96 62 t (by omega)).trans i6))) (by omega)) (by omega)) (by omega)) (by omega))) (by omega))) (by omega)), hrd, hlo, hwk⟩⟩, fun k i h => by rw [mh_set_ne _ _ _ _ (by omega), hFc _ _ (by omega), mh_set_ne _ _ _ _ (by omega), mh_rv_eq (by omega) (by omega), mh_set_ne _ _ _ _ (by omega), mh_set_ne _ _ _ _ (by omega), mh_set_ne _ _ _ _ (by omega), mh_set_ne _ _ _ _ (by omega), hF98 _ _ (by omega), hF97 _ _ (by omega), hF96 _ _ (by omega)]⟩) (Nat.le_of_ble_eq_true rfl) (Nat.le_of_ble_eq_true rfl) d_MM_commit_147
set_option maxHeartbeats 4000000 in
set_option maxRecDepth 100000 in
theorem c_MM_advance_0 {l : Launch} {b : Nat} {dC : Nat → ClassId} {dI : Nat → Nat → Nat} {dA : Nat → ClassId} {zs : Nat → Nat} {w : mh_w} {m0 : Nat} {er : Int32} {g : st_G} (hR : rM dA w m0 er g) (hG : sg_ok g) {u : Nat} (hu : u < 4) {k9 : Nat} (hk9 : k9 < 401) : mh_Met l b dC dI dA zs y_MM_advance (mh_rm 4 10 500) [.ref m0, .int (nI u), .int (nI k9)] w (mh_V (some (.int (nI (min k9 (sg_n g - sg_at g u))))) (fun w' => rM dA w' m0 (nI 0) (g.1, va_up (sg_at g) u (sg_at g u + (min k9 (sg_n g - sg_at g u))), g.2.2) ∧ mh_D w w')) := by
  obtain ⟨aG, aO, aA, aV, aH, lg, op, at_, hQ⟩ := hR
  have hQ2 := hQ
  obtain ⟨r50, r51, r52, r53, ⟨vf, r54⟩, ⟨hf, r55⟩, ra, ro, rl⟩ := hQ2
  have hG2 := hG
  obtain ⟨gn, grs, gat, glo, gdr⟩ := hG2
  refine mh_ofW (cc := b_MM_advance) (n := 4) (ret := (some .int)) (hs := []) (by decide) k812 ?_
  intro p e s m below meth c hx hb hr hml hown hts hlocks hnm hT hOK hadm
  have K0 : mh_K0 p s m ([.ref m0, .int (nI u), .int (nI k9)]).toArray c "MeldHostModel" b_MM_advance dC dI dA := ⟨hx, hb, hown, hts, hOK.1, hOK.2.1⟩
  have hX := hOK.2.2.2.2
  have hb0 := hOK.2.2.2.1
  have hS : va_S (mh_A b) s.heap s.heap [] := va_S.rf
  have hl := lv_entry ([.ref m0, .int (nI u), .int (nI k9)]) (n := 4) (Nat.le_of_ble_eq_true rfl)
  rw [lg_entry_eq]
  generalize (lg_sl ([.ref m0, .int (nI u), .int (nI k9)]) ++ List.replicate (4 - (lg_sl ([.ref m0, .int (nI u), .int (nI k9)])).length) Slot.unset).toArray = ls at hl ⊢
  have hl : lv_has ls 4 [(0, .ref m0), (1, .int (nI u)), (2, .int (nI k9))] := hl
  have hat := gat u hu
  refine lv_aload_n hx hb d_MM_advance_0 rfl (lv_at hl 0 rfl) ?_
  refine lv_iload_n hx hb d_MM_advance_1 rfl (lv_at hl 1 rfl) ?_
  refine lv_iconst (v := nI 4) hx hb d_MM_advance_2 (by decide) ?_
  refine mh_callR (mh_sS (rest := [.ref m0]) (av := [.int (nI u), .int (nI 4)]) K0 e_MM_in l_MM_53 k744 rfl rfl d_MM_advance_3) (c_MM_in) K0 hOK hml hl.1 e_MM_in hX hS d_MM_advance_3 (Nat.le_of_ble_eq_true rfl) (Nat.le_of_ble_eq_true rfl) (Nat.le_of_ble_eq_true rfl) (Nat.le_of_ble_eq_true rfl) (Nat.le_of_ble_eq_true rfl) (fun H locs hX hS => ?_)
  refine W.eq (g2 := F0 m 6 ls [.int (mh_b (st_in (nI u) 4)), .ref m0]) rfl ?_
  refine mh_ifeqB (tgt := 20) hx hb d_MM_advance_6 (by decide) (fun z => absurd z (by rw [st_in_nI hu (by decide)]; decide)) (fun _ => ?_)
  refine lv_iload_n hx hb d_MM_advance_9 rfl (lv_at hl 2 rfl) ?_
  refine mh_if_lt (tgt := 20) hx hb (by omega) d_MM_advance_10 (by decide) (fun z => absurd z (by omega)) (fun _ => ?_)
  refine lv_iload_n hx hb d_MM_advance_13 rfl (lv_at hl 2 rfl) ?_
  refine lv_sipush (v := nI 400) hx hb d_MM_advance_14 (by decide) ?_
  refine mh_icmp_le (tgt := 24) hx hb (by omega) (by omega) d_MM_advance_17 (by decide) (fun _ => ?_) (fun z => absurd z (by omega))
  refine lv_iconst (v := nI 0) hx hb d_MM_advance_24 (by decide) ?_
  refine lv_iconst (v := nI 1) hx hb d_MM_advance_25 (by decide) ?_
  refine mh_callV (mh_sV (rest := []) (av := [.int (nI 0), .int (nI 1)]) K0 hX r50 rfl e_MM_fails l_MM_57 k748 kp15 rfl rfl d_MM_advance_26) (c_MM_fails0 r50) K0 hOK hml hl.1 e_MM_fails hX hS d_MM_advance_26 (Nat.le_of_ble_eq_true rfl) (Nat.le_of_ble_eq_true rfl) (Nat.le_of_ble_eq_true rfl) (Nat.le_of_ble_eq_true rfl) (Nat.le_of_ble_eq_true rfl) (fun wf99 H locs ⟨hm99, hF99⟩ hX hS => ?_)
  refine W.eq (g2 := F0 m 29 ls [.int (nI 0)]) rfl ?_
  refine mh_if_eq (tgt := 34) hx hb (by omega) d_MM_advance_29 (by decide) (fun _ => ?_) (fun z => absurd z (by omega))
  refine lv_iload_n hx hb d_MM_advance_34 rfl (lv_at hl 2 rfl) ?_
  refine lv_aload_n hx hb d_MM_advance_35 rfl (lv_at hl 0 rfl) ?_
  refine mh_get K0 hX hm99 f_MM_113 rfl d_MM_advance_36 ?_
  refine lv_aload_n hx hb d_MM_advance_39 rfl (lv_at hl 0 rfl) ?_
  refine mh_get K0 hX hm99 f_MM_18 rfl d_MM_advance_40 ?_
  refine lv_iload_n hx hb d_MM_advance_43 rfl (lv_at hl 1 rfl) ?_
  refine mh_ialdN K0 hX ((hF99 53 0 (by omega)).trans r53) (by omega) (by omega) d_MM_advance_44 ?_
  refine mh_ti (y := nI (sg_at g u)) (ra u hu) ?_
  refine mh_subN hx hb (by omega) d_MM_advance_45 ?_
  refine va_mmin (rest := []) hx hb (by rw [hml]; exact hl.1.symm) hown (hts _ k813) (hts _ k529) (hts _ k20) (hts _ k530) (Nat.le_of_ble_eq_true rfl) (Nat.le_of_ble_eq_true rfl) (Nat.le_of_ble_eq_true rfl) (Nat.le_of_ble_eq_true rfl) d_MM_advance_46 ?_
  refine mh_ti (y := nI (min k9 ((sg_n g) - (sg_at g u)))) (mh_mmin (by omega) (by omega)) ?_
  refine lv_istore_n (lv' := [(3, .int (nI (min k9 ((sg_n g) - (sg_at g u))))), (0, .ref m0), (1, .int (nI u)), (2, .int (nI k9))]) hx hb d_MM_advance_49 rfl hl (by decide) rfl (fun ls hl => ?_)
  refine lv_aload_n hx hb d_MM_advance_50 rfl (lv_at hl 1 rfl) ?_
  refine mh_get K0 hX hm99 f_MM_18 rfl d_MM_advance_51 ?_
  refine lv_iload_n hx hb d_MM_advance_54 rfl (lv_at hl 2 rfl) ?_
  refine lv_dup2_11 hx hb d_MM_advance_55 rfl rfl ?_
  refine mh_ialdN K0 hX ((hF99 53 0 (by omega)).trans r53) (by omega) (by omega) d_MM_advance_56 ?_
  refine mh_ti (y := nI (sg_at g u)) (ra u hu) ?_
  refine lv_iload_n hx hb d_MM_advance_57 rfl (lv_at hl 0 rfl) ?_
  refine mh_addN hx hb d_MM_advance_58 ?_
  refine mh_iastN K0 hX hS ((hF99 53 0 (by omega)).trans r53) (by omega) (by omega) d_MM_advance_59 (fun H locs hX hS => ?_)
  have fs130 := mh_self hX
  refine lv_iload_n hx hb d_MM_advance_60 rfl (lv_at hl 0 rfl) ?_
  exact mh_iret K0 hr rfl hlocks hX hS (⟨rfl, ⟨aG, aO, aA, aV, aH, lg, op, _, hQ.at (fun k i h0 h1 h2 h3 h4 => by rw [mh_set_ne _ _ _ _ (by omega), hF99 _ _ (by omega)]) (mh_kp hm99 (by omega)) fs130 ⟨_, (mh_kp ((hF99 54 0 (by omega)).trans r54) (by omega))⟩ ⟨_, (mh_kp ((hF99 55 0 (by omega)).trans r55) (by omega))⟩⟩, fun k i h => by rw [mh_set_ne _ _ _ _ (by omega), hF99 _ _ (by omega)]⟩) (Nat.le_of_ble_eq_true rfl) (Nat.le_of_ble_eq_true rfl) d_MM_advance_61
set_option maxHeartbeats 4000000 in
set_option maxRecDepth 100000 in
theorem c_MM_restart_2 {l : Launch} {b : Nat} {dC : Nat → ClassId} {dI : Nat → Nat → Nat} {dA : Nat → ClassId} {zs : Nat → Nat} {w : mh_w} {m0 : Nat} {er : Int32} {g : st_G} (hR : rM dA w m0 er g) (hG : sg_ok g) {u : Nat} (hu : u < 4) (h4 : ¬ sg_rs g < 4) : mh_Met l b dC dI dA zs y_MM_restart (mh_rm 4 10 500) [.ref m0, .int (nI u)] w (mh_V none (fun w' => rM dA w' m0 (nI 2) g ∧ mh_D w w')) := by
  obtain ⟨aG, aO, aA, aV, aH, lg, op, at_, hQ⟩ := hR
  have hQ2 := hQ
  obtain ⟨r50, r51, r52, r53, ⟨vf, r54⟩, ⟨hf, r55⟩, ra, ro, rl⟩ := hQ2
  have hG2 := hG
  obtain ⟨gn, grs, gat, glo, gdr⟩ := hG2
  refine mh_ofW (cc := b_MM_restart) (n := 3) (ret := none) (hs := []) (by decide) k817 ?_
  intro p e s m below meth c hx hb hr hml hown hts hlocks hnm hT hOK hadm
  have K0 : mh_K0 p s m ([.ref m0, .int (nI u)]).toArray c "MeldHostModel" b_MM_restart dC dI dA := ⟨hx, hb, hown, hts, hOK.1, hOK.2.1⟩
  have hX := hOK.2.2.2.2
  have hb0 := hOK.2.2.2.1
  have hS : va_S (mh_A b) s.heap s.heap [] := va_S.rf
  have hl := lv_entry ([.ref m0, .int (nI u)]) (n := 3) (Nat.le_of_ble_eq_true rfl)
  rw [lg_entry_eq]
  generalize (lg_sl ([.ref m0, .int (nI u)]) ++ List.replicate (3 - (lg_sl ([.ref m0, .int (nI u)])).length) Slot.unset).toArray = ls at hl ⊢
  have hl : lv_has ls 3 [(0, .ref m0), (1, .int (nI u))] := hl
  refine lv_aload_n hx hb d_MM_restart_0 rfl (lv_at hl 0 rfl) ?_
  refine lv_iload_n hx hb d_MM_restart_1 rfl (lv_at hl 1 rfl) ?_
  refine lv_iconst (v := nI 4) hx hb d_MM_restart_2 (by decide) ?_
  refine mh_callR (mh_sS (rest := [.ref m0]) (av := [.int (nI u), .int (nI 4)]) K0 e_MM_in l_MM_53 k744 rfl rfl d_MM_restart_3) (c_MM_in) K0 hOK hml hl.1 e_MM_in hX hS d_MM_restart_3 (Nat.le_of_ble_eq_true rfl) (Nat.le_of_ble_eq_true rfl) (Nat.le_of_ble_eq_true rfl) (Nat.le_of_ble_eq_true rfl) (Nat.le_of_ble_eq_true rfl) (fun H locs hX hS => ?_)
  refine W.eq (g2 := F0 m 6 ls [.int (mh_b (st_in (nI u) 4)), .ref m0]) rfl ?_
  refine mh_ifneB (tgt := 13) hx hb d_MM_restart_6 (by decide) (fun _ => ?_) (fun z => absurd z (by rw [st_in_nI hu (by decide)]; decide))
  refine lv_iconst (v := nI 0) hx hb d_MM_restart_13 (by decide) ?_
  refine lv_iconst (v := nI 1) hx hb d_MM_restart_14 (by decide) ?_
  refine mh_callV (mh_sV (rest := []) (av := [.int (nI 0), .int (nI 1)]) K0 hX r50 rfl e_MM_fails l_MM_57 k748 kp15 rfl rfl d_MM_restart_15) (c_MM_fails0 r50) K0 hOK hml hl.1 e_MM_fails hX hS d_MM_restart_15 (Nat.le_of_ble_eq_true rfl) (Nat.le_of_ble_eq_true rfl) (Nat.le_of_ble_eq_true rfl) (Nat.le_of_ble_eq_true rfl) (Nat.le_of_ble_eq_true rfl) (fun wf100 H locs ⟨hm100, hF100⟩ hX hS => ?_)
  refine W.eq (g2 := F0 m 18 ls [.int (nI 0)]) rfl ?_
  refine mh_if_eq (tgt := 22) hx hb (by omega) d_MM_restart_18 (by decide) (fun _ => ?_) (fun z => absurd z (by omega))
  refine lv_aload_n hx hb d_MM_restart_22 rfl (lv_at hl 0 rfl) ?_
  refine lv_aload_n hx hb d_MM_restart_23 rfl (lv_at hl 0 rfl) ?_
  refine mh_get K0 hX hm100 f_MM_125 rfl d_MM_restart_24 ?_
  refine lv_iconst (v := nI 4) hx hb d_MM_restart_27 (by decide) ?_
  refine mh_icmp_ne (tgt := 35) hx hb (by omega) (by omega) d_MM_restart_28 (by decide) (fun z => absurd z (by omega)) (fun _ => ?_)
  refine lv_iconst (v := nI 1) hx hb d_MM_restart_31 (by decide) ?_
  refine lv_goto (tgt := 36) hx hb d_MM_restart_32 (by decide) ?_
  refine lv_iconst (v := nI 2) hx hb d_MM_restart_36 (by decide) ?_
  refine mh_callV (mh_sV (rest := []) (av := [.int (nI 1), .int (nI 2)]) K0 hX hm100 rfl e_MM_fails l_MM_57 k748 kp15 rfl rfl d_MM_restart_37) (c_MM_fails1 hm100) K0 hOK hml hl.1 e_MM_fails hX hS d_MM_restart_37 (Nat.le_of_ble_eq_true rfl) (Nat.le_of_ble_eq_true rfl) (Nat.le_of_ble_eq_true rfl) (Nat.le_of_ble_eq_true rfl) (Nat.le_of_ble_eq_true rfl) (fun wf101 H locs ⟨hm101, hF101⟩ hX hS => ?_)
  refine W.eq (g2 := F0 m 40 ls [.int (nI 1)]) rfl ?_
  refine mh_if_eq (tgt := 44) hx hb (by omega) d_MM_restart_40 (by decide) (fun z => absurd z (by omega)) (fun _ => ?_)
  exact mh_vret K0 hr hlocks hX hS (⟨rfl, ⟨aG, aO, aA, aV, aH, lg, op, at_, hQ.sc (fun k i h1 h2 h3 h4 => by rw [hF101 _ _ (by omega), hF100 _ _ (by omega)]) hm101 ⟨_, ((hF101 54 0 (by omega)).trans ((hF100 54 0 (by omega)).trans r54))⟩ ⟨_, ((hF101 55 0 (by omega)).trans ((hF100 55 0 (by omega)).trans r55))⟩⟩, fun k i h => by rw [hF101 _ _ (by omega), hF100 _ _ (by omega)]⟩) (Nat.le_of_ble_eq_true rfl) (Nat.le_of_ble_eq_true rfl) d_MM_restart_43
set_option maxHeartbeats 4000000 in
set_option maxRecDepth 100000 in
theorem c_MM_restart_0 {l : Launch} {b : Nat} {dC : Nat → ClassId} {dI : Nat → Nat → Nat} {dA : Nat → ClassId} {zs : Nat → Nat} {w : mh_w} {m0 : Nat} {er : Int32} {g : st_G} (hR : rM dA w m0 er g) (hG : sg_ok g) {u : Nat} (hu : u < 4) (h4 : sg_rs g < 4) : mh_Met l b dC dI dA zs y_MM_restart (mh_rm 4 10 500) [.ref m0, .int (nI u)] w (mh_V none (fun w' => rM dA w' m0 (nI 0) (g.1, va_up (sg_at g) u 0, (fun t => match sg_dr g t with | some x => if iv_sv x = u then none else some x | none => none), sg_rs g + 1) ∧ mh_D w w')) := by
  obtain ⟨aG, aO, aA, aV, aH, lg, op, at_, hQ⟩ := hR
  have hQ2 := hQ
  obtain ⟨r50, r51, r52, r53, ⟨vf, r54⟩, ⟨hf, r55⟩, ra, ro, rl⟩ := hQ2
  have hG2 := hG
  obtain ⟨gn, grs, gat, glo, gdr⟩ := hG2
  refine mh_ofW (cc := b_MM_restart) (n := 3) (ret := none) (hs := []) (by decide) k817 ?_
  intro p e s m below meth c hx hb hr hml hown hts hlocks hnm hT hOK hadm
  have K0 : mh_K0 p s m ([.ref m0, .int (nI u)]).toArray c "MeldHostModel" b_MM_restart dC dI dA := ⟨hx, hb, hown, hts, hOK.1, hOK.2.1⟩
  have hX := hOK.2.2.2.2
  have hb0 := hOK.2.2.2.1
  have hS : va_S (mh_A b) s.heap s.heap [] := va_S.rf
  have hl := lv_entry ([.ref m0, .int (nI u)]) (n := 3) (Nat.le_of_ble_eq_true rfl)
  rw [lg_entry_eq]
  generalize (lg_sl ([.ref m0, .int (nI u)]) ++ List.replicate (3 - (lg_sl ([.ref m0, .int (nI u)])).length) Slot.unset).toArray = ls at hl ⊢
  have hl : lv_has ls 3 [(0, .ref m0), (1, .int (nI u))] := hl
  refine lv_aload_n hx hb d_MM_restart_0 rfl (lv_at hl 0 rfl) ?_
  refine lv_iload_n hx hb d_MM_restart_1 rfl (lv_at hl 1 rfl) ?_
  refine lv_iconst (v := nI 4) hx hb d_MM_restart_2 (by decide) ?_
  refine mh_callR (mh_sS (rest := [.ref m0]) (av := [.int (nI u), .int (nI 4)]) K0 e_MM_in l_MM_53 k744 rfl rfl d_MM_restart_3) (c_MM_in) K0 hOK hml hl.1 e_MM_in hX hS d_MM_restart_3 (Nat.le_of_ble_eq_true rfl) (Nat.le_of_ble_eq_true rfl) (Nat.le_of_ble_eq_true rfl) (Nat.le_of_ble_eq_true rfl) (Nat.le_of_ble_eq_true rfl) (fun H locs hX hS => ?_)
  refine W.eq (g2 := F0 m 6 ls [.int (mh_b (st_in (nI u) 4)), .ref m0]) rfl ?_
  refine mh_ifneB (tgt := 13) hx hb d_MM_restart_6 (by decide) (fun _ => ?_) (fun z => absurd z (by rw [st_in_nI hu (by decide)]; decide))
  refine lv_iconst (v := nI 0) hx hb d_MM_restart_13 (by decide) ?_
  refine lv_iconst (v := nI 1) hx hb d_MM_restart_14 (by decide) ?_
  refine mh_callV (mh_sV (rest := []) (av := [.int (nI 0), .int (nI 1)]) K0 hX r50 rfl e_MM_fails l_MM_57 k748 kp15 rfl rfl d_MM_restart_15) (c_MM_fails0 r50) K0 hOK hml hl.1 e_MM_fails hX hS d_MM_restart_15 (Nat.le_of_ble_eq_true rfl) (Nat.le_of_ble_eq_true rfl) (Nat.le_of_ble_eq_true rfl) (Nat.le_of_ble_eq_true rfl) (Nat.le_of_ble_eq_true rfl) (fun wf102 H locs ⟨hm102, hF102⟩ hX hS => ?_)
  refine W.eq (g2 := F0 m 18 ls [.int (nI 0)]) rfl ?_
  refine mh_if_eq (tgt := 22) hx hb (by omega) d_MM_restart_18 (by decide) (fun _ => ?_) (fun z => absurd z (by omega))
  refine lv_aload_n hx hb d_MM_restart_22 rfl (lv_at hl 0 rfl) ?_
  refine lv_aload_n hx hb d_MM_restart_23 rfl (lv_at hl 0 rfl) ?_
  refine mh_get K0 hX hm102 f_MM_125 rfl d_MM_restart_24 ?_
  refine lv_iconst (v := nI 4) hx hb d_MM_restart_27 (by decide) ?_
  refine mh_icmp_ne (tgt := 35) hx hb (by omega) (by omega) d_MM_restart_28 (by decide) (fun _ => ?_) (fun z => absurd z (by omega))
  refine lv_iconst (v := nI 0) hx hb d_MM_restart_35 (by decide) ?_
  refine lv_iconst (v := nI 2) hx hb d_MM_restart_36 (by decide) ?_
  refine mh_callV (mh_sV (rest := []) (av := [.int (nI 0), .int (nI 2)]) K0 hX hm102 rfl e_MM_fails l_MM_57 k748 kp15 rfl rfl d_MM_restart_37) (c_MM_fails0 hm102) K0 hOK hml hl.1 e_MM_fails hX hS d_MM_restart_37 (Nat.le_of_ble_eq_true rfl) (Nat.le_of_ble_eq_true rfl) (Nat.le_of_ble_eq_true rfl) (Nat.le_of_ble_eq_true rfl) (Nat.le_of_ble_eq_true rfl) (fun wf103 H locs ⟨hm103, hF103⟩ hX hS => ?_)
  refine W.eq (g2 := F0 m 40 ls [.int (nI 0)]) rfl ?_
  refine mh_if_eq (tgt := 44) hx hb (by omega) d_MM_restart_40 (by decide) (fun _ => ?_) (fun z => absurd z (by omega))
  refine lv_aload_n hx hb d_MM_restart_44 rfl (lv_at hl 0 rfl) ?_
  refine lv_dup hx hb d_MM_restart_45 rfl ?_
  refine mh_get K0 hX hm103 f_MM_125 rfl d_MM_restart_46 ?_
  refine lv_iconst (v := nI 1) hx hb d_MM_restart_49 (by decide) ?_
  refine mh_addN hx hb d_MM_restart_50 ?_
  refine mh_put K0 hX hS hm103 f_MM_125 p_7_7 rfl rfl (Nat.le_of_ble_eq_true rfl) d_MM_restart_51 (fun H locs hX hS => ?_)
  have hX : mh_P (dC, dI) b (mh_set _ 50 0 (some (m0, .inr (7, [.int (nI 0), .ref aG, .ref aO, .ref aA, .ref aV, .ref aH, .int (nI (sg_n g)), .int (nI ((sg_rs g) + 1))])))) H := hX
  have fs131 := mh_self hX
  refine lv_aload_n hx hb d_MM_restart_54 rfl (lv_at hl 0 rfl) ?_
  refine mh_get K0 hX fs131 f_MM_18 rfl d_MM_restart_55 ?_
  refine lv_iload_n hx hb d_MM_restart_58 rfl (lv_at hl 1 rfl) ?_
  refine lv_iconst (v := nI 0) hx hb d_MM_restart_59 (by decide) ?_
  refine mh_iastN K0 hX hS (mh_kp ((hF103 53 0 (by omega)).trans ((hF102 53 0 (by omega)).trans r53)) (by omega)) (by omega) (by omega) d_MM_restart_60 (fun H locs hX hS => ?_)
  have fs132 := mh_self hX
  refine lv_iconst (v := nI 0) hx hb d_MM_restart_61 (by decide) ?_
  refine lv_istore_n (lv' := [(2, .int (nI 0)), (0, .ref m0), (1, .int (nI u))]) hx hb d_MM_restart_62 rfl hl (by decide) rfl (fun ls hl => ?_)
  have LP : ∀ (n : Nat) (j : Nat) (w2 : mh_w) (H : Heap) (locs : List Loc) (ls : Array Slot), mh_P (dC, dI) b w2 H → va_S (mh_A b) s.heap H locs → lv_has ls 3 [(2, .int (nI j)), (0, .ref m0), (1, .int (nI u))] → (j + n = 16) → (w2 50 0 = some (m0, .inr (7, [.int (nI 0), .ref aG, .ref aO, .ref aA, .ref aV, .ref aH, .int (nI (sg_n g)), .int (nI (sg_rs g + 1))]))) → (w2 52 0 = some (aO, .inl (dA 7, 16, .inr (.inr (.inr (.inr op)))))) → (w2 53 0 = some (aA, .inl (dA 0, 4, .inl (upd at_ u (nI 0))))) → (w2 54 0 = some (aV, .inl (dA 1, 256, .inr (.inl vf)))) → (w2 55 0 = some (aH, .inl (dA 2, 256, .inl hf))) → (∀ z, z < 16 → ∃ a x, op z = some a ∧ rW dA w2 56 z a x (if z < j ∧ iv_sv x = u then false else (sg_dr g z).isSome) ∧ iv_ok 400 x ∧ ∀ x', sg_dr g z = some x' → x' = x) → (∀ k i, ¬ (k = 50 ∧ i = 0) → ¬ (k = 53 ∧ i = 0) → ¬ (56 ≤ k ∧ k < 63) → w2 k i = w k i) → W p l e (mh_rm 4 10 500) s m ([.ref m0, .int (nI u)]).toArray below meth c H locs (0) (0) (mh_MQ below b dC dI (mh_V none (fun w' => rM dA w' m0 (nI 0) (g.1, va_up (sg_at g) u 0, (fun t => match sg_dr g t with | some x => if iv_sv x = u then none else some x | none => none), sg_rs g + 1) ∧ mh_D w w')) ([.ref m0, .int (nI u)]).toArray s 10 500) (F0 m 63 ls []) := by
    intro n
    induction n with
    | zero =>
      intro j w2 H locs ls hX hS hl hn9 c50 c52 c53 c54 c55 hO hFw
      refine lv_iload_n hx hb d_MM_restart_63 rfl (lv_at hl 0 rfl) ?_
      refine lv_bipush (v := nI 16) hx hb d_MM_restart_64 (by decide) ?_
      refine mh_icmp_ge (tgt := 98) hx hb (by omega) (by omega) d_MM_restart_66 (by decide) (fun _ => ?_) (fun z => absurd z (by omega))
      refine mh_vret K0 hr hlocks hX hS (⟨rfl, ⟨aG, aO, aA, aV, aH, lg, op, _, hQ.rs (fun k i a0 a1 a2 a3 a4 a5 => hFw k i (by omega) (by omega) a5) c50 c53 ⟨_, c54⟩ ⟨_, c55⟩ (fun z hz => ?_)⟩, fun k i h => hFw k i (by omega) (by omega) (by omega)⟩) (Nat.le_of_ble_eq_true rfl) (Nat.le_of_ble_eq_true rfl) d_MM_restart_98
      obtain ⟨a, x, e1, e2, e3⟩ := hO z hz
      have e7 : (if z < j ∧ iv_sv x = u then false else (sg_dr g z).isSome) = if iv_sv x = u then false else (sg_dr g z).isSome := by by_cases c : iv_sv x = u; (rw [if_pos ⟨by omega, c⟩, if_pos c]); (rw [if_neg (fun q => c q.2), if_neg c])
      rw [e7] at e2; exact ⟨a, x, e1, e2, e3⟩
    | succ n ih =>
      intro j w2 H locs ls hX hS hl hn9 c50 c52 c53 c54 c55 hO hFw
      obtain ⟨a, x, ha, hW0, ho9, hx9⟩ := hO j (by omega)
      rw [if_neg (fun q => Nat.lt_irrefl j q.1)] at hW0
      have hWc := hW0
      have ho1 := ho9.1
      obtain ⟨a1, a2, a3, a4, a5, a6, rdf, lo, hi, wk, no, nn, i0, i1, i2, i3, i4, i5, i6, hrd, hlo, hwk⟩ := hWc
      refine lv_iload_n hx hb d_MM_restart_63 rfl (lv_at hl 0 rfl) ?_
      refine lv_bipush (v := nI 16) hx hb d_MM_restart_64 (by decide) ?_
      refine mh_icmp_ge (tgt := 98) hx hb (by omega) (by omega) d_MM_restart_66 (by decide) (fun z => absurd z (by omega)) (fun _ => ?_)
      refine lv_aload_n hx hb d_MM_restart_69 rfl (lv_at hl 1 rfl) ?_
      refine mh_get K0 hX c50 f_MM_15 rfl d_MM_restart_70 ?_
      refine lv_iload_n hx hb d_MM_restart_73 rfl (lv_at hl 0 rfl) ?_
      refine mh_aaldN 7 rfl K0 hX c52 (by omega) (by omega) (r := (some a)) (ha) d_MM_restart_74 ?_
      refine W.eq (g2 := F0 m 75 ls [.ref a]) rfl ?_
      refine mh_get K0 hX i0 f_MM_66 rfl d_MM_restart_75 ?_
      refine lv_iload_n hx hb d_MM_restart_78 rfl (lv_at hl 2 rfl) ?_
      refine mh_icmp_ne (tgt := 92) hx hb (by omega) (by omega) d_MM_restart_79 (by decide) (fun ct => ?_) (fun cf => ?_)
      · skip
        refine lv_iinc (v := nI (j + 1)) (k := 0) (lv' := [(2, .int (nI (j + 1))), (0, .ref m0), (1, .int (nI u))]) hx hb d_MM_restart_92 hl rfl (mh_inc j) (by decide) rfl (fun ls hl => ?_)
        refine lv_goto (tgt := 63) hx hb d_MM_restart_95 (by decide) ?_
        refine ih (j + 1) _ _ _ _ hX hS hl (by omega) c50 c52 c53 c54 c55 (fun z hz => ?_) hFw
        by_cases e9 : z = j
        · subst e9; exact ⟨a, x, ha, by rw [if_neg (fun q => ct q.2)]; exact hW0, ho9, hx9⟩
        · obtain ⟨b, y2, e1, e2, e3⟩ := hO z hz
          refine ⟨b, y2, e1, ?_, e3⟩
          have e7 : (if z < j + 1 ∧ iv_sv y2 = u then false else (sg_dr g z).isSome) = if z < j ∧ iv_sv y2 = u then false else (sg_dr g z).isSome := by by_cases c : z < j ∧ iv_sv y2 = u; (rw [if_pos c, if_pos ⟨by omega, c.2⟩]); (rw [if_neg c, if_neg (fun q => c ⟨by omega, q.2⟩)])
          rw [e7]; exact e2
      · skip
        refine lv_aload_n hx hb d_MM_restart_82 rfl (lv_at hl 1 rfl) ?_
        refine mh_get K0 hX c50 f_MM_15 rfl d_MM_restart_83 ?_
        refine lv_iload_n hx hb d_MM_restart_86 rfl (lv_at hl 0 rfl) ?_
        refine mh_aaldN 7 rfl K0 hX c52 (by omega) (by omega) (r := (some a)) (ha) d_MM_restart_87 ?_
        refine W.eq (g2 := F0 m 88 ls [.ref a]) rfl ?_
        refine lv_iconst (v := nI 0) hx hb d_MM_restart_88 (by decide) ?_
        refine mh_put K0 hX hS i0 f_MM_61 p_6_6 (by decide) (by decide) (Nat.le_of_ble_eq_true rfl) d_MM_restart_89 (fun H locs hX hS => ?_)
        have hX : mh_P (dC, dI) b (mh_set _ 56 j (some (a, .inr (6, [.int (nI (iv_sn x)), .int (nI (iv_lv x)), .int (nI (iv_sv x)), .int (nI (iv_np x)), .int (nI (iv_nw x)), .int (nI (pb_cnt (iv_rd x) 256)), .int (nI 0), .int (mh_b (iv_gd x)), .ref a1, .ref a2, .ref a3, .ref a4, .ref a5, .ref a6])))) H := hX
        have fs133 := mh_self hX
        refine lv_iinc (v := nI (j + 1)) (k := 0) (lv' := [(2, .int (nI (j + 1))), (0, .ref m0), (1, .int (nI u))]) hx hb d_MM_restart_92 hl rfl (mh_inc j) (by decide) rfl (fun ls hl => ?_)
        refine lv_goto (tgt := 63) hx hb d_MM_restart_95 (by decide) ?_
        refine ih (j + 1) _ _ _ _ hX hS hl (by omega) (mh_kp c50 (by omega)) (mh_kp c52 (by omega)) (mh_kp c53 (by omega)) (mh_kp c54 (by omega)) (mh_kp c55 (by omega)) (fun z hz => ?_) (fun k i h1 h2 h3 => (mh_set_ne _ _ _ _ (by omega)).trans (hFw k i h1 h2 h3))
        by_cases e9 : z = j
        · subst e9; exact ⟨a, x, ha, by rw [if_pos ⟨by omega, cf⟩]; exact ⟨a1, a2, a3, a4, a5, a6, rdf, lo, hi, wk, no, nn, fs133, (mh_kp i1 (by omega)), (mh_kp i2 (by omega)), (mh_kp i3 (by omega)), (mh_kp i4 (by omega)), (mh_kp i5 (by omega)), (mh_kp i6 (by omega)), hrd, hlo, hwk⟩, ho9, hx9⟩
        · obtain ⟨b, y2, e1, e2, e3⟩ := hO z hz
          refine ⟨b, y2, e1, ?_, e3⟩
          have e7 : (if z < j + 1 ∧ iv_sv y2 = u then false else (sg_dr g z).isSome) = if z < j ∧ iv_sv y2 = u then false else (sg_dr g z).isSome := by by_cases c : z < j ∧ iv_sv y2 = u; (rw [if_pos c, if_pos ⟨by omega, c.2⟩]); (rw [if_neg c, if_neg (fun q => c ⟨by omega, q.2⟩)])
          rw [e7]; exact e2.mv (fun q hq => mh_set_ne _ _ _ _ (by omega))
  refine LP 16 0 _ _ _ _ hX hS hl rfl (mh_kp fs131 (by omega)) (mh_kp (mh_kp ((hF103 52 0 (by omega)).trans ((hF102 52 0 (by omega)).trans r52)) (by omega)) (by omega)) fs132 (mh_kp (mh_kp ((hF103 54 0 (by omega)).trans ((hF102 54 0 (by omega)).trans r54)) (by omega)) (by omega)) (mh_kp (mh_kp ((hF103 55 0 (by omega)).trans ((hF102 55 0 (by omega)).trans r55)) (by omega)) (by omega)) (fun z hz => ?_) (fun k i h1 h2 h3 => by rw [mh_set_ne _ _ _ _ (by omega), mh_set_ne _ _ _ _ (by omega), hF103 _ _ (by omega), hF102 _ _ (by omega)])
  obtain ⟨a, x, e1, e2, e3⟩ := ro z hz
  exact ⟨a, x, e1, by rw [if_neg (fun q => Nat.not_lt_zero z q.1)]; exact e2.mv (fun q hq => by rw [mh_set_ne _ _ _ _ (by omega), mh_set_ne _ _ _ _ (by omega), hF103 _ _ (by omega), hF102 _ _ (by omega)]), e3⟩
set_option maxHeartbeats 4000000 in
set_option maxRecDepth 100000 in
theorem c_MM_count_1 {l : Launch} {b : Nat} {dC : Nat → ClassId} {dI : Nat → Nat → Nat} {dA : Nat → ClassId} {zs : Nat → Nat} {w : mh_w} {m0 : Nat} {er : Int32} {g : st_G} (hR : rM dA w m0 er g) (hG : sg_ok g) {what k j : Int32} (h : st_in what 5 = false) : mh_Met l b dC dI dA zs y_MM_count (mh_rm 4 10 500) [.ref m0, .int what, .int k, .int j] w (mh_V (some (.int (nI 0))) (fun w' => rM dA w' m0 (nI 1) g ∧ mh_D w w')) := by
  obtain ⟨aG, aO, aA, aV, aH, lg, op, at_, hQ⟩ := hR
  have hQ2 := hQ
  obtain ⟨r50, r51, r52, r53, ⟨vf, r54⟩, ⟨hf, r55⟩, ra, ro, rl⟩ := hQ2
  have hG2 := hG
  obtain ⟨gn, grs, gat, glo, gdr⟩ := hG2
  refine mh_ofW (cc := b_MM_count) (n := 7) (ret := (some .int)) (hs := []) (by decide) k837 ?_
  intro p e s m below meth c hx hb hr hml hown hts hlocks hnm hT hOK hadm
  have K0 : mh_K0 p s m ([.ref m0, .int what, .int k, .int j]).toArray c "MeldHostModel" b_MM_count dC dI dA := ⟨hx, hb, hown, hts, hOK.1, hOK.2.1⟩
  have hX := hOK.2.2.2.2
  have hb0 := hOK.2.2.2.1
  have hS : va_S (mh_A b) s.heap s.heap [] := va_S.rf
  have hl := lv_entry ([.ref m0, .int what, .int k, .int j]) (n := 7) (Nat.le_of_ble_eq_true rfl)
  rw [lg_entry_eq]
  generalize (lg_sl ([.ref m0, .int what, .int k, .int j]) ++ List.replicate (7 - (lg_sl ([.ref m0, .int what, .int k, .int j])).length) Slot.unset).toArray = ls at hl ⊢
  have hl : lv_has ls 7 [(0, .ref m0), (1, .int what), (2, .int k), (3, .int j)] := hl
  refine lv_aload_n hx hb d_MM_count_0 rfl (lv_at hl 0 rfl) ?_
  refine lv_iload_n hx hb d_MM_count_1 rfl (lv_at hl 1 rfl) ?_
  refine lv_iconst (v := nI 5) hx hb d_MM_count_2 (by decide) ?_
  refine mh_callR (mh_sS (rest := [.ref m0]) (av := [.int what, .int (nI 5)]) K0 e_MM_in l_MM_53 k744 rfl rfl d_MM_count_3) (c_MM_in) K0 hOK hml hl.1 e_MM_in hX hS d_MM_count_3 (Nat.le_of_ble_eq_true rfl) (Nat.le_of_ble_eq_true rfl) (Nat.le_of_ble_eq_true rfl) (Nat.le_of_ble_eq_true rfl) (Nat.le_of_ble_eq_true rfl) (fun H locs hX hS => ?_)
  refine W.eq (g2 := F0 m 6 ls [.int (mh_b (st_in what 5)), .ref m0]) rfl ?_
  refine mh_ifeqB (tgt := 37) hx hb d_MM_count_6 (by decide) (fun _ => ?_) (fun z => absurd z (by rw [h]; decide))
  refine lv_iconst (v := nI 1) hx hb d_MM_count_37 (by decide) ?_
  refine lv_goto (tgt := 42) hx hb d_MM_count_38 (by decide) ?_
  refine lv_iconst (v := nI 1) hx hb d_MM_count_42 (by decide) ?_
  refine mh_callV (mh_sV (rest := []) (av := [.int (nI 1), .int (nI 1)]) K0 hX r50 rfl e_MM_fails l_MM_57 k748 kp15 rfl rfl d_MM_count_43) (c_MM_fails1 r50) K0 hOK hml hl.1 e_MM_fails hX hS d_MM_count_43 (Nat.le_of_ble_eq_true rfl) (Nat.le_of_ble_eq_true rfl) (Nat.le_of_ble_eq_true rfl) (Nat.le_of_ble_eq_true rfl) (Nat.le_of_ble_eq_true rfl) (fun wf104 H locs ⟨hm104, hF104⟩ hX hS => ?_)
  refine W.eq (g2 := F0 m 46 ls [.int (nI 1)]) rfl ?_
  refine mh_if_eq (tgt := 51) hx hb (by omega) d_MM_count_46 (by decide) (fun z => absurd z (by omega)) (fun _ => ?_)
  refine lv_iconst (v := nI 0) hx hb d_MM_count_49 (by decide) ?_
  exact mh_iret K0 hr rfl hlocks hX hS (⟨rfl, ⟨aG, aO, aA, aV, aH, lg, op, at_, hQ.sc (fun k i h1 h2 h3 h4 => by rw [hF104 _ _ (by omega)]) hm104 ⟨_, ((hF104 54 0 (by omega)).trans r54)⟩ ⟨_, ((hF104 55 0 (by omega)).trans r55)⟩⟩, fun k i h => by rw [hF104 _ _ (by omega)]⟩) (Nat.le_of_ble_eq_true rfl) (Nat.le_of_ble_eq_true rfl) d_MM_count_50
set_option maxHeartbeats 4000000 in
set_option maxRecDepth 100000 in
theorem c_MM_count_11 {l : Launch} {b : Nat} {dC : Nat → ClassId} {dI : Nat → Nat → Nat} {dA : Nat → ClassId} {zs : Nat → Nat} {w : mh_w} {m0 : Nat} {er : Int32} {g : st_G} (hR : rM dA w m0 er g) (hG : sg_ok g) {q9 : Nat} (h3 : 2 ≤ q9) (h5 : q9 < 5) {v1 v2 : Int32} (hv : st_in v1 4 = false) : mh_Met l b dC dI dA zs y_MM_count (mh_rm 4 10 500) [.ref m0, .int (nI q9), .int v1, .int v2] w (mh_V (some (.int (nI 0))) (fun w' => rM dA w' m0 (nI 1) g ∧ mh_D w w')) := by
  obtain ⟨aG, aO, aA, aV, aH, lg, op, at_, hQ⟩ := hR
  have hQ2 := hQ
  obtain ⟨r50, r51, r52, r53, ⟨vf, r54⟩, ⟨hf, r55⟩, ra, ro, rl⟩ := hQ2
  have hG2 := hG
  obtain ⟨gn, grs, gat, glo, gdr⟩ := hG2
  refine mh_ofW (cc := b_MM_count) (n := 7) (ret := (some .int)) (hs := []) (by decide) k837 ?_
  intro p e s m below meth c hx hb hr hml hown hts hlocks hnm hT hOK hadm
  have K0 : mh_K0 p s m ([.ref m0, .int (nI q9), .int v1, .int v2]).toArray c "MeldHostModel" b_MM_count dC dI dA := ⟨hx, hb, hown, hts, hOK.1, hOK.2.1⟩
  have hX := hOK.2.2.2.2
  have hb0 := hOK.2.2.2.1
  have hS : va_S (mh_A b) s.heap s.heap [] := va_S.rf
  have hl := lv_entry ([.ref m0, .int (nI q9), .int v1, .int v2]) (n := 7) (Nat.le_of_ble_eq_true rfl)
  rw [lg_entry_eq]
  generalize (lg_sl ([.ref m0, .int (nI q9), .int v1, .int v2]) ++ List.replicate (7 - (lg_sl ([.ref m0, .int (nI q9), .int v1, .int v2])).length) Slot.unset).toArray = ls at hl ⊢
  have hl : lv_has ls 7 [(0, .ref m0), (1, .int (nI q9)), (2, .int v1), (3, .int v2)] := hl
  refine lv_aload_n hx hb d_MM_count_0 rfl (lv_at hl 0 rfl) ?_
  refine lv_iload_n hx hb d_MM_count_1 rfl (lv_at hl 1 rfl) ?_
  refine lv_iconst (v := nI 5) hx hb d_MM_count_2 (by decide) ?_
  refine mh_callR (mh_sS (rest := [.ref m0]) (av := [.int (nI q9), .int (nI 5)]) K0 e_MM_in l_MM_53 k744 rfl rfl d_MM_count_3) (c_MM_in) K0 hOK hml hl.1 e_MM_in hX hS d_MM_count_3 (Nat.le_of_ble_eq_true rfl) (Nat.le_of_ble_eq_true rfl) (Nat.le_of_ble_eq_true rfl) (Nat.le_of_ble_eq_true rfl) (Nat.le_of_ble_eq_true rfl) (fun H locs hX hS => ?_)
  refine W.eq (g2 := F0 m 6 ls [.int (mh_b (st_in (nI q9) 5)), .ref m0]) rfl ?_
  refine mh_ifeqB (tgt := 37) hx hb d_MM_count_6 (by decide) (fun z => absurd z (by rw [st_in_nI (j := q9) (n := 5) (by omega) (by decide)]; decide)) (fun _ => ?_)
  refine lv_iload_n hx hb d_MM_count_9 rfl (lv_at hl 1 rfl) ?_
  refine lv_iconst (v := nI 1) hx hb d_MM_count_10 (by decide) ?_
  refine mh_icmp_le (tgt := 22) hx hb (by omega) (by omega) d_MM_count_11 (by decide) (fun z => absurd z (by omega)) (fun _ => ?_)
  refine lv_iload_n hx hb d_MM_count_14 rfl (lv_at hl 2 rfl) ?_
  refine lv_iconst (v := nI 4) hx hb d_MM_count_15 (by decide) ?_
  refine mh_callR (mh_sS (rest := [.ref m0]) (av := [.int v1, .int (nI 4)]) K0 e_MM_in l_MM_53 k744 rfl rfl d_MM_count_16) (c_MM_in) K0 hOK hml hl.1 e_MM_in hX hS d_MM_count_16 (Nat.le_of_ble_eq_true rfl) (Nat.le_of_ble_eq_true rfl) (Nat.le_of_ble_eq_true rfl) (Nat.le_of_ble_eq_true rfl) (Nat.le_of_ble_eq_true rfl) (fun H locs hX hS => ?_)
  refine W.eq (g2 := F0 m 19 ls [.int (mh_b (st_in v1 4)), .ref m0]) rfl ?_
  refine mh_ifeqB (tgt := 37) hx hb d_MM_count_19 (by decide) (fun _ => ?_) (fun z => absurd z (by rw [hv]; decide))
  refine lv_iconst (v := nI 1) hx hb d_MM_count_37 (by decide) ?_
  refine lv_goto (tgt := 42) hx hb d_MM_count_38 (by decide) ?_
  refine lv_iconst (v := nI 1) hx hb d_MM_count_42 (by decide) ?_
  refine mh_callV (mh_sV (rest := []) (av := [.int (nI 1), .int (nI 1)]) K0 hX r50 rfl e_MM_fails l_MM_57 k748 kp15 rfl rfl d_MM_count_43) (c_MM_fails1 r50) K0 hOK hml hl.1 e_MM_fails hX hS d_MM_count_43 (Nat.le_of_ble_eq_true rfl) (Nat.le_of_ble_eq_true rfl) (Nat.le_of_ble_eq_true rfl) (Nat.le_of_ble_eq_true rfl) (Nat.le_of_ble_eq_true rfl) (fun wf105 H locs ⟨hm105, hF105⟩ hX hS => ?_)
  refine W.eq (g2 := F0 m 46 ls [.int (nI 1)]) rfl ?_
  refine mh_if_eq (tgt := 51) hx hb (by omega) d_MM_count_46 (by decide) (fun z => absurd z (by omega)) (fun _ => ?_)
  refine lv_iconst (v := nI 0) hx hb d_MM_count_49 (by decide) ?_
  exact mh_iret K0 hr rfl hlocks hX hS (⟨rfl, ⟨aG, aO, aA, aV, aH, lg, op, at_, hQ.sc (fun k i h1 h2 h3 h4 => by rw [hF105 _ _ (by omega)]) hm105 ⟨_, ((hF105 54 0 (by omega)).trans r54)⟩ ⟨_, ((hF105 55 0 (by omega)).trans r55)⟩⟩, fun k i h => by rw [hF105 _ _ (by omega)]⟩) (Nat.le_of_ble_eq_true rfl) (Nat.le_of_ble_eq_true rfl) d_MM_count_50
set_option maxHeartbeats 4000000 in
set_option maxRecDepth 100000 in
theorem c_MM_count_12 {l : Launch} {b : Nat} {dC : Nat → ClassId} {dI : Nat → Nat → Nat} {dA : Nat → ClassId} {zs : Nat → Nat} {w : mh_w} {m0 : Nat} {er : Int32} {g : st_G} (hR : rM dA w m0 er g) (hG : sg_ok g) {u : Nat} (hu : u < 4) {v2 : Int32} (hv : st_in v2 256 = false) : mh_Met l b dC dI dA zs y_MM_count (mh_rm 4 10 500) [.ref m0, .int (nI 4), .int (nI u), .int v2] w (mh_V (some (.int (nI 0))) (fun w' => rM dA w' m0 (nI 1) g ∧ mh_D w w')) := by
  obtain ⟨aG, aO, aA, aV, aH, lg, op, at_, hQ⟩ := hR
  have hQ2 := hQ
  obtain ⟨r50, r51, r52, r53, ⟨vf, r54⟩, ⟨hf, r55⟩, ra, ro, rl⟩ := hQ2
  have hG2 := hG
  obtain ⟨gn, grs, gat, glo, gdr⟩ := hG2
  refine mh_ofW (cc := b_MM_count) (n := 7) (ret := (some .int)) (hs := []) (by decide) k837 ?_
  intro p e s m below meth c hx hb hr hml hown hts hlocks hnm hT hOK hadm
  have K0 : mh_K0 p s m ([.ref m0, .int (nI 4), .int (nI u), .int v2]).toArray c "MeldHostModel" b_MM_count dC dI dA := ⟨hx, hb, hown, hts, hOK.1, hOK.2.1⟩
  have hX := hOK.2.2.2.2
  have hb0 := hOK.2.2.2.1
  have hS : va_S (mh_A b) s.heap s.heap [] := va_S.rf
  have hl := lv_entry ([.ref m0, .int (nI 4), .int (nI u), .int v2]) (n := 7) (Nat.le_of_ble_eq_true rfl)
  rw [lg_entry_eq]
  generalize (lg_sl ([.ref m0, .int (nI 4), .int (nI u), .int v2]) ++ List.replicate (7 - (lg_sl ([.ref m0, .int (nI 4), .int (nI u), .int v2])).length) Slot.unset).toArray = ls at hl ⊢
  have hl : lv_has ls 7 [(0, .ref m0), (1, .int (nI 4)), (2, .int (nI u)), (3, .int v2)] := hl
  refine lv_aload_n hx hb d_MM_count_0 rfl (lv_at hl 0 rfl) ?_
  refine lv_iload_n hx hb d_MM_count_1 rfl (lv_at hl 1 rfl) ?_
  refine lv_iconst (v := nI 5) hx hb d_MM_count_2 (by decide) ?_
  refine mh_callR (mh_sS (rest := [.ref m0]) (av := [.int (nI 4), .int (nI 5)]) K0 e_MM_in l_MM_53 k744 rfl rfl d_MM_count_3) (c_MM_in) K0 hOK hml hl.1 e_MM_in hX hS d_MM_count_3 (Nat.le_of_ble_eq_true rfl) (Nat.le_of_ble_eq_true rfl) (Nat.le_of_ble_eq_true rfl) (Nat.le_of_ble_eq_true rfl) (Nat.le_of_ble_eq_true rfl) (fun H locs hX hS => ?_)
  refine W.eq (g2 := F0 m 6 ls [.int (mh_b (st_in (nI 4) 5)), .ref m0]) rfl ?_
  refine mh_ifeqB (tgt := 37) hx hb d_MM_count_6 (by decide) (fun z => absurd z (by rw [st_in_nI (j := 4) (n := 5) (by omega) (by decide)]; decide)) (fun _ => ?_)
  refine lv_iload_n hx hb d_MM_count_9 rfl (lv_at hl 1 rfl) ?_
  refine lv_iconst (v := nI 1) hx hb d_MM_count_10 (by decide) ?_
  refine mh_icmp_le (tgt := 22) hx hb (by omega) (by omega) d_MM_count_11 (by decide) (fun z => absurd z (by omega)) (fun _ => ?_)
  refine lv_iload_n hx hb d_MM_count_14 rfl (lv_at hl 2 rfl) ?_
  refine lv_iconst (v := nI 4) hx hb d_MM_count_15 (by decide) ?_
  refine mh_callR (mh_sS (rest := [.ref m0]) (av := [.int (nI u), .int (nI 4)]) K0 e_MM_in l_MM_53 k744 rfl rfl d_MM_count_16) (c_MM_in) K0 hOK hml hl.1 e_MM_in hX hS d_MM_count_16 (Nat.le_of_ble_eq_true rfl) (Nat.le_of_ble_eq_true rfl) (Nat.le_of_ble_eq_true rfl) (Nat.le_of_ble_eq_true rfl) (Nat.le_of_ble_eq_true rfl) (fun H locs hX hS => ?_)
  refine W.eq (g2 := F0 m 19 ls [.int (mh_b (st_in (nI u) 4)), .ref m0]) rfl ?_
  refine mh_ifeqB (tgt := 37) hx hb d_MM_count_19 (by decide) (fun z => absurd z (by rw [st_in_nI hu (by decide)]; decide)) (fun _ => ?_)
  refine lv_iload_n hx hb d_MM_count_22 rfl (lv_at hl 1 rfl) ?_
  refine lv_iconst (v := nI 3) hx hb d_MM_count_23 (by decide) ?_
  refine mh_icmp_le (tgt := 41) hx hb (by omega) (by omega) d_MM_count_24 (by decide) (fun z => absurd z (by omega)) (fun _ => ?_)
  refine lv_iload_n hx hb d_MM_count_27 rfl (lv_at hl 3 rfl) ?_
  refine lv_sipush (v := nI 256) hx hb d_MM_count_28 (by decide) ?_
  refine mh_callR (mh_sS (rest := [.ref m0]) (av := [.int v2, .int (nI 256)]) K0 e_MM_in l_MM_53 k744 rfl rfl d_MM_count_31) (c_MM_in) K0 hOK hml hl.1 e_MM_in hX hS d_MM_count_31 (Nat.le_of_ble_eq_true rfl) (Nat.le_of_ble_eq_true rfl) (Nat.le_of_ble_eq_true rfl) (Nat.le_of_ble_eq_true rfl) (Nat.le_of_ble_eq_true rfl) (fun H locs hX hS => ?_)
  refine W.eq (g2 := F0 m 34 ls [.int (mh_b (st_in v2 256)), .ref m0]) rfl ?_
  refine mh_ifneB (tgt := 41) hx hb d_MM_count_34 (by decide) (fun z => absurd z (by rw [hv]; decide)) (fun _ => ?_)
  refine lv_iconst (v := nI 1) hx hb d_MM_count_37 (by decide) ?_
  refine lv_goto (tgt := 42) hx hb d_MM_count_38 (by decide) ?_
  refine lv_iconst (v := nI 1) hx hb d_MM_count_42 (by decide) ?_
  refine mh_callV (mh_sV (rest := []) (av := [.int (nI 1), .int (nI 1)]) K0 hX r50 rfl e_MM_fails l_MM_57 k748 kp15 rfl rfl d_MM_count_43) (c_MM_fails1 r50) K0 hOK hml hl.1 e_MM_fails hX hS d_MM_count_43 (Nat.le_of_ble_eq_true rfl) (Nat.le_of_ble_eq_true rfl) (Nat.le_of_ble_eq_true rfl) (Nat.le_of_ble_eq_true rfl) (Nat.le_of_ble_eq_true rfl) (fun wf106 H locs ⟨hm106, hF106⟩ hX hS => ?_)
  refine W.eq (g2 := F0 m 46 ls [.int (nI 1)]) rfl ?_
  refine mh_if_eq (tgt := 51) hx hb (by omega) d_MM_count_46 (by decide) (fun z => absurd z (by omega)) (fun _ => ?_)
  refine lv_iconst (v := nI 0) hx hb d_MM_count_49 (by decide) ?_
  exact mh_iret K0 hr rfl hlocks hX hS (⟨rfl, ⟨aG, aO, aA, aV, aH, lg, op, at_, hQ.sc (fun k i h1 h2 h3 h4 => by rw [hF106 _ _ (by omega)]) hm106 ⟨_, ((hF106 54 0 (by omega)).trans r54)⟩ ⟨_, ((hF106 55 0 (by omega)).trans r55)⟩⟩, fun k i h => by rw [hF106 _ _ (by omega)]⟩) (Nat.le_of_ble_eq_true rfl) (Nat.le_of_ble_eq_true rfl) d_MM_count_50
set_option maxHeartbeats 4000000 in
set_option maxRecDepth 100000 in
theorem c_MM_count_0 {l : Launch} {b : Nat} {dC : Nat → ClassId} {dI : Nat → Nat → Nat} {dA : Nat → ClassId} {zs : Nat → Nat} {w : mh_w} {m0 : Nat} {er : Int32} {g : st_G} (hR : rM dA w m0 er g) (hG : sg_ok g) {v1 v2 : Int32} : mh_Met l b dC dI dA zs y_MM_count (mh_rm 4 10 500) [.ref m0, .int (nI 0), .int v1, .int v2] w (mh_V (some (.int (nI (sg_n g)))) (fun w' => rM dA w' m0 (nI 0) g ∧ mh_D w w')) := by
  obtain ⟨aG, aO, aA, aV, aH, lg, op, at_, hQ⟩ := hR
  have hQ2 := hQ
  obtain ⟨r50, r51, r52, r53, ⟨vf, r54⟩, ⟨hf, r55⟩, ra, ro, rl⟩ := hQ2
  have hG2 := hG
  obtain ⟨gn, grs, gat, glo, gdr⟩ := hG2
  refine mh_ofW (cc := b_MM_count) (n := 7) (ret := (some .int)) (hs := []) (by decide) k837 ?_
  intro p e s m below meth c hx hb hr hml hown hts hlocks hnm hT hOK hadm
  have K0 : mh_K0 p s m ([.ref m0, .int (nI 0), .int v1, .int v2]).toArray c "MeldHostModel" b_MM_count dC dI dA := ⟨hx, hb, hown, hts, hOK.1, hOK.2.1⟩
  have hX := hOK.2.2.2.2
  have hb0 := hOK.2.2.2.1
  have hS : va_S (mh_A b) s.heap s.heap [] := va_S.rf
  have hl := lv_entry ([.ref m0, .int (nI 0), .int v1, .int v2]) (n := 7) (Nat.le_of_ble_eq_true rfl)
  rw [lg_entry_eq]
  generalize (lg_sl ([.ref m0, .int (nI 0), .int v1, .int v2]) ++ List.replicate (7 - (lg_sl ([.ref m0, .int (nI 0), .int v1, .int v2])).length) Slot.unset).toArray = ls at hl ⊢
  have hl : lv_has ls 7 [(0, .ref m0), (1, .int (nI 0)), (2, .int v1), (3, .int v2)] := hl
  refine lv_aload_n hx hb d_MM_count_0 rfl (lv_at hl 0 rfl) ?_
  refine lv_iload_n hx hb d_MM_count_1 rfl (lv_at hl 1 rfl) ?_
  refine lv_iconst (v := nI 5) hx hb d_MM_count_2 (by decide) ?_
  refine mh_callR (mh_sS (rest := [.ref m0]) (av := [.int (nI 0), .int (nI 5)]) K0 e_MM_in l_MM_53 k744 rfl rfl d_MM_count_3) (c_MM_in) K0 hOK hml hl.1 e_MM_in hX hS d_MM_count_3 (Nat.le_of_ble_eq_true rfl) (Nat.le_of_ble_eq_true rfl) (Nat.le_of_ble_eq_true rfl) (Nat.le_of_ble_eq_true rfl) (Nat.le_of_ble_eq_true rfl) (fun H locs hX hS => ?_)
  refine W.eq (g2 := F0 m 6 ls [.int (mh_b (st_in (nI 0) 5)), .ref m0]) rfl ?_
  refine mh_ifeqB (tgt := 37) hx hb d_MM_count_6 (by decide) (fun z => absurd z (by rw [st_in_nI (j := 0) (n := 5) (by omega) (by decide)]; decide)) (fun _ => ?_)
  refine lv_iload_n hx hb d_MM_count_9 rfl (lv_at hl 1 rfl) ?_
  refine lv_iconst (v := nI 1) hx hb d_MM_count_10 (by decide) ?_
  refine mh_icmp_le (tgt := 22) hx hb (by omega) (by omega) d_MM_count_11 (by decide) (fun _ => ?_) (fun z => absurd z (by omega))
  refine lv_iload_n hx hb d_MM_count_22 rfl (lv_at hl 1 rfl) ?_
  refine lv_iconst (v := nI 3) hx hb d_MM_count_23 (by decide) ?_
  refine mh_icmp_le (tgt := 41) hx hb (by omega) (by omega) d_MM_count_24 (by decide) (fun _ => ?_) (fun z => absurd z (by omega))
  refine lv_iconst (v := nI 0) hx hb d_MM_count_41 (by decide) ?_
  refine lv_iconst (v := nI 1) hx hb d_MM_count_42 (by decide) ?_
  refine mh_callV (mh_sV (rest := []) (av := [.int (nI 0), .int (nI 1)]) K0 hX r50 rfl e_MM_fails l_MM_57 k748 kp15 rfl rfl d_MM_count_43) (c_MM_fails0 r50) K0 hOK hml hl.1 e_MM_fails hX hS d_MM_count_43 (Nat.le_of_ble_eq_true rfl) (Nat.le_of_ble_eq_true rfl) (Nat.le_of_ble_eq_true rfl) (Nat.le_of_ble_eq_true rfl) (Nat.le_of_ble_eq_true rfl) (fun wf107 H locs ⟨hm107, hF107⟩ hX hS => ?_)
  refine W.eq (g2 := F0 m 46 ls [.int (nI 0)]) rfl ?_
  refine mh_if_eq (tgt := 51) hx hb (by omega) d_MM_count_46 (by decide) (fun _ => ?_) (fun z => absurd z (by omega))
  refine lv_iconst (v := nI 0) hx hb d_MM_count_51 (by decide) ?_
  refine lv_istore (lv' := [(4, .int (nI 0)), (0, .ref m0), (1, .int (nI 0)), (2, .int v1), (3, .int v2)]) hx hb d_MM_count_52 hl (by decide) rfl (fun ls hl => ?_)
  refine lv_iconst (v := (-1)) hx hb d_MM_count_54 (by decide) ?_
  refine lv_istore (lv' := [(5, .int (-1)), (4, .int (nI 0)), (0, .ref m0), (1, .int (nI 0)), (2, .int v1), (3, .int v2)]) hx hb d_MM_count_55 hl (by decide) rfl (fun ls hl => ?_)
  refine lv_iload_n hx hb d_MM_count_57 rfl (lv_at hl 3 rfl) ?_
  refine mh_if_ne (tgt := 66) hx hb (by omega) d_MM_count_58 (by decide) (fun z => absurd z (by omega)) (fun _ => ?_)
  refine lv_aload_n hx hb d_MM_count_61 rfl (lv_at hl 2 rfl) ?_
  refine mh_get K0 hX hm107 f_MM_113 rfl d_MM_count_62 ?_
  exact mh_iret K0 hr rfl hlocks hX hS (⟨rfl, ⟨aG, aO, aA, aV, aH, lg, op, at_, hQ.sc (fun k i h1 h2 h3 h4 => by rw [hF107 _ _ (by omega)]) hm107 ⟨_, ((hF107 54 0 (by omega)).trans r54)⟩ ⟨_, ((hF107 55 0 (by omega)).trans r55)⟩⟩, fun k i h => by rw [hF107 _ _ (by omega)]⟩) (Nat.le_of_ble_eq_true rfl) (Nat.le_of_ble_eq_true rfl) d_MM_count_65
set_option maxHeartbeats 4000000 in
set_option maxRecDepth 100000 in
theorem c_MM_count_01 {l : Launch} {b : Nat} {dC : Nat → ClassId} {dI : Nat → Nat → Nat} {dA : Nat → ClassId} {zs : Nat → Nat} {w : mh_w} {m0 : Nat} {er : Int32} {g : st_G} (hR : rM dA w m0 er g) (hG : sg_ok g) {v1 v2 : Int32} : mh_Met l b dC dI dA zs y_MM_count (mh_rm 4 10 500) [.ref m0, .int (nI 1), .int v1, .int v2] w (mh_V (some (.int (nI (pb_cnt (fun t => (sg_dr g t).isSome) 16)))) (fun w' => rM dA w' m0 (nI 0) g ∧ mh_D w w')) := by
  obtain ⟨aG, aO, aA, aV, aH, lg, op, at_, hQ⟩ := hR
  have hQ2 := hQ
  obtain ⟨r50, r51, r52, r53, ⟨vf, r54⟩, ⟨hf, r55⟩, ra, ro, rl⟩ := hQ2
  have hG2 := hG
  obtain ⟨gn, grs, gat, glo, gdr⟩ := hG2
  refine mh_ofW (cc := b_MM_count) (n := 7) (ret := (some .int)) (hs := []) (by decide) k837 ?_
  intro p e s m below meth c hx hb hr hml hown hts hlocks hnm hT hOK hadm
  have K0 : mh_K0 p s m ([.ref m0, .int (nI 1), .int v1, .int v2]).toArray c "MeldHostModel" b_MM_count dC dI dA := ⟨hx, hb, hown, hts, hOK.1, hOK.2.1⟩
  have hX := hOK.2.2.2.2
  have hb0 := hOK.2.2.2.1
  have hS : va_S (mh_A b) s.heap s.heap [] := va_S.rf
  have hl := lv_entry ([.ref m0, .int (nI 1), .int v1, .int v2]) (n := 7) (Nat.le_of_ble_eq_true rfl)
  rw [lg_entry_eq]
  generalize (lg_sl ([.ref m0, .int (nI 1), .int v1, .int v2]) ++ List.replicate (7 - (lg_sl ([.ref m0, .int (nI 1), .int v1, .int v2])).length) Slot.unset).toArray = ls at hl ⊢
  have hl : lv_has ls 7 [(0, .ref m0), (1, .int (nI 1)), (2, .int v1), (3, .int v2)] := hl
  refine lv_aload_n hx hb d_MM_count_0 rfl (lv_at hl 0 rfl) ?_
  refine lv_iload_n hx hb d_MM_count_1 rfl (lv_at hl 1 rfl) ?_
  refine lv_iconst (v := nI 5) hx hb d_MM_count_2 (by decide) ?_
  refine mh_callR (mh_sS (rest := [.ref m0]) (av := [.int (nI 1), .int (nI 5)]) K0 e_MM_in l_MM_53 k744 rfl rfl d_MM_count_3) (c_MM_in) K0 hOK hml hl.1 e_MM_in hX hS d_MM_count_3 (Nat.le_of_ble_eq_true rfl) (Nat.le_of_ble_eq_true rfl) (Nat.le_of_ble_eq_true rfl) (Nat.le_of_ble_eq_true rfl) (Nat.le_of_ble_eq_true rfl) (fun H locs hX hS => ?_)
  refine W.eq (g2 := F0 m 6 ls [.int (mh_b (st_in (nI 1) 5)), .ref m0]) rfl ?_
  refine mh_ifeqB (tgt := 37) hx hb d_MM_count_6 (by decide) (fun z => absurd z (by rw [st_in_nI (j := 1) (n := 5) (by omega) (by decide)]; decide)) (fun _ => ?_)
  refine lv_iload_n hx hb d_MM_count_9 rfl (lv_at hl 1 rfl) ?_
  refine lv_iconst (v := nI 1) hx hb d_MM_count_10 (by decide) ?_
  refine mh_icmp_le (tgt := 22) hx hb (by omega) (by omega) d_MM_count_11 (by decide) (fun _ => ?_) (fun z => absurd z (by omega))
  refine lv_iload_n hx hb d_MM_count_22 rfl (lv_at hl 1 rfl) ?_
  refine lv_iconst (v := nI 3) hx hb d_MM_count_23 (by decide) ?_
  refine mh_icmp_le (tgt := 41) hx hb (by omega) (by omega) d_MM_count_24 (by decide) (fun _ => ?_) (fun z => absurd z (by omega))
  refine lv_iconst (v := nI 0) hx hb d_MM_count_41 (by decide) ?_
  refine lv_iconst (v := nI 1) hx hb d_MM_count_42 (by decide) ?_
  refine mh_callV (mh_sV (rest := []) (av := [.int (nI 0), .int (nI 1)]) K0 hX r50 rfl e_MM_fails l_MM_57 k748 kp15 rfl rfl d_MM_count_43) (c_MM_fails0 r50) K0 hOK hml hl.1 e_MM_fails hX hS d_MM_count_43 (Nat.le_of_ble_eq_true rfl) (Nat.le_of_ble_eq_true rfl) (Nat.le_of_ble_eq_true rfl) (Nat.le_of_ble_eq_true rfl) (Nat.le_of_ble_eq_true rfl) (fun wf108 H locs ⟨hm108, hF108⟩ hX hS => ?_)
  refine W.eq (g2 := F0 m 46 ls [.int (nI 0)]) rfl ?_
  refine mh_if_eq (tgt := 51) hx hb (by omega) d_MM_count_46 (by decide) (fun _ => ?_) (fun z => absurd z (by omega))
  refine lv_iconst (v := nI 0) hx hb d_MM_count_51 (by decide) ?_
  refine lv_istore (lv' := [(4, .int (nI 0)), (0, .ref m0), (1, .int (nI 1)), (2, .int v1), (3, .int v2)]) hx hb d_MM_count_52 hl (by decide) rfl (fun ls hl => ?_)
  refine lv_iconst (v := (-1)) hx hb d_MM_count_54 (by decide) ?_
  refine lv_istore (lv' := [(5, .int (-1)), (4, .int (nI 0)), (0, .ref m0), (1, .int (nI 1)), (2, .int v1), (3, .int v2)]) hx hb d_MM_count_55 hl (by decide) rfl (fun ls hl => ?_)
  refine lv_iload_n hx hb d_MM_count_57 rfl (lv_at hl 3 rfl) ?_
  refine mh_if_ne (tgt := 66) hx hb (by omega) d_MM_count_58 (by decide) (fun _ => ?_) (fun z => absurd z (by omega))
  refine lv_iload_n hx hb d_MM_count_66 rfl (lv_at hl 3 rfl) ?_
  refine lv_iconst (v := nI 1) hx hb d_MM_count_67 (by decide) ?_
  refine mh_icmp_ne (tgt := 106) hx hb (by omega) (by omega) d_MM_count_68 (by decide) (fun z => absurd z (by omega)) (fun _ => ?_)
  refine lv_iconst (v := nI 0) hx hb d_MM_count_71 (by decide) ?_
  refine lv_istore (lv' := [(6, .int (nI 0)), (5, .int (-1)), (4, .int (nI 0)), (0, .ref m0), (1, .int (nI 1)), (2, .int v1), (3, .int v2)]) hx hb d_MM_count_72 hl (by decide) rfl (fun ls hl => ?_)
  have LP : ∀ (n : Nat) (j : Nat) (H : Heap) (locs : List Loc) (ls : Array Slot), mh_P (dC, dI) b wf108 H → va_S (mh_A b) s.heap H locs → lv_has ls 7 [(6, .int (nI j)), (5, .int (-1)), (4, .int (nI (pb_cnt (fun t => (sg_dr g t).isSome) j))), (0, .ref m0), (1, .int (nI 1)), (2, .int v1), (3, .int v2)] → (j + n = 16) → W p l e (mh_rm 4 10 500) s m ([.ref m0, .int (nI 1), .int v1, .int v2]).toArray below meth c H locs (0) (0) (mh_MQ below b dC dI (mh_V (some (.int (nI (pb_cnt (fun t => (sg_dr g t).isSome) 16)))) (fun w' => rM dA w' m0 (nI 0) g ∧ mh_D w w')) ([.ref m0, .int (nI 1), .int v1, .int v2]).toArray s 10 500) (F0 m 74 ls []) := by
    intro n
    induction n with
    | zero =>
      intro j H locs ls hX hS hl hn9
      refine lv_iload hx hb d_MM_count_74 (lv_at hl 0 rfl) ?_
      refine lv_bipush (v := nI 16) hx hb d_MM_count_76 (by decide) ?_
      refine mh_icmp_ge (tgt := 103) hx hb (by omega) (by omega) d_MM_count_78 (by decide) (fun _ => ?_) (fun z => absurd z (by omega))
      refine lv_iload hx hb d_MM_count_103 (lv_at hl 2 rfl) ?_
      exact mh_iret K0 hr rfl hlocks hX hS (⟨by rw [show j = 16 by omega], ⟨aG, aO, aA, aV, aH, lg, op, at_, hQ.sc (fun k i h1 h2 h3 h4 => by rw [hF108 _ _ (by omega)]) hm108 ⟨_, ((hF108 54 0 (by omega)).trans r54)⟩ ⟨_, ((hF108 55 0 (by omega)).trans r55)⟩⟩, fun k i h => by rw [hF108 _ _ (by omega)]⟩) (Nat.le_of_ble_eq_true rfl) (Nat.le_of_ble_eq_true rfl) d_MM_count_105
    | succ n ih =>
      intro j H locs ls hX hS hl hn9
      obtain ⟨a, x, ha, hW0, ho9, hx9⟩ := ro j (by omega)
      have hW1 : rW dA wf108 56 j a x (sg_dr g j).isSome := hW0.mv (fun z hz => by rw [hF108 _ _ (by omega)])
      obtain ⟨a1, a2, a3, a4, a5, a6, i0⟩ := hW1.fst
      refine lv_iload hx hb d_MM_count_74 (lv_at hl 0 rfl) ?_
      refine lv_bipush (v := nI 16) hx hb d_MM_count_76 (by decide) ?_
      refine mh_icmp_ge (tgt := 103) hx hb (by omega) (by omega) d_MM_count_78 (by decide) (fun z => absurd z (by omega)) (fun _ => ?_)
      refine lv_aload_n hx hb d_MM_count_81 rfl (lv_at hl 3 rfl) ?_
      refine mh_get K0 hX hm108 f_MM_15 rfl d_MM_count_82 ?_
      refine lv_iload hx hb d_MM_count_85 (lv_at hl 0 rfl) ?_
      refine mh_aaldN 7 rfl K0 hX ((hF108 52 0 (by omega)).trans r52) (by omega) (by omega) (r := (some a)) (ha) d_MM_count_87 ?_
      refine W.eq (g2 := F0 m 88 ls [.ref a]) rfl ?_
      refine mh_get K0 hX i0 f_MM_61 rfl d_MM_count_88 ?_
      refine mh_ifeqB (tgt := 97) hx hb d_MM_count_91 (by decide) (fun ct => ?_) (fun cf => ?_)
      · skip
        refine lv_iinc (v := nI (j + 1)) (k := 0) (lv' := [(6, .int (nI (j + 1))), (5, .int (-1)), (4, .int (nI (pb_cnt (fun t => (sg_dr g t).isSome) j))), (0, .ref m0), (1, .int (nI 1)), (2, .int v1), (3, .int v2)]) hx hb d_MM_count_97 hl rfl (mh_inc j) (by decide) rfl (fun ls hl => ?_)
        refine lv_goto (tgt := 74) hx hb d_MM_count_100 (by decide) ?_
        have hl : lv_has ls 7 [(6, .int (nI (j + 1))), (5, .int (-1)), (4, .int (nI (pb_cnt (fun t => (sg_dr g t).isSome) (j + 1)))), (0, .ref m0), (1, .int (nI 1)), (2, .int v1), (3, .int v2)] := by rw [pb_cnt]; simp only [ct]; exact hl
        exact ih (j + 1) _ _ _ hX hS hl (by omega)
      · skip
        refine lv_iinc (v := nI ((pb_cnt (fun t => (sg_dr g t).isSome) j) + 1)) (k := 2) (lv' := [(4, .int (nI ((pb_cnt (fun t => (sg_dr g t).isSome) j) + 1))), (6, .int (nI j)), (5, .int (-1)), (0, .ref m0), (1, .int (nI 1)), (2, .int v1), (3, .int v2)]) hx hb d_MM_count_94 hl rfl (mh_inc (pb_cnt (fun t => (sg_dr g t).isSome) j)) (by decide) rfl (fun ls hl => ?_)
        refine lv_iinc (v := nI (j + 1)) (k := 1) (lv' := [(6, .int (nI (j + 1))), (4, .int (nI ((pb_cnt (fun t => (sg_dr g t).isSome) j) + 1))), (5, .int (-1)), (0, .ref m0), (1, .int (nI 1)), (2, .int v1), (3, .int v2)]) hx hb d_MM_count_97 hl rfl (mh_inc j) (by decide) rfl (fun ls hl => ?_)
        refine lv_goto (tgt := 74) hx hb d_MM_count_100 (by decide) ?_
        have hl : lv_has ls 7 [(6, .int (nI (j + 1))), (4, .int (nI (pb_cnt (fun t => (sg_dr g t).isSome) (j + 1)))), (5, .int (-1)), (0, .ref m0), (1, .int (nI 1)), (2, .int v1), (3, .int v2)] := by rw [pb_cnt]; simp only [cf]; exact hl
        exact ih (j + 1) _ _ _ hX hS (lv_sub hl [0, 2, 1, 3, 4, 5, 6] rfl) (by omega)
  exact LP 16 0 _ _ _ hX hS hl rfl
set_option maxHeartbeats 4000000 in
set_option maxRecDepth 100000 in
theorem c_MM_count_02 {l : Launch} {b : Nat} {dC : Nat → ClassId} {dI : Nat → Nat → Nat} {dA : Nat → ClassId} {zs : Nat → Nat} {w : mh_w} {m0 : Nat} {er : Int32} {g : st_G} (hR : rM dA w m0 er g) (hG : sg_ok g) {u : Nat} (hu : u < 4) {v2 : Int32} : mh_Met l b dC dI dA zs y_MM_count (mh_rm 4 10 500) [.ref m0, .int (nI 2), .int (nI u), .int v2] w (mh_V (some (.int (nI (sg_at g u)))) (fun w' => rM dA w' m0 (nI 0) g ∧ mh_D w w')) := by
  obtain ⟨aG, aO, aA, aV, aH, lg, op, at_, hQ⟩ := hR
  have hQ2 := hQ
  obtain ⟨r50, r51, r52, r53, ⟨vf, r54⟩, ⟨hf, r55⟩, ra, ro, rl⟩ := hQ2
  have hG2 := hG
  obtain ⟨gn, grs, gat, glo, gdr⟩ := hG2
  refine mh_ofW (cc := b_MM_count) (n := 7) (ret := (some .int)) (hs := []) (by decide) k837 ?_
  intro p e s m below meth c hx hb hr hml hown hts hlocks hnm hT hOK hadm
  have K0 : mh_K0 p s m ([.ref m0, .int (nI 2), .int (nI u), .int v2]).toArray c "MeldHostModel" b_MM_count dC dI dA := ⟨hx, hb, hown, hts, hOK.1, hOK.2.1⟩
  have hX := hOK.2.2.2.2
  have hb0 := hOK.2.2.2.1
  have hS : va_S (mh_A b) s.heap s.heap [] := va_S.rf
  have hl := lv_entry ([.ref m0, .int (nI 2), .int (nI u), .int v2]) (n := 7) (Nat.le_of_ble_eq_true rfl)
  rw [lg_entry_eq]
  generalize (lg_sl ([.ref m0, .int (nI 2), .int (nI u), .int v2]) ++ List.replicate (7 - (lg_sl ([.ref m0, .int (nI 2), .int (nI u), .int v2])).length) Slot.unset).toArray = ls at hl ⊢
  have hl : lv_has ls 7 [(0, .ref m0), (1, .int (nI 2)), (2, .int (nI u)), (3, .int v2)] := hl
  refine lv_aload_n hx hb d_MM_count_0 rfl (lv_at hl 0 rfl) ?_
  refine lv_iload_n hx hb d_MM_count_1 rfl (lv_at hl 1 rfl) ?_
  refine lv_iconst (v := nI 5) hx hb d_MM_count_2 (by decide) ?_
  refine mh_callR (mh_sS (rest := [.ref m0]) (av := [.int (nI 2), .int (nI 5)]) K0 e_MM_in l_MM_53 k744 rfl rfl d_MM_count_3) (c_MM_in) K0 hOK hml hl.1 e_MM_in hX hS d_MM_count_3 (Nat.le_of_ble_eq_true rfl) (Nat.le_of_ble_eq_true rfl) (Nat.le_of_ble_eq_true rfl) (Nat.le_of_ble_eq_true rfl) (Nat.le_of_ble_eq_true rfl) (fun H locs hX hS => ?_)
  refine W.eq (g2 := F0 m 6 ls [.int (mh_b (st_in (nI 2) 5)), .ref m0]) rfl ?_
  refine mh_ifeqB (tgt := 37) hx hb d_MM_count_6 (by decide) (fun z => absurd z (by rw [st_in_nI (j := 2) (n := 5) (by omega) (by decide)]; decide)) (fun _ => ?_)
  refine lv_iload_n hx hb d_MM_count_9 rfl (lv_at hl 1 rfl) ?_
  refine lv_iconst (v := nI 1) hx hb d_MM_count_10 (by decide) ?_
  refine mh_icmp_le (tgt := 22) hx hb (by omega) (by omega) d_MM_count_11 (by decide) (fun z => absurd z (by omega)) (fun _ => ?_)
  refine lv_iload_n hx hb d_MM_count_14 rfl (lv_at hl 2 rfl) ?_
  refine lv_iconst (v := nI 4) hx hb d_MM_count_15 (by decide) ?_
  refine mh_callR (mh_sS (rest := [.ref m0]) (av := [.int (nI u), .int (nI 4)]) K0 e_MM_in l_MM_53 k744 rfl rfl d_MM_count_16) (c_MM_in) K0 hOK hml hl.1 e_MM_in hX hS d_MM_count_16 (Nat.le_of_ble_eq_true rfl) (Nat.le_of_ble_eq_true rfl) (Nat.le_of_ble_eq_true rfl) (Nat.le_of_ble_eq_true rfl) (Nat.le_of_ble_eq_true rfl) (fun H locs hX hS => ?_)
  refine W.eq (g2 := F0 m 19 ls [.int (mh_b (st_in (nI u) 4)), .ref m0]) rfl ?_
  refine mh_ifeqB (tgt := 37) hx hb d_MM_count_19 (by decide) (fun z => absurd z (by rw [st_in_nI hu (by decide)]; decide)) (fun _ => ?_)
  refine lv_iload_n hx hb d_MM_count_22 rfl (lv_at hl 1 rfl) ?_
  refine lv_iconst (v := nI 3) hx hb d_MM_count_23 (by decide) ?_
  refine mh_icmp_le (tgt := 41) hx hb (by omega) (by omega) d_MM_count_24 (by decide) (fun _ => ?_) (fun z => absurd z (by omega))
  refine lv_iconst (v := nI 0) hx hb d_MM_count_41 (by decide) ?_
  refine lv_iconst (v := nI 1) hx hb d_MM_count_42 (by decide) ?_
  refine mh_callV (mh_sV (rest := []) (av := [.int (nI 0), .int (nI 1)]) K0 hX r50 rfl e_MM_fails l_MM_57 k748 kp15 rfl rfl d_MM_count_43) (c_MM_fails0 r50) K0 hOK hml hl.1 e_MM_fails hX hS d_MM_count_43 (Nat.le_of_ble_eq_true rfl) (Nat.le_of_ble_eq_true rfl) (Nat.le_of_ble_eq_true rfl) (Nat.le_of_ble_eq_true rfl) (Nat.le_of_ble_eq_true rfl) (fun wf109 H locs ⟨hm109, hF109⟩ hX hS => ?_)
  refine W.eq (g2 := F0 m 46 ls [.int (nI 0)]) rfl ?_
  refine mh_if_eq (tgt := 51) hx hb (by omega) d_MM_count_46 (by decide) (fun _ => ?_) (fun z => absurd z (by omega))
  refine lv_iconst (v := nI 0) hx hb d_MM_count_51 (by decide) ?_
  refine lv_istore (lv' := [(4, .int (nI 0)), (0, .ref m0), (1, .int (nI 2)), (2, .int (nI u)), (3, .int v2)]) hx hb d_MM_count_52 hl (by decide) rfl (fun ls hl => ?_)
  refine lv_iconst (v := (-1)) hx hb d_MM_count_54 (by decide) ?_
  refine lv_istore (lv' := [(5, .int (-1)), (4, .int (nI 0)), (0, .ref m0), (1, .int (nI 2)), (2, .int (nI u)), (3, .int v2)]) hx hb d_MM_count_55 hl (by decide) rfl (fun ls hl => ?_)
  refine lv_iload_n hx hb d_MM_count_57 rfl (lv_at hl 3 rfl) ?_
  refine mh_if_ne (tgt := 66) hx hb (by omega) d_MM_count_58 (by decide) (fun _ => ?_) (fun z => absurd z (by omega))
  refine lv_iload_n hx hb d_MM_count_66 rfl (lv_at hl 3 rfl) ?_
  refine lv_iconst (v := nI 1) hx hb d_MM_count_67 (by decide) ?_
  refine mh_icmp_ne (tgt := 106) hx hb (by omega) (by omega) d_MM_count_68 (by decide) (fun _ => ?_) (fun z => absurd z (by omega))
  refine lv_iload_n hx hb d_MM_count_106 rfl (lv_at hl 3 rfl) ?_
  refine lv_iconst (v := nI 2) hx hb d_MM_count_107 (by decide) ?_
  refine mh_icmp_ne (tgt := 118) hx hb (by omega) (by omega) d_MM_count_108 (by decide) (fun z => absurd z (by omega)) (fun _ => ?_)
  refine lv_aload_n hx hb d_MM_count_111 rfl (lv_at hl 2 rfl) ?_
  refine mh_get K0 hX hm109 f_MM_18 rfl d_MM_count_112 ?_
  refine lv_iload_n hx hb d_MM_count_115 rfl (lv_at hl 4 rfl) ?_
  refine mh_ialdN K0 hX ((hF109 53 0 (by omega)).trans r53) (by omega) (by omega) d_MM_count_116 ?_
  refine mh_ti (y := nI (sg_at g u)) (ra u hu) ?_
  exact mh_iret K0 hr rfl hlocks hX hS (⟨rfl, ⟨aG, aO, aA, aV, aH, lg, op, at_, hQ.sc (fun k i h1 h2 h3 h4 => by rw [hF109 _ _ (by omega)]) hm109 ⟨_, ((hF109 54 0 (by omega)).trans r54)⟩ ⟨_, ((hF109 55 0 (by omega)).trans r55)⟩⟩, fun k i h => by rw [hF109 _ _ (by omega)]⟩) (Nat.le_of_ble_eq_true rfl) (Nat.le_of_ble_eq_true rfl) d_MM_count_117
set_option maxHeartbeats 4000000 in
set_option maxRecDepth 100000 in
theorem c_MM_count_03 {l : Launch} {b : Nat} {dC : Nat → ClassId} {dI : Nat → Nat → Nat} {dA : Nat → ClassId} {zs : Nat → Nat} {w : mh_w} {m0 : Nat} {er : Int32} {g : st_G} (hR : rM dA w m0 er g) (hG : sg_ok g) {u : Nat} (hu : u < 4) {v2 : Int32} : mh_Met l b dC dI dA zs y_MM_count (mh_rm 4 10 500) [.ref m0, .int (nI 3), .int (nI u), .int v2] w (mh_V (some (.int (nI (pb_cnt (fun i => iv_gd (sg_lg g i)) (sg_at g u))))) (fun w' => rM dA w' m0 (nI 0) g ∧ mh_D w w')) := by
  obtain ⟨aG, aO, aA, aV, aH, lg, op, at_, hQ⟩ := hR
  have hQ2 := hQ
  obtain ⟨r50, r51, r52, r53, ⟨vf, r54⟩, ⟨hf, r55⟩, ra, ro, rl⟩ := hQ2
  have hG2 := hG
  obtain ⟨gn, grs, gat, glo, gdr⟩ := hG2
  refine mh_ofW (cc := b_MM_count) (n := 7) (ret := (some .int)) (hs := []) (by decide) k837 ?_
  intro p e s m below meth c hx hb hr hml hown hts hlocks hnm hT hOK hadm
  have K0 : mh_K0 p s m ([.ref m0, .int (nI 3), .int (nI u), .int v2]).toArray c "MeldHostModel" b_MM_count dC dI dA := ⟨hx, hb, hown, hts, hOK.1, hOK.2.1⟩
  have hX := hOK.2.2.2.2
  have hb0 := hOK.2.2.2.1
  have hS : va_S (mh_A b) s.heap s.heap [] := va_S.rf
  have hl := lv_entry ([.ref m0, .int (nI 3), .int (nI u), .int v2]) (n := 7) (Nat.le_of_ble_eq_true rfl)
  rw [lg_entry_eq]
  generalize (lg_sl ([.ref m0, .int (nI 3), .int (nI u), .int v2]) ++ List.replicate (7 - (lg_sl ([.ref m0, .int (nI 3), .int (nI u), .int v2])).length) Slot.unset).toArray = ls at hl ⊢
  have hl : lv_has ls 7 [(0, .ref m0), (1, .int (nI 3)), (2, .int (nI u)), (3, .int v2)] := hl
  have hat := gat u hu
  refine lv_aload_n hx hb d_MM_count_0 rfl (lv_at hl 0 rfl) ?_
  refine lv_iload_n hx hb d_MM_count_1 rfl (lv_at hl 1 rfl) ?_
  refine lv_iconst (v := nI 5) hx hb d_MM_count_2 (by decide) ?_
  refine mh_callR (mh_sS (rest := [.ref m0]) (av := [.int (nI 3), .int (nI 5)]) K0 e_MM_in l_MM_53 k744 rfl rfl d_MM_count_3) (c_MM_in) K0 hOK hml hl.1 e_MM_in hX hS d_MM_count_3 (Nat.le_of_ble_eq_true rfl) (Nat.le_of_ble_eq_true rfl) (Nat.le_of_ble_eq_true rfl) (Nat.le_of_ble_eq_true rfl) (Nat.le_of_ble_eq_true rfl) (fun H locs hX hS => ?_)
  refine W.eq (g2 := F0 m 6 ls [.int (mh_b (st_in (nI 3) 5)), .ref m0]) rfl ?_
  refine mh_ifeqB (tgt := 37) hx hb d_MM_count_6 (by decide) (fun z => absurd z (by rw [st_in_nI (j := 3) (n := 5) (by omega) (by decide)]; decide)) (fun _ => ?_)
  refine lv_iload_n hx hb d_MM_count_9 rfl (lv_at hl 1 rfl) ?_
  refine lv_iconst (v := nI 1) hx hb d_MM_count_10 (by decide) ?_
  refine mh_icmp_le (tgt := 22) hx hb (by omega) (by omega) d_MM_count_11 (by decide) (fun z => absurd z (by omega)) (fun _ => ?_)
  refine lv_iload_n hx hb d_MM_count_14 rfl (lv_at hl 2 rfl) ?_
  refine lv_iconst (v := nI 4) hx hb d_MM_count_15 (by decide) ?_
  refine mh_callR (mh_sS (rest := [.ref m0]) (av := [.int (nI u), .int (nI 4)]) K0 e_MM_in l_MM_53 k744 rfl rfl d_MM_count_16) (c_MM_in) K0 hOK hml hl.1 e_MM_in hX hS d_MM_count_16 (Nat.le_of_ble_eq_true rfl) (Nat.le_of_ble_eq_true rfl) (Nat.le_of_ble_eq_true rfl) (Nat.le_of_ble_eq_true rfl) (Nat.le_of_ble_eq_true rfl) (fun H locs hX hS => ?_)
  refine W.eq (g2 := F0 m 19 ls [.int (mh_b (st_in (nI u) 4)), .ref m0]) rfl ?_
  refine mh_ifeqB (tgt := 37) hx hb d_MM_count_19 (by decide) (fun z => absurd z (by rw [st_in_nI hu (by decide)]; decide)) (fun _ => ?_)
  refine lv_iload_n hx hb d_MM_count_22 rfl (lv_at hl 1 rfl) ?_
  refine lv_iconst (v := nI 3) hx hb d_MM_count_23 (by decide) ?_
  refine mh_icmp_le (tgt := 41) hx hb (by omega) (by omega) d_MM_count_24 (by decide) (fun _ => ?_) (fun z => absurd z (by omega))
  refine lv_iconst (v := nI 0) hx hb d_MM_count_41 (by decide) ?_
  refine lv_iconst (v := nI 1) hx hb d_MM_count_42 (by decide) ?_
  refine mh_callV (mh_sV (rest := []) (av := [.int (nI 0), .int (nI 1)]) K0 hX r50 rfl e_MM_fails l_MM_57 k748 kp15 rfl rfl d_MM_count_43) (c_MM_fails0 r50) K0 hOK hml hl.1 e_MM_fails hX hS d_MM_count_43 (Nat.le_of_ble_eq_true rfl) (Nat.le_of_ble_eq_true rfl) (Nat.le_of_ble_eq_true rfl) (Nat.le_of_ble_eq_true rfl) (Nat.le_of_ble_eq_true rfl) (fun wf110 H locs ⟨hm110, hF110⟩ hX hS => ?_)
  refine W.eq (g2 := F0 m 46 ls [.int (nI 0)]) rfl ?_
  refine mh_if_eq (tgt := 51) hx hb (by omega) d_MM_count_46 (by decide) (fun _ => ?_) (fun z => absurd z (by omega))
  refine lv_iconst (v := nI 0) hx hb d_MM_count_51 (by decide) ?_
  refine lv_istore (lv' := [(4, .int (nI 0)), (0, .ref m0), (1, .int (nI 3)), (2, .int (nI u)), (3, .int v2)]) hx hb d_MM_count_52 hl (by decide) rfl (fun ls hl => ?_)
  refine lv_iconst (v := (-1)) hx hb d_MM_count_54 (by decide) ?_
  refine lv_istore (lv' := [(5, .int (-1)), (4, .int (nI 0)), (0, .ref m0), (1, .int (nI 3)), (2, .int (nI u)), (3, .int v2)]) hx hb d_MM_count_55 hl (by decide) rfl (fun ls hl => ?_)
  refine lv_iload_n hx hb d_MM_count_57 rfl (lv_at hl 3 rfl) ?_
  refine mh_if_ne (tgt := 66) hx hb (by omega) d_MM_count_58 (by decide) (fun _ => ?_) (fun z => absurd z (by omega))
  refine lv_iload_n hx hb d_MM_count_66 rfl (lv_at hl 3 rfl) ?_
  refine lv_iconst (v := nI 1) hx hb d_MM_count_67 (by decide) ?_
  refine mh_icmp_ne (tgt := 106) hx hb (by omega) (by omega) d_MM_count_68 (by decide) (fun _ => ?_) (fun z => absurd z (by omega))
  refine lv_iload_n hx hb d_MM_count_106 rfl (lv_at hl 3 rfl) ?_
  refine lv_iconst (v := nI 2) hx hb d_MM_count_107 (by decide) ?_
  refine mh_icmp_ne (tgt := 118) hx hb (by omega) (by omega) d_MM_count_108 (by decide) (fun _ => ?_) (fun z => absurd z (by omega))
  refine lv_iconst (v := nI 0) hx hb d_MM_count_118 (by decide) ?_
  refine lv_istore (lv' := [(6, .int (nI 0)), (5, .int (-1)), (4, .int (nI 0)), (0, .ref m0), (1, .int (nI 3)), (2, .int (nI u)), (3, .int v2)]) hx hb d_MM_count_119 hl (by decide) rfl (fun ls hl => ?_)
  have LP : ∀ (n : Nat) (j : Nat) (H : Heap) (locs : List Loc) (ls : Array Slot), mh_P (dC, dI) b wf110 H → va_S (mh_A b) s.heap H locs → lv_has ls 7 [(6, .int (nI j)), (5, .int (-1)), (4, .int (nI (pb_cnt (fun i => iv_gd (sg_lg g i)) j))), (0, .ref m0), (1, .int (nI 3)), (2, .int (nI u)), (3, .int v2)] → (j + n = sg_at g u) → W p l e (mh_rm 4 10 500) s m ([.ref m0, .int (nI 3), .int (nI u), .int v2]).toArray below meth c H locs (0) (0) (mh_MQ below b dC dI (mh_V (some (.int (nI (pb_cnt (fun i => iv_gd (sg_lg g i)) (sg_at g u))))) (fun w' => rM dA w' m0 (nI 0) g ∧ mh_D w w')) ([.ref m0, .int (nI 3), .int (nI u), .int v2]).toArray s 10 500) (F0 m 121 ls []) := by
    intro n
    induction n with
    | zero =>
      intro j H locs ls hX hS hl hn9
      refine lv_iload hx hb d_MM_count_121 (lv_at hl 0 rfl) ?_
      refine lv_aload_n hx hb d_MM_count_123 rfl (lv_at hl 3 rfl) ?_
      refine mh_get K0 hX hm110 f_MM_18 rfl d_MM_count_124 ?_
      refine lv_iload_n hx hb d_MM_count_127 rfl (lv_at hl 5 rfl) ?_
      refine mh_ialdN K0 hX ((hF110 53 0 (by omega)).trans r53) (by omega) (by omega) d_MM_count_128 ?_
      refine mh_ti (y := nI (sg_at g u)) (ra u hu) ?_
      refine mh_icmp_ge (tgt := 177) hx hb (by omega) (by omega) d_MM_count_129 (by decide) (fun _ => ?_) (fun z => absurd z (by omega))
      refine lv_iload_n hx hb d_MM_count_177 rfl (lv_at hl 4 rfl) ?_
      refine lv_iconst (v := nI 3) hx hb d_MM_count_178 (by decide) ?_
      refine mh_icmp_ne (tgt := 187) hx hb (by omega) (by omega) d_MM_count_179 (by decide) (fun z => absurd z (by omega)) (fun _ => ?_)
      refine lv_iload hx hb d_MM_count_182 (lv_at hl 2 rfl) ?_
      refine lv_goto (tgt := 189) hx hb d_MM_count_184 (by decide) ?_
      exact mh_iret K0 hr rfl hlocks hX hS (⟨by rw [show sg_at g u = j by omega], ⟨aG, aO, aA, aV, aH, lg, op, at_, hQ.sc (fun k i h1 h2 h3 h4 => by rw [hF110 _ _ (by omega)]) hm110 ⟨_, ((hF110 54 0 (by omega)).trans r54)⟩ ⟨_, ((hF110 55 0 (by omega)).trans r55)⟩⟩, fun k i h => by rw [hF110 _ _ (by omega)]⟩) (Nat.le_of_ble_eq_true rfl) (Nat.le_of_ble_eq_true rfl) d_MM_count_189
    | succ n ih =>
      intro j H locs ls hX hS hl hn9
      obtain ⟨yy, hy1, hy2⟩ := rl j (by omega)
      have hy3 : rW dA wf110 66 j yy (sg_lg g j) false := hy2.mv (fun z hz => by rw [hF110 _ _ (by omega)])
      obtain ⟨a1, a2, a3, a4, a5, a6, j0⟩ := hy3.fst
      refine lv_iload hx hb d_MM_count_121 (lv_at hl 0 rfl) ?_
      refine lv_aload_n hx hb d_MM_count_123 rfl (lv_at hl 3 rfl) ?_
      refine mh_get K0 hX hm110 f_MM_18 rfl d_MM_count_124 ?_
      refine lv_iload_n hx hb d_MM_count_127 rfl (lv_at hl 5 rfl) ?_
      refine mh_ialdN K0 hX ((hF110 53 0 (by omega)).trans r53) (by omega) (by omega) d_MM_count_128 ?_
      refine mh_ti (y := nI (sg_at g u)) (ra u hu) ?_
      refine mh_icmp_ge (tgt := 177) hx hb (by omega) (by omega) d_MM_count_129 (by decide) (fun z => absurd z (by omega)) (fun _ => ?_)
      refine lv_aload_n hx hb d_MM_count_132 rfl (lv_at hl 3 rfl) ?_
      refine mh_get K0 hX hm110 f_MM_11 rfl d_MM_count_133 ?_
      refine lv_iload hx hb d_MM_count_136 (lv_at hl 0 rfl) ?_
      refine mh_aaldN 7 rfl K0 hX ((hF110 51 0 (by omega)).trans r51) (by omega) (by omega) (r := (some yy)) (hy1) d_MM_count_138 ?_
      refine W.eq (g2 := F0 m 139 ls [.ref yy]) rfl ?_
      refine mh_get K0 hX j0 f_MM_35 rfl d_MM_count_139 ?_
      refine mh_ifeqB (tgt := 171) hx hb d_MM_count_142 (by decide) (fun ct => ?_) (fun cf => ?_)
      · skip
        refine lv_iinc (v := nI (j + 1)) (k := 0) (lv' := [(6, .int (nI (j + 1))), (5, .int (-1)), (4, .int (nI (pb_cnt (fun i => iv_gd (sg_lg g i)) j))), (0, .ref m0), (1, .int (nI 3)), (2, .int (nI u)), (3, .int v2)]) hx hb d_MM_count_171 hl rfl (mh_inc j) (by decide) rfl (fun ls hl => ?_)
        refine lv_goto (tgt := 121) hx hb d_MM_count_174 (by decide) ?_
        have hl : lv_has ls 7 [(6, .int (nI (j + 1))), (5, .int (-1)), (4, .int (nI (pb_cnt (fun i => iv_gd (sg_lg g i)) (j + 1)))), (0, .ref m0), (1, .int (nI 3)), (2, .int (nI u)), (3, .int v2)] := by rw [pb_cnt]; simp only [ct]; exact hl
        exact ih (j + 1) _ _ _ hX hS hl (by omega)
      · skip
        refine lv_iinc (v := nI ((pb_cnt (fun i => iv_gd (sg_lg g i)) j) + 1)) (k := 2) (lv' := [(4, .int (nI ((pb_cnt (fun i => iv_gd (sg_lg g i)) j) + 1))), (6, .int (nI j)), (5, .int (-1)), (0, .ref m0), (1, .int (nI 3)), (2, .int (nI u)), (3, .int v2)]) hx hb d_MM_count_145 hl rfl (mh_inc (pb_cnt (fun i => iv_gd (sg_lg g i)) j)) (by decide) rfl (fun ls hl => ?_)
        refine lv_iload_n hx hb d_MM_count_148 rfl (lv_at hl 4 rfl) ?_
        refine lv_iconst (v := nI 4) hx hb d_MM_count_149 (by decide) ?_
        refine mh_icmp_ne (tgt := 171) hx hb (by omega) (by omega) d_MM_count_150 (by decide) (fun _ => ?_) (fun z => absurd z (by omega))
        refine lv_iinc (v := nI (j + 1)) (k := 1) (lv' := [(6, .int (nI (j + 1))), (4, .int (nI ((pb_cnt (fun i => iv_gd (sg_lg g i)) j) + 1))), (5, .int (-1)), (0, .ref m0), (1, .int (nI 3)), (2, .int (nI u)), (3, .int v2)]) hx hb d_MM_count_171 hl rfl (mh_inc j) (by decide) rfl (fun ls hl => ?_)
        refine lv_goto (tgt := 121) hx hb d_MM_count_174 (by decide) ?_
        have hl : lv_has ls 7 [(6, .int (nI (j + 1))), (4, .int (nI (pb_cnt (fun i => iv_gd (sg_lg g i)) (j + 1)))), (5, .int (-1)), (0, .ref m0), (1, .int (nI 3)), (2, .int (nI u)), (3, .int v2)] := by rw [pb_cnt]; simp only [cf]; exact hl
        exact ih (j + 1) _ _ _ hX hS (lv_sub hl [0, 2, 1, 3, 4, 5, 6] rfl) (by omega)
  exact LP (sg_at g u) 0 _ _ _ hX hS hl (Nat.zero_add _)
set_option maxHeartbeats 4000000 in
set_option maxRecDepth 100000 in
theorem c_MM_count_04 {l : Launch} {b : Nat} {dC : Nat → ClassId} {dI : Nat → Nat → Nat} {dA : Nat → ClassId} {zs : Nat → Nat} {w : mh_w} {m0 : Nat} {er : Int32} {g : st_G} (hR : rM dA w m0 er g) (hG : sg_ok g) {u : Nat} (hu : u < 4) {key : Nat} (hk : key < 256) : mh_Met l b dC dI dA zs y_MM_count (mh_rm 4 10 500) [.ref m0, .int (nI 4), .int (nI u), .int (nI key)] w (mh_V (some (.int (st_lw (sg_lg g) key (sg_at g u)))) (fun w' => rM dA w' m0 (nI 0) g ∧ mh_D w w')) := by
  obtain ⟨aG, aO, aA, aV, aH, lg, op, at_, hQ⟩ := hR
  have hQ2 := hQ
  obtain ⟨r50, r51, r52, r53, ⟨vf, r54⟩, ⟨hf, r55⟩, ra, ro, rl⟩ := hQ2
  have hG2 := hG
  obtain ⟨gn, grs, gat, glo, gdr⟩ := hG2
  refine mh_ofW (cc := b_MM_count) (n := 7) (ret := (some .int)) (hs := []) (by decide) k837 ?_
  intro p e s m below meth c hx hb hr hml hown hts hlocks hnm hT hOK hadm
  have K0 : mh_K0 p s m ([.ref m0, .int (nI 4), .int (nI u), .int (nI key)]).toArray c "MeldHostModel" b_MM_count dC dI dA := ⟨hx, hb, hown, hts, hOK.1, hOK.2.1⟩
  have hX := hOK.2.2.2.2
  have hb0 := hOK.2.2.2.1
  have hS : va_S (mh_A b) s.heap s.heap [] := va_S.rf
  have hl := lv_entry ([.ref m0, .int (nI 4), .int (nI u), .int (nI key)]) (n := 7) (Nat.le_of_ble_eq_true rfl)
  rw [lg_entry_eq]
  generalize (lg_sl ([.ref m0, .int (nI 4), .int (nI u), .int (nI key)]) ++ List.replicate (7 - (lg_sl ([.ref m0, .int (nI 4), .int (nI u), .int (nI key)])).length) Slot.unset).toArray = ls at hl ⊢
  have hl : lv_has ls 7 [(0, .ref m0), (1, .int (nI 4)), (2, .int (nI u)), (3, .int (nI key))] := hl
  have hat := gat u hu
  refine lv_aload_n hx hb d_MM_count_0 rfl (lv_at hl 0 rfl) ?_
  refine lv_iload_n hx hb d_MM_count_1 rfl (lv_at hl 1 rfl) ?_
  refine lv_iconst (v := nI 5) hx hb d_MM_count_2 (by decide) ?_
  refine mh_callR (mh_sS (rest := [.ref m0]) (av := [.int (nI 4), .int (nI 5)]) K0 e_MM_in l_MM_53 k744 rfl rfl d_MM_count_3) (c_MM_in) K0 hOK hml hl.1 e_MM_in hX hS d_MM_count_3 (Nat.le_of_ble_eq_true rfl) (Nat.le_of_ble_eq_true rfl) (Nat.le_of_ble_eq_true rfl) (Nat.le_of_ble_eq_true rfl) (Nat.le_of_ble_eq_true rfl) (fun H locs hX hS => ?_)
  refine W.eq (g2 := F0 m 6 ls [.int (mh_b (st_in (nI 4) 5)), .ref m0]) rfl ?_
  refine mh_ifeqB (tgt := 37) hx hb d_MM_count_6 (by decide) (fun z => absurd z (by rw [st_in_nI (j := 4) (n := 5) (by omega) (by decide)]; decide)) (fun _ => ?_)
  refine lv_iload_n hx hb d_MM_count_9 rfl (lv_at hl 1 rfl) ?_
  refine lv_iconst (v := nI 1) hx hb d_MM_count_10 (by decide) ?_
  refine mh_icmp_le (tgt := 22) hx hb (by omega) (by omega) d_MM_count_11 (by decide) (fun z => absurd z (by omega)) (fun _ => ?_)
  refine lv_iload_n hx hb d_MM_count_14 rfl (lv_at hl 2 rfl) ?_
  refine lv_iconst (v := nI 4) hx hb d_MM_count_15 (by decide) ?_
  refine mh_callR (mh_sS (rest := [.ref m0]) (av := [.int (nI u), .int (nI 4)]) K0 e_MM_in l_MM_53 k744 rfl rfl d_MM_count_16) (c_MM_in) K0 hOK hml hl.1 e_MM_in hX hS d_MM_count_16 (Nat.le_of_ble_eq_true rfl) (Nat.le_of_ble_eq_true rfl) (Nat.le_of_ble_eq_true rfl) (Nat.le_of_ble_eq_true rfl) (Nat.le_of_ble_eq_true rfl) (fun H locs hX hS => ?_)
  refine W.eq (g2 := F0 m 19 ls [.int (mh_b (st_in (nI u) 4)), .ref m0]) rfl ?_
  refine mh_ifeqB (tgt := 37) hx hb d_MM_count_19 (by decide) (fun z => absurd z (by rw [st_in_nI hu (by decide)]; decide)) (fun _ => ?_)
  refine lv_iload_n hx hb d_MM_count_22 rfl (lv_at hl 1 rfl) ?_
  refine lv_iconst (v := nI 3) hx hb d_MM_count_23 (by decide) ?_
  refine mh_icmp_le (tgt := 41) hx hb (by omega) (by omega) d_MM_count_24 (by decide) (fun z => absurd z (by omega)) (fun _ => ?_)
  refine lv_iload_n hx hb d_MM_count_27 rfl (lv_at hl 3 rfl) ?_
  refine lv_sipush (v := nI 256) hx hb d_MM_count_28 (by decide) ?_
  refine mh_callR (mh_sS (rest := [.ref m0]) (av := [.int (nI key), .int (nI 256)]) K0 e_MM_in l_MM_53 k744 rfl rfl d_MM_count_31) (c_MM_in) K0 hOK hml hl.1 e_MM_in hX hS d_MM_count_31 (Nat.le_of_ble_eq_true rfl) (Nat.le_of_ble_eq_true rfl) (Nat.le_of_ble_eq_true rfl) (Nat.le_of_ble_eq_true rfl) (Nat.le_of_ble_eq_true rfl) (fun H locs hX hS => ?_)
  refine W.eq (g2 := F0 m 34 ls [.int (mh_b (st_in (nI key) 256)), .ref m0]) rfl ?_
  refine mh_ifneB (tgt := 41) hx hb d_MM_count_34 (by decide) (fun _ => ?_) (fun z => absurd z (by rw [st_in_nI hk (by decide)]; decide))
  refine lv_iconst (v := nI 0) hx hb d_MM_count_41 (by decide) ?_
  refine lv_iconst (v := nI 1) hx hb d_MM_count_42 (by decide) ?_
  refine mh_callV (mh_sV (rest := []) (av := [.int (nI 0), .int (nI 1)]) K0 hX r50 rfl e_MM_fails l_MM_57 k748 kp15 rfl rfl d_MM_count_43) (c_MM_fails0 r50) K0 hOK hml hl.1 e_MM_fails hX hS d_MM_count_43 (Nat.le_of_ble_eq_true rfl) (Nat.le_of_ble_eq_true rfl) (Nat.le_of_ble_eq_true rfl) (Nat.le_of_ble_eq_true rfl) (Nat.le_of_ble_eq_true rfl) (fun wf111 H locs ⟨hm111, hF111⟩ hX hS => ?_)
  refine W.eq (g2 := F0 m 46 ls [.int (nI 0)]) rfl ?_
  refine mh_if_eq (tgt := 51) hx hb (by omega) d_MM_count_46 (by decide) (fun _ => ?_) (fun z => absurd z (by omega))
  refine lv_iconst (v := nI 0) hx hb d_MM_count_51 (by decide) ?_
  refine lv_istore (lv' := [(4, .int (nI 0)), (0, .ref m0), (1, .int (nI 4)), (2, .int (nI u)), (3, .int (nI key))]) hx hb d_MM_count_52 hl (by decide) rfl (fun ls hl => ?_)
  refine lv_iconst (v := (-1)) hx hb d_MM_count_54 (by decide) ?_
  refine lv_istore (lv' := [(5, .int (-1)), (4, .int (nI 0)), (0, .ref m0), (1, .int (nI 4)), (2, .int (nI u)), (3, .int (nI key))]) hx hb d_MM_count_55 hl (by decide) rfl (fun ls hl => ?_)
  refine lv_iload_n hx hb d_MM_count_57 rfl (lv_at hl 3 rfl) ?_
  refine mh_if_ne (tgt := 66) hx hb (by omega) d_MM_count_58 (by decide) (fun _ => ?_) (fun z => absurd z (by omega))
  refine lv_iload_n hx hb d_MM_count_66 rfl (lv_at hl 3 rfl) ?_
  refine lv_iconst (v := nI 1) hx hb d_MM_count_67 (by decide) ?_
  refine mh_icmp_ne (tgt := 106) hx hb (by omega) (by omega) d_MM_count_68 (by decide) (fun _ => ?_) (fun z => absurd z (by omega))
  refine lv_iload_n hx hb d_MM_count_106 rfl (lv_at hl 3 rfl) ?_
  refine lv_iconst (v := nI 2) hx hb d_MM_count_107 (by decide) ?_
  refine mh_icmp_ne (tgt := 118) hx hb (by omega) (by omega) d_MM_count_108 (by decide) (fun _ => ?_) (fun z => absurd z (by omega))
  refine lv_iconst (v := nI 0) hx hb d_MM_count_118 (by decide) ?_
  refine lv_istore (lv' := [(6, .int (nI 0)), (5, .int (-1)), (4, .int (nI 0)), (0, .ref m0), (1, .int (nI 4)), (2, .int (nI u)), (3, .int (nI key))]) hx hb d_MM_count_119 hl (by decide) rfl (fun ls hl => ?_)
  have LP : ∀ (n : Nat) (j : Nat) (H : Heap) (locs : List Loc) (ls : Array Slot), mh_P (dC, dI) b wf111 H → va_S (mh_A b) s.heap H locs → lv_has ls 7 [(6, .int (nI j)), (5, .int (st_lw (sg_lg g) key j)), (4, .int (nI (pb_cnt (fun i => iv_gd (sg_lg g i)) j))), (0, .ref m0), (1, .int (nI 4)), (2, .int (nI u)), (3, .int (nI key))] → (j + n = sg_at g u) → W p l e (mh_rm 4 10 500) s m ([.ref m0, .int (nI 4), .int (nI u), .int (nI key)]).toArray below meth c H locs (0) (0) (mh_MQ below b dC dI (mh_V (some (.int (st_lw (sg_lg g) key (sg_at g u)))) (fun w' => rM dA w' m0 (nI 0) g ∧ mh_D w w')) ([.ref m0, .int (nI 4), .int (nI u), .int (nI key)]).toArray s 10 500) (F0 m 121 ls []) := by
    intro n
    induction n with
    | zero =>
      intro j H locs ls hX hS hl hn9
      refine lv_iload hx hb d_MM_count_121 (lv_at hl 0 rfl) ?_
      refine lv_aload_n hx hb d_MM_count_123 rfl (lv_at hl 3 rfl) ?_
      refine mh_get K0 hX hm111 f_MM_18 rfl d_MM_count_124 ?_
      refine lv_iload_n hx hb d_MM_count_127 rfl (lv_at hl 5 rfl) ?_
      refine mh_ialdN K0 hX ((hF111 53 0 (by omega)).trans r53) (by omega) (by omega) d_MM_count_128 ?_
      refine mh_ti (y := nI (sg_at g u)) (ra u hu) ?_
      refine mh_icmp_ge (tgt := 177) hx hb (by omega) (by omega) d_MM_count_129 (by decide) (fun _ => ?_) (fun z => absurd z (by omega))
      refine lv_iload_n hx hb d_MM_count_177 rfl (lv_at hl 4 rfl) ?_
      refine lv_iconst (v := nI 3) hx hb d_MM_count_178 (by decide) ?_
      refine mh_icmp_ne (tgt := 187) hx hb (by omega) (by omega) d_MM_count_179 (by decide) (fun _ => ?_) (fun z => absurd z (by omega))
      refine lv_iload hx hb d_MM_count_187 (lv_at hl 1 rfl) ?_
      exact mh_iret K0 hr rfl hlocks hX hS (⟨by rw [show sg_at g u = j by omega], ⟨aG, aO, aA, aV, aH, lg, op, at_, hQ.sc (fun k i h1 h2 h3 h4 => by rw [hF111 _ _ (by omega)]) hm111 ⟨_, ((hF111 54 0 (by omega)).trans r54)⟩ ⟨_, ((hF111 55 0 (by omega)).trans r55)⟩⟩, fun k i h => by rw [hF111 _ _ (by omega)]⟩) (Nat.le_of_ble_eq_true rfl) (Nat.le_of_ble_eq_true rfl) d_MM_count_189
    | succ n ih =>
      intro j H locs ls hX hS hl hn9
      obtain ⟨yy, hy1, hy2⟩ := rl j (by omega)
      have hy3 : rW dA wf111 66 j yy (sg_lg g j) false := hy2.mv (fun z hz => by rw [hF111 _ _ (by omega)])
      obtain ⟨a1, a2, a3, a4, a5, a6, j0⟩ := hy3.fst
      refine lv_iload hx hb d_MM_count_121 (lv_at hl 0 rfl) ?_
      refine lv_aload_n hx hb d_MM_count_123 rfl (lv_at hl 3 rfl) ?_
      refine mh_get K0 hX hm111 f_MM_18 rfl d_MM_count_124 ?_
      refine lv_iload_n hx hb d_MM_count_127 rfl (lv_at hl 5 rfl) ?_
      refine mh_ialdN K0 hX ((hF111 53 0 (by omega)).trans r53) (by omega) (by omega) d_MM_count_128 ?_
      refine mh_ti (y := nI (sg_at g u)) (ra u hu) ?_
      refine mh_icmp_ge (tgt := 177) hx hb (by omega) (by omega) d_MM_count_129 (by decide) (fun z => absurd z (by omega)) (fun _ => ?_)
      refine lv_aload_n hx hb d_MM_count_132 rfl (lv_at hl 3 rfl) ?_
      refine mh_get K0 hX hm111 f_MM_11 rfl d_MM_count_133 ?_
      refine lv_iload hx hb d_MM_count_136 (lv_at hl 0 rfl) ?_
      refine mh_aaldN 7 rfl K0 hX ((hF111 51 0 (by omega)).trans r51) (by omega) (by omega) (r := (some yy)) (hy1) d_MM_count_138 ?_
      refine W.eq (g2 := F0 m 139 ls [.ref yy]) rfl ?_
      refine mh_get K0 hX j0 f_MM_35 rfl d_MM_count_139 ?_
      refine mh_ifeqB (tgt := 171) hx hb d_MM_count_142 (by decide) (fun ct => ?_) (fun cf => ?_)
      · skip
        refine lv_iinc (v := nI (j + 1)) (k := 0) (lv' := [(6, .int (nI (j + 1))), (5, .int (st_lw (sg_lg g) key j)), (4, .int (nI (pb_cnt (fun i => iv_gd (sg_lg g i)) j))), (0, .ref m0), (1, .int (nI 4)), (2, .int (nI u)), (3, .int (nI key))]) hx hb d_MM_count_171 hl rfl (mh_inc j) (by decide) rfl (fun ls hl => ?_)
        refine lv_goto (tgt := 121) hx hb d_MM_count_174 (by decide) ?_
        have hl : lv_has ls 7 [(6, .int (nI (j + 1))), (5, .int (st_lw (sg_lg g) key (j + 1))), (4, .int (nI (pb_cnt (fun i => iv_gd (sg_lg g i)) (j + 1)))), (0, .ref m0), (1, .int (nI 4)), (2, .int (nI u)), (3, .int (nI key))] := by rw [pb_cnt, show st_lw (sg_lg g) key (j + 1) = st_lw (sg_lg g) key j from if_neg (fun q => by rw [ct] at q; cases q.1)]; simp only [ct]; exact hl
        exact ih (j + 1) _ _ _ hX hS hl (by omega)
      · skip
        refine lv_iinc (v := nI ((pb_cnt (fun i => iv_gd (sg_lg g i)) j) + 1)) (k := 2) (lv' := [(4, .int (nI ((pb_cnt (fun i => iv_gd (sg_lg g i)) j) + 1))), (6, .int (nI j)), (5, .int (st_lw (sg_lg g) key j)), (0, .ref m0), (1, .int (nI 4)), (2, .int (nI u)), (3, .int (nI key))]) hx hb d_MM_count_145 hl rfl (mh_inc (pb_cnt (fun i => iv_gd (sg_lg g i)) j)) (by decide) rfl (fun ls hl => ?_)
        refine lv_iload_n hx hb d_MM_count_148 rfl (lv_at hl 4 rfl) ?_
        refine lv_iconst (v := nI 4) hx hb d_MM_count_149 (by decide) ?_
        refine mh_icmp_ne (tgt := 171) hx hb (by omega) (by omega) d_MM_count_150 (by decide) (fun z => absurd z (by omega)) (fun _ => ?_)
        refine lv_aload_n hx hb d_MM_count_153 rfl (lv_at hl 3 rfl) ?_
        refine mh_get K0 hX hm111 f_MM_11 rfl d_MM_count_154 ?_
        refine lv_iload hx hb d_MM_count_157 (lv_at hl 1 rfl) ?_
        refine mh_aaldN 7 rfl K0 hX ((hF111 51 0 (by omega)).trans r51) (by omega) (by omega) (r := (some yy)) (hy1) d_MM_count_159 ?_
        refine W.eq (g2 := F0 m 160 ls [.ref yy]) rfl ?_
        refine lv_iload_n hx hb d_MM_count_160 rfl (lv_at hl 6 rfl) ?_
        by_cases c8 : st_pl (iv_wk (sg_lg g j)) key (iv_nw (sg_lg g j)) < iv_nw (sg_lg g j)
        · skip
          have hle := (glo j (by omega)).2.2.2.2.1
          refine mh_callR (mh_sV (rest := []) (av := [.int (nI key)]) K0 hX j0 rfl e_WK_written l_MM_78 k763 k764 rfl rfl d_MM_count_161) (c_WK_written_y hy3 (glo j (by omega)) hk c8) K0 hOK hml hl.1 e_WK_written hX hS d_MM_count_161 (Nat.le_of_ble_eq_true rfl) (Nat.le_of_ble_eq_true rfl) (Nat.le_of_ble_eq_true rfl) (Nat.le_of_ble_eq_true rfl) (Nat.le_of_ble_eq_true rfl) (fun H locs hX hS => ?_)
          refine W.eq (g2 := F0 m 164 ls [.int (nI (st_pl (iv_wk (sg_lg g j)) key (iv_nw (sg_lg g j))))]) rfl ?_
          refine mh_if_lt (tgt := 171) hx hb (by omega) d_MM_count_164 (by decide) (fun z => absurd z (by omega)) (fun _ => ?_)
          refine lv_iload hx hb d_MM_count_167 (lv_at hl 1 rfl) ?_
          refine lv_istore (lv' := [(5, .int (nI j)), (4, .int (nI ((pb_cnt (fun i => iv_gd (sg_lg g i)) j) + 1))), (6, .int (nI j)), (0, .ref m0), (1, .int (nI 4)), (2, .int (nI u)), (3, .int (nI key))]) hx hb d_MM_count_169 hl (by decide) rfl (fun ls hl => ?_)
          refine lv_iinc (v := nI (j + 1)) (k := 2) (lv' := [(6, .int (nI (j + 1))), (5, .int (nI j)), (4, .int (nI ((pb_cnt (fun i => iv_gd (sg_lg g i)) j) + 1))), (0, .ref m0), (1, .int (nI 4)), (2, .int (nI u)), (3, .int (nI key))]) hx hb d_MM_count_171 hl rfl (mh_inc j) (by decide) rfl (fun ls hl => ?_)
          refine lv_goto (tgt := 121) hx hb d_MM_count_174 (by decide) ?_
          have hl : lv_has ls 7 [(6, .int (nI (j + 1))), (5, .int (st_lw (sg_lg g) key (j + 1))), (4, .int (nI (pb_cnt (fun i => iv_gd (sg_lg g i)) (j + 1)))), (0, .ref m0), (1, .int (nI 4)), (2, .int (nI u)), (3, .int (nI key))] := by rw [pb_cnt, show st_lw (sg_lg g) key (j + 1) = nI j from if_pos ⟨cf, c8⟩]; simp only [cf]; exact hl
          exact ih (j + 1) _ _ _ hX hS hl (by omega)
        · skip
          refine mh_callR (mh_sV (rest := []) (av := [.int (nI key)]) K0 hX j0 rfl e_WK_written l_MM_78 k763 k764 rfl rfl d_MM_count_161) (c_WK_written_n hy3 (glo j (by omega)) hk c8) K0 hOK hml hl.1 e_WK_written hX hS d_MM_count_161 (Nat.le_of_ble_eq_true rfl) (Nat.le_of_ble_eq_true rfl) (Nat.le_of_ble_eq_true rfl) (Nat.le_of_ble_eq_true rfl) (Nat.le_of_ble_eq_true rfl) (fun H locs hX hS => ?_)
          refine W.eq (g2 := F0 m 164 ls [.int (-1)]) rfl ?_
          refine lv_if_lt (tgt := 171) hx hb d_MM_count_164 (by decide) (fun _ => ?_) (fun z => absurd z (by decide))
          refine lv_iinc (v := nI (j + 1)) (k := 1) (lv' := [(6, .int (nI (j + 1))), (4, .int (nI ((pb_cnt (fun i => iv_gd (sg_lg g i)) j) + 1))), (5, .int (st_lw (sg_lg g) key j)), (0, .ref m0), (1, .int (nI 4)), (2, .int (nI u)), (3, .int (nI key))]) hx hb d_MM_count_171 hl rfl (mh_inc j) (by decide) rfl (fun ls hl => ?_)
          refine lv_goto (tgt := 121) hx hb d_MM_count_174 (by decide) ?_
          have hl : lv_has ls 7 [(6, .int (nI (j + 1))), (4, .int (nI (pb_cnt (fun i => iv_gd (sg_lg g i)) (j + 1)))), (5, .int (st_lw (sg_lg g) key (j + 1))), (0, .ref m0), (1, .int (nI 4)), (2, .int (nI u)), (3, .int (nI key))] := by rw [pb_cnt, show st_lw (sg_lg g) key (j + 1) = st_lw (sg_lg g) key j from if_neg (fun q => c8 q.2)]; simp only [cf]; exact hl
          exact ih (j + 1) _ _ _ hX hS (lv_sub hl [0, 2, 1, 3, 4, 5, 6] rfl) (by omega)
  exact LP (sg_at g u) 0 _ _ _ hX hS hl (Nat.zero_add _)
set_option maxHeartbeats 4000000 in
set_option maxRecDepth 100000 in
theorem c_MM_init {l : Launch} {b : Nat} {dC : Nat → ClassId} {dI : Nat → Nat → Nat} {dA : Nat → ClassId} {zs : Nat → Nat} {w : mh_w} {m0 : Nat} (h : w 50 0 = some (m0, .inr (7, [.int (nI 0), .null, .null, .null, .null, .null, .int (nI 0), .int (nI 0)]))) : mh_Met l b dC dI dA zs y_MM_init (mh_rm 2 120 6000) [.ref m0] w (mh_V none (fun w' => rM dA w' m0 (nI 0) st_G0 ∧ mh_D w w')) := by
  refine mh_ofW (cc := b_MM_init) (n := 2) (ret := none) (hs := []) (by decide) k648 ?_
  intro p e s m below meth c hx hb hr hml hown hts hlocks hnm hT hOK hadm
  have K0 : mh_K0 p s m ([.ref m0]).toArray c "MeldHostModel" b_MM_init dC dI dA := ⟨hx, hb, hown, hts, hOK.1, hOK.2.1⟩
  have hX := hOK.2.2.2.2
  have hb0 := hOK.2.2.2.1
  have hS : va_S (mh_A b) s.heap s.heap [] := va_S.rf
  have hl := lv_entry ([.ref m0]) (n := 2) (Nat.le_of_ble_eq_true rfl)
  rw [lg_entry_eq]
  generalize (lg_sl ([.ref m0]) ++ List.replicate (2 - (lg_sl ([.ref m0])).length) Slot.unset).toArray = ls at hl ⊢
  have hl : lv_has ls 2 [(0, .ref m0)] := hl
  refine lv_aload_n hx hb d_MM_init_0 rfl (lv_at hl 0 rfl) ?_
  refine W.objInit hx hb hown (hts _ k649) (hts _ k31) (hts _ k32) rfl (by rw [hml]; exact hl.1) rfl d_MM_init_1 (Nat.le_of_ble_eq_true rfl) (Nat.le_of_ble_eq_true rfl) ?_
  refine W.eq (g2 := F0 m 4 ls []) rfl ?_
  refine lv_aload_n hx hb d_MM_init_4 rfl (lv_at hl 0 rfl) ?_
  refine lv_sipush (v := nI 400) hx hb d_MM_init_5 (by decide) ?_
  refine mh_newq 51 0 7 K0 hX hS hb0 rfl k650 (hOK.2.2.1.1.2.2.2.2) (N' := 400) (by decide) (by decide) (by decide) (Nat.le_of_ble_eq_true rfl) (Nat.le_of_ble_eq_true rfl) d_MM_init_8 (fun q1 H hX hS => ?_)
  have fs134 := mh_self hX
  refine mh_putF K0 hX hS (mh_kp h (by omega)) f_MM_11 p_7_1 hnm (fun C T N h => by cases h; rfl) rfl rfl (Nat.le_of_ble_eq_true rfl) d_MM_init_11 (fun C T N h => by cases h; exact k711) (fun H locs hX hS => ?_)
  have hX : mh_P (dC, dI) b (mh_set _ 50 0 (some (m0, .inr (7, [.int (nI 0), .ref q1, .null, .null, .null, .null, .int (nI 0), .int (nI 0)])))) H := hX
  have fs135 := mh_self hX
  refine lv_aload_n hx hb d_MM_init_14 rfl (lv_at hl 0 rfl) ?_
  refine lv_bipush (v := nI 16) hx hb d_MM_init_15 (by decide) ?_
  refine mh_newq 52 0 7 K0 hX hS hb0 rfl k650 (hOK.2.2.1.1.2.2.2.2) (N' := 16) (by decide) (by decide) (by decide) (Nat.le_of_ble_eq_true rfl) (Nat.le_of_ble_eq_true rfl) d_MM_init_17 (fun q2 H hX hS => ?_)
  have fs136 := mh_self hX
  refine mh_putF K0 hX hS (mh_kp fs135 (by omega)) f_MM_15 p_7_2 hnm (fun C T N h => by cases h; rfl) rfl rfl (Nat.le_of_ble_eq_true rfl) d_MM_init_20 (fun C T N h => by cases h; exact k712) (fun H locs hX hS => ?_)
  have hX : mh_P (dC, dI) b (mh_set _ 50 0 (some (m0, .inr (7, [.int (nI 0), .ref q1, .ref q2, .null, .null, .null, .int (nI 0), .int (nI 0)])))) H := hX
  have fs137 := mh_self hX
  refine lv_aload_n hx hb d_MM_init_23 rfl (lv_at hl 0 rfl) ?_
  refine lv_iconst (v := nI 4) hx hb d_MM_init_24 (by decide) ?_
  refine mh_newa 53 0 0 K0 hX hS hb0 (ty := .int) rfl rfl k112 (N' := 4) (a0 := (4, .inl (fun _ => 0))) (fun cA => rfl) (by decide) (by decide) (by decide) (Nat.le_of_ble_eq_true rfl) (Nat.le_of_ble_eq_true rfl) d_MM_init_25 (fun q3 H hX hS => ?_)
  have fs138 := mh_self hX
  refine mh_putF K0 hX hS (mh_kp fs137 (by omega)) f_MM_18 p_7_3 hnm (fun C T N h => by cases h; rfl) rfl rfl (Nat.le_of_ble_eq_true rfl) d_MM_init_27 (fun C T N h => by cases h; exact k713) (fun H locs hX hS => ?_)
  have hX : mh_P (dC, dI) b (mh_set _ 50 0 (some (m0, .inr (7, [.int (nI 0), .ref q1, .ref q2, .ref q3, .null, .null, .int (nI 0), .int (nI 0)])))) H := hX
  have fs139 := mh_self hX
  refine lv_aload_n hx hb d_MM_init_30 rfl (lv_at hl 0 rfl) ?_
  refine lv_sipush (v := nI 256) hx hb d_MM_init_31 (by decide) ?_
  refine mh_newa 54 0 1 K0 hX hS hb0 (ty := .long) rfl rfl k82 (N' := 256) (a0 := (256, .inr (.inl (fun _ => 0)))) (fun cA => rfl) (by decide) (by decide) (by decide) (Nat.le_of_ble_eq_true rfl) (Nat.le_of_ble_eq_true rfl) d_MM_init_34 (fun q4 H hX hS => ?_)
  have fs140 := mh_self hX
  refine mh_putF K0 hX hS (mh_kp fs139 (by omega)) f_MM_22 p_7_4 hnm (fun C T N h => by cases h; rfl) rfl rfl (Nat.le_of_ble_eq_true rfl) d_MM_init_36 (fun C T N h => by cases h; exact k714) (fun H locs hX hS => ?_)
  have hX : mh_P (dC, dI) b (mh_set _ 50 0 (some (m0, .inr (7, [.int (nI 0), .ref q1, .ref q2, .ref q3, .ref q4, .null, .int (nI 0), .int (nI 0)])))) H := hX
  have fs141 := mh_self hX
  refine lv_aload_n hx hb d_MM_init_39 rfl (lv_at hl 0 rfl) ?_
  refine lv_sipush (v := nI 256) hx hb d_MM_init_40 (by decide) ?_
  refine mh_newa 55 0 2 K0 hX hS hb0 (ty := .boolean) rfl rfl k280 (N' := 256) (a0 := (256, .inl (fun _ => 0))) (fun cA => rfl) (by decide) (by decide) (by decide) (Nat.le_of_ble_eq_true rfl) (Nat.le_of_ble_eq_true rfl) d_MM_init_43 (fun q5 H hX hS => ?_)
  have fs142 := mh_self hX
  refine mh_putF K0 hX hS (mh_kp fs141 (by omega)) f_MM_26 p_7_5 hnm (fun C T N h => by cases h; rfl) rfl rfl (Nat.le_of_ble_eq_true rfl) d_MM_init_45 (fun C T N h => by cases h; exact k715) (fun H locs hX hS => ?_)
  have hX : mh_P (dC, dI) b (mh_set _ 50 0 (some (m0, .inr (7, [.int (nI 0), .ref q1, .ref q2, .ref q3, .ref q4, .ref q5, .int (nI 0), .int (nI 0)])))) H := hX
  have fs143 := mh_self hX
  refine lv_iconst (v := nI 0) hx hb d_MM_init_48 (by decide) ?_
  refine lv_istore_n (lv' := [(1, .int (nI 0)), (0, .ref m0)]) hx hb d_MM_init_49 rfl hl (by decide) rfl (fun ls hl => ?_)
  have LP : ∀ (n : Nat) (j : Nat) (w2 : mh_w) (op : Nat → Option Nat) (H : Heap) (locs : List Loc) (ls : Array Slot), mh_P (dC, dI) b w2 H → va_S (mh_A b) s.heap H locs → lv_has ls 2 [(1, .int (nI j)), (0, .ref m0)] → (j + n = 16) → (w2 50 0 = some (m0, .inr (7, [.int (nI 0), .ref q1, .ref q2, .ref q3, .ref q4, .ref q5, .int (nI 0), .int (nI 0)]))) → (w2 51 0 = some (q1, .inl (dA 7, 400, .inr (.inr (.inr (.inr (fun _ => none))))))) → (w2 52 0 = some (q2, .inl (dA 7, 16, .inr (.inr (.inr (.inr op)))))) → (w2 53 0 = some (q3, .inl (dA 0, 4, .inl (fun _ => 0)))) → (w2 54 0 = some (q4, .inl (dA 1, 256, .inr (.inl (fun _ => 0))))) → (w2 55 0 = some (q5, .inl (dA 2, 256, .inl (fun _ => 0)))) → (∀ z, z < j → ∃ a, op z = some a ∧ rW dA w2 56 z a (st_new 0 0 0) false) → (mh_D w w2) → W p l e (mh_rm 2 120 6000) s m ([.ref m0]).toArray below meth c H locs (5 + 7 * j) (932 + 310 * j) (mh_MQ below b dC dI (mh_V none (fun w' => rM dA w' m0 (nI 0) st_G0 ∧ mh_D w w')) ([.ref m0]).toArray s 120 6000) (F0 m 50 ls []) := by
    intro n
    induction n with
    | zero =>
      intro j w2 op H locs ls hX hS hl hn9 c50 c51 c52 c53 c54 c55 hO hFr
      refine lv_iload_n hx hb d_MM_init_50 rfl (lv_at hl 0 rfl) ?_
      refine lv_bipush (v := nI 16) hx hb d_MM_init_51 (by decide) ?_
      refine mh_icmp_ge (tgt := 75) hx hb (by omega) (by omega) d_MM_init_53 (by decide) (fun _ => ?_) (fun z => absurd z (by omega))
      refine mh_vret K0 hr hlocks hX hS (⟨rfl, ⟨q1, q2, q3, q4, q5, _, op, _, c50, c51, c52, c53, ⟨_, c54⟩, ⟨_, c55⟩, fun _ _ => rfl, fun z hz => ?_, fun z hz => absurd hz (Nat.not_lt_zero z)⟩, hFr⟩) (by first | omega | (dsimp only [mh_rm]; omega)) (by first | omega | (dsimp only [mh_rm]; omega)) d_MM_init_75
      obtain ⟨a, e1, e2⟩ := hO z (by omega); exact ⟨a, _, e1, e2, st_new_ok (by omega) (by omega) (by omega), fun x hx => by cases hx⟩
    | succ n ih =>
      intro j w2 op H locs ls hX hS hl hn9 c50 c51 c52 c53 c54 c55 hO hFr
      refine lv_iload_n hx hb d_MM_init_50 rfl (lv_at hl 0 rfl) ?_
      refine lv_bipush (v := nI 16) hx hb d_MM_init_51 (by decide) ?_
      refine mh_icmp_ge (tgt := 75) hx hb (by omega) (by omega) d_MM_init_53 (by decide) (fun z => absurd z (by omega)) (fun _ => ?_)
      refine lv_aload_n hx hb d_MM_init_56 rfl (lv_at hl 1 rfl) ?_
      refine mh_get K0 hX c50 f_MM_15 rfl d_MM_init_57 ?_
      refine lv_iload_n hx hb d_MM_init_60 rfl (lv_at hl 0 rfl) ?_
      refine mh_new 56 j K0 hX hS hb0 (ci := 6) rfl i_WK ty_WK ty_WK_ok k650 k652 k10 (fs := [.int (nI 0), .int (nI 0), .int (nI 0), .int (nI 0), .int (nI 0), .int (nI 0), .int (nI 0), .int (nI 0), .null, .null, .null, .null, .null, .null]) (by decide) (by first | omega | (dsimp only [mh_rm]; omega)) (by first | omega | (dsimp only [mh_rm]; omega)) d_MM_init_61 (fun q H hX hS => ?_)
      have fs144 := mh_self hX
      refine lv_dup hx hb d_MM_init_64 rfl ?_
      refine mh_callV (mh_sI (rest := [.ref q, .int (nI j), .ref q2]) (av := []) K0 e_WK_init l_MM_30 k654 rfl rfl rfl d_MM_init_65) (c_WK_init (mh_set_eq _ _ _ _)) K0 hOK hml hl.1 e_WK_init hX hS d_MM_init_65 (Nat.le_of_ble_eq_true rfl) (Nat.le_of_ble_eq_true rfl) (Nat.le_of_ble_eq_true rfl) (by first | omega | (dsimp only [mh_rm]; omega)) (by first | omega | (dsimp only [mh_rm]; omega)) (fun w3 H locs ⟨hW2, hF2⟩ hX hS => ?_)
      refine W.eq (g2 := F0 m 68 ls [.ref q, .int (nI j), .ref q2]) rfl ?_
      obtain ⟨b1, b2, b3, b4, b5, b6, j0⟩ := hW2.fst
      refine mh_aastX 7 rfl rfl K0 hX hS ((hF2 52 0 (by omega)).trans (mh_kp c52 (by omega))) j0 (by omega) (by omega) d_MM_init_68 (fun H locs hX hS => ?_)
      have fs145 := mh_self hX
      refine lv_iinc (v := nI (j + 1)) (k := 0) (lv' := [(1, .int (nI (j + 1))), (0, .ref m0)]) hx hb d_MM_init_69 hl rfl (mh_inc j) (by decide) rfl (fun ls hl => ?_)
      refine lv_goto (tgt := 50) hx hb d_MM_init_72 (by decide) ?_
      refine mh_cs (c2 := 5 + 7 * (j + 1)) (s2 := 932 + 310 * (j + 1)) (by first | rfl | (dsimp only [mh_rm]; omega)) (by first | rfl | (dsimp only [mh_rm]; omega)) ?_
      refine ih (j + 1) _ _ _ _ _ hX hS hl (by omega) (mh_kp ((hF2 50 0 (by omega)).trans (mh_kp c50 (by omega))) (by omega)) ((show _ = w2 51 0 from by rw [mh_set_ne _ _ _ _ (by omega), hF2 _ _ (by omega), mh_set_ne _ _ _ _ (by omega)]).trans c51) fs145 ((show _ = w2 53 0 from by rw [mh_set_ne _ _ _ _ (by omega), hF2 _ _ (by omega), mh_set_ne _ _ _ _ (by omega)]).trans c53) ((show _ = w2 54 0 from by rw [mh_set_ne _ _ _ _ (by omega), hF2 _ _ (by omega), mh_set_ne _ _ _ _ (by omega)]).trans c54) ((show _ = w2 55 0 from by rw [mh_set_ne _ _ _ _ (by omega), hF2 _ _ (by omega), mh_set_ne _ _ _ _ (by omega)]).trans c55) (fun z hz => ?_) (fun k i h => (show _ = w2 k i from by rw [mh_set_ne _ _ _ _ (by omega), hF2 _ _ (by omega), mh_set_ne _ _ _ _ (by omega)]).trans (hFr k i h))
      by_cases e9 : z = j
      · subst e9; rw [va_up_self]; exact ⟨q, rfl, hW2.mv (fun q hq => mh_set_ne _ _ _ _ (by omega))⟩
      · rw [va_up_ne _ _ e9]; obtain ⟨a, e1, e2⟩ := hO z (by omega); exact ⟨a, e1, e2.mv (fun q hq => by rw [mh_set_ne _ _ _ _ (by omega), hF2 _ _ (by omega), mh_set_ne _ _ _ _ (by omega)])⟩
  refine mh_cs (c2 := 5 + 7 * 0) (s2 := 932 + 310 * 0) (by first | rfl | (dsimp only [mh_rm]; omega)) (by first | rfl | (dsimp only [mh_rm]; omega)) ?_
  exact LP 16 0 _ _ _ _ _ hX hS hl rfl fs143 (mh_kp (mh_kp (mh_kp (mh_kp (mh_kp (mh_kp (mh_kp (mh_kp (mh_kp fs134 (by omega)) (by omega)) (by omega)) (by omega)) (by omega)) (by omega)) (by omega)) (by omega)) (by omega)) (mh_kp (mh_kp (mh_kp (mh_kp (mh_kp (mh_kp (mh_kp fs136 (by omega)) (by omega)) (by omega)) (by omega)) (by omega)) (by omega)) (by omega)) (mh_kp (mh_kp (mh_kp (mh_kp (mh_kp fs138 (by omega)) (by omega)) (by omega)) (by omega)) (by omega)) (mh_kp (mh_kp (mh_kp fs140 (by omega)) (by omega)) (by omega)) (mh_kp fs142 (by omega)) (fun z hz => absurd hz (Nat.not_lt_zero z)) (fun k i h => by rw [mh_set_ne _ _ _ _ (by omega), mh_set_ne _ _ _ _ (by omega), mh_set_ne _ _ _ _ (by omega), mh_set_ne _ _ _ _ (by omega), mh_set_ne _ _ _ _ (by omega), mh_set_ne _ _ _ _ (by omega), mh_set_ne _ _ _ _ (by omega), mh_set_ne _ _ _ _ (by omega), mh_set_ne _ _ _ _ (by omega), mh_set_ne _ _ _ _ (by omega)])
