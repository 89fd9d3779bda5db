theorem mh_Met.mono {l : Launch} {b : Nat} {dC : Nat → ClassId} {dI : Nat → Nat → Nat} {dA : Nat → ClassId} {zs : Nat → Nat} {y : MethodName} {rm : Room} {av : List Value} {w : mh_w} {P P' : Outcome → mh_w → Prop} (h : mh_Met l b dC dI dA zs y rm av w P) (hP : ∀ o w', P o w' → P' o w') : mh_Met l b dC dI dA zs y rm av w P' := by
  intro p e ha hc hk s m args below h1 h2 h3 h4
  obtain ⟨n, o, a1, a2, a3, w', b1, b2⟩ := h p e ha hc hk s m args below h1 h2 h3 h4
  exact ⟨n, o, a1, a2, a3, w', hP o w' b1, b2⟩
/-- the reference's answers -/
def lM (dA : Nat → ClassId) (w : mh_w) (m0 : Nat) (r : sp_R) : mh_w → Prop := fun w' => rM dA w' m0 (nI r.1) r.2.2 ∧ mh_D w w'
abbrev mh_J (r : sp_R) (Φ : mh_w → Prop) : Outcome → mh_w → Prop := fun o w' => ∃ z : Int64, o = .returned (some (.long z)) ∧ (r.1 = 0 → z = r.2.1) ∧ Φ w'
abbrev mh_I (r : sp_R) (Φ : mh_w → Prop) : Outcome → mh_w → Prop := fun o w' => ∃ z : Int32, o = .returned (some (.int z)) ∧ (r.1 = 0 → z.toInt64 = r.2.1) ∧ Φ w'
theorem sp_pt_of {low high what : Int32} (h : sp_pt low high what = true) : ∃ lo hi q : Nat, lo ≤ hi ∧ hi < 256 ∧ q < 4 ∧ low = nI lo ∧ high = nI hi ∧ what = nI q := by
  simp only [sp_pt, Bool.and_eq_true, decide_eq_true_eq] at h
  obtain ⟨h1, h2, h3, h4⟩ := h
  obtain ⟨hi, b1, rfl⟩ := st_in_of (by decide) h1
  obtain ⟨lo, b2, rfl⟩ := st_in_of (by decide) h2
  obtain ⟨q, b3, rfl⟩ := st_in_of (by decide) h4
  exact ⟨lo, hi, q, (nI_leI (by omega) (by omega)).mp h3, b1, b3, rfl, rfl, rfl⟩
theorem so_dr {g : st_G} {t : Nat} {x : st_I} (h : sg_ok g) (hx : iv_ok (sg_n g) x) : sg_ok (g.1, g.2.1, va_up (sg_dr g) t (some x), g.2.2.2) := by
  obtain ⟨h1, h2, h3, h4, h5⟩ := h
  refine ⟨h1, h2, h3, h4, fun z y hz hy => ?_⟩
  have hy : va_up (sg_dr g) t (some x) z = some y := hy
  by_cases e : z = t
  · subst e; rw [va_up_self] at hy; cases hy; exact hx
  · rw [va_up_ne _ _ e] at hy; exact h5 z y hz hy
theorem so_no {g : st_G} {t : Nat} (h : sg_ok g) : sg_ok (g.1, g.2.1, va_up (sg_dr g) t none, g.2.2.2) := by
  obtain ⟨h1, h2, h3, h4, h5⟩ := h
  refine ⟨h1, h2, h3, h4, fun z y hz hy => ?_⟩
  have hy : va_up (sg_dr g) t none z = some y := hy
  by_cases e : z = t
  · subst e; rw [va_up_self] at hy; cases hy
  · rw [va_up_ne _ _ e] at hy; exact h5 z y hz hy
theorem iv_ok.up {n m : Nat} {x : st_I} (h : iv_ok n x) (hm : n ≤ m) : iv_ok m x := by
  obtain ⟨h1, h2, h3⟩ := h
  exact ⟨h1, Nat.le_trans h2 hm, h3⟩
theorem so_cm {g : st_G} {t : Nat} {x : st_I} (h : sg_ok g) (hx : iv_ok (sg_n g) x) (hn : sg_n g < 400) : sg_ok ((sg_n g + 1, va_up (sg_lg g) (sg_n g) (st_lgd g x)), g.2.1, va_up (sg_dr g) t none, g.2.2.2) := by
  obtain ⟨h1, h2, h3, h4, h5⟩ := h
  refine ⟨hn, h2, fun s hs => Nat.le_succ_of_le (h3 s hs), fun k hk => ?_, fun z y hz hy => ?_⟩
  · have hk : k < sg_n g + 1 := hk
    show iv_ok k (va_up (sg_lg g) (sg_n g) (st_lgd g x) k)
    by_cases e : k = sg_n g
    · subst e; rw [va_up_self]; exact hx
    · rw [va_up_ne _ _ e]; exact h4 k (by omega)
  · have hy : va_up (sg_dr g) t none z = some y := hy
    show iv_ok (sg_n g + 1) y
    by_cases e : z = t
    · subst e; rw [va_up_self] at hy; cases hy
    · rw [va_up_ne _ _ e] at hy; exact (h5 z y hz hy).up (Nat.le_succ _)
theorem so_at {g : st_G} {u m : Nat} (h : sg_ok g) (hm : m ≤ sg_n g) : sg_ok (g.1, va_up (sg_at g) u m, g.2.2) := by
  obtain ⟨h1, h2, h3, h4, h5⟩ := h
  refine ⟨h1, h2, fun s hs => ?_, h4, h5⟩
  show va_up (sg_at g) u m s ≤ sg_n g
  by_cases e : s = u
  · subst e; rw [va_up_self]; exact hm
  · rw [va_up_ne _ _ e]; exact h3 s hs
theorem so_rs {g : st_G} {u : Nat} (h : sg_ok g) (h4 : sg_rs g < 4) : sg_ok (g.1, va_up (sg_at g) u 0, (fun t => match sg_dr g t with | some x => if iv_sv x = u then none else some x | none => none), sg_rs g + 1) := by
  obtain ⟨h1, h2, h3, h5, h6⟩ := h
  refine ⟨h1, h4, fun s hs => ?_, h5, fun z y hz hy => ?_⟩
  · show va_up (sg_at g) u 0 s ≤ sg_n g
    by_cases e : s = u
    · subst e; rw [va_up_self]; exact Nat.zero_le _
    · rw [va_up_ne _ _ e]; exact h3 s hs
  · have hy : (match sg_dr g z with | some x => if iv_sv x = u then none else some x | none => none) = some y := hy
    cases e9 : sg_dr g z with
    | none => rw [e9] at hy; cases hy
    | some x2 =>
      rw [e9] at hy
      by_cases c : iv_sv x2 = u
      · simp only [if_pos c] at hy; cases hy
      · simp only [if_neg c] at hy; cases hy; exact h6 z y hz e9
theorem spe_begin_2 {g : st_G} {t : Nat} (ht : t < 16) {u : Nat} (hu : u < 4) {lv : Nat} (hlv : lv < 2) {x : st_I} (hd : sg_dr g t = some x) : sp_begin g (nI t) (nI u) (nI lv) = (2, 0, g) := by
  unfold sp_begin
  simp only [st_in_nI ht (show 16 < 2 ^ 31 by decide), st_in_nI hu (show 4 < 2 ^ 31 by decide), st_in_nI hlv (show 2 < 2 ^ 31 by decide), nI_clamp (show t < 2 ^ 31 by omega), hd, Bool.and_self, Bool.and_true, Bool.true_and, ↓reduceIte, Bool.false_eq_true]
theorem spe_begin_0 {g : st_G} {t : Nat} (ht : t < 16) {u : Nat} (hu : u < 4) {lv : Nat} (hlv : lv < 2) (hd : sg_dr g t = none) : sp_begin g (nI t) (nI u) (nI lv) = (0, 0, (g.1, g.2.1, va_up (sg_dr g) t (some (st_new u (sg_at g u) lv)), g.2.2.2)) := by
  unfold sp_begin
  simp only [st_in_nI ht (show 16 < 2 ^ 31 by decide), st_in_nI hu (show 4 < 2 ^ 31 by decide), st_in_nI hlv (show 2 < 2 ^ 31 by decide), nI_clamp (show t < 2 ^ 31 by omega), nI_clamp (show u < 2 ^ 31 by omega), nI_clamp (show lv < 2 ^ 31 by omega), hd, Bool.and_self, Bool.and_true, Bool.true_and, ↓reduceIte, Bool.false_eq_true]
theorem spe_get_2 {g : st_G} {t : Nat} (ht : t < 16) {key : Nat} (hk : key < 256) (hd : sg_dr g t = none) : sp_get g (nI t) (nI key) = (2, 0, g) := by
  unfold sp_get
  simp only [st_in_nI ht (show 16 < 2 ^ 31 by decide), st_in_nI hk (show 256 < 2 ^ 31 by decide), nI_clamp (show t < 2 ^ 31 by omega), hd, Bool.and_self, Bool.and_true, Bool.true_and, ↓reduceIte, Bool.false_eq_true]
theorem spe_put_2 {g : st_G} {t : Nat} (ht : t < 16) {key : Nat} (hk : key < 256) (hd : sg_dr g t = none) {v : Int64} : sp_write g (nI t) (nI key) (some v) = (2, 0, g) := by
  unfold sp_write
  simp only [st_in_nI ht (show 16 < 2 ^ 31 by decide), st_in_nI hk (show 256 < 2 ^ 31 by decide), nI_clamp (show t < 2 ^ 31 by omega), hd, Bool.and_self, Bool.and_true, Bool.true_and, ↓reduceIte, Bool.false_eq_true]
theorem spe_delete_2 {g : st_G} {t : Nat} (ht : t < 16) {key : Nat} (hk : key < 256) (hd : sg_dr g t = none) : sp_write g (nI t) (nI key) none = (2, 0, g) := by
  unfold sp_write
  simp only [st_in_nI ht (show 16 < 2 ^ 31 by decide), st_in_nI hk (show 256 < 2 ^ 31 by decide), nI_clamp (show t < 2 ^ 31 by omega), hd, Bool.and_self, Bool.and_true, Bool.true_and, ↓reduceIte, Bool.false_eq_true]
theorem spe_get_0 {g : st_G} {t : Nat} (ht : t < 16) {key : Nat} (hk : key < 256) {x : st_I} (hd : sg_dr g t = some x) {v : Int64} (hv : st_vw (sg_lg g) x key = some v) : sp_get g (nI t) (nI key) = (0, v, (g.1, g.2.1, va_up (sg_dr g) t (some (st_get x key)), g.2.2.2)) := by
  unfold sp_get
  simp only [st_in_nI ht (show 16 < 2 ^ 31 by decide), st_in_nI hk (show 256 < 2 ^ 31 by decide), nI_clamp (show t < 2 ^ 31 by omega), nI_clamp (show key < 2 ^ 31 by omega), hd, hv, Bool.and_self, Bool.and_true, Bool.true_and, ↓reduceIte, Bool.false_eq_true]
theorem spe_get_3 {g : st_G} {t : Nat} (ht : t < 16) {key : Nat} (hk : key < 256) {x : st_I} (hd : sg_dr g t = some x) (hv : st_vw (sg_lg g) x key = none) : sp_get g (nI t) (nI key) = (3, 0, (g.1, g.2.1, va_up (sg_dr g) t (some (st_get x key)), g.2.2.2)) := by
  unfold sp_get
  simp only [st_in_nI ht (show 16 < 2 ^ 31 by decide), st_in_nI hk (show 256 < 2 ^ 31 by decide), nI_clamp (show t < 2 ^ 31 by omega), nI_clamp (show key < 2 ^ 31 by omega), hd, hv, Bool.and_self, Bool.and_true, Bool.true_and, ↓reduceIte, Bool.false_eq_true]
theorem spe_put_0 {g : st_G} {t : Nat} (ht : t < 16) {key : Nat} (hk : key < 256) {x : st_I} (hd : sg_dr g t = some x) (h8 : (st_pl (iv_wk x) key (iv_nw x)) < 8) {v : Int64} : sp_write g (nI t) (nI key) (some v) = (0, lN (iv_nw (st_wr x key (some v))), (g.1, g.2.1, va_up (sg_dr g) t (some (st_wr x key (some v))), g.2.2.2)) := by
  unfold sp_write
  simp only [st_in_nI ht (show 16 < 2 ^ 31 by decide), st_in_nI hk (show 256 < 2 ^ 31 by decide), nI_clamp (show t < 2 ^ 31 by omega), nI_clamp (show key < 2 ^ 31 by omega), hd, if_pos h8, Bool.and_self, Bool.and_true, Bool.true_and, ↓reduceIte, Bool.false_eq_true]
theorem spe_put_3 {g : st_G} {t : Nat} (ht : t < 16) {key : Nat} (hk : key < 256) {x : st_I} (hd : sg_dr g t = some x) (h8 : ¬ (st_pl (iv_wk x) key (iv_nw x)) < 8) {v : Int64} : sp_write g (nI t) (nI key) (some v) = (3, 0, g) := by
  unfold sp_write
  simp only [st_in_nI ht (show 16 < 2 ^ 31 by decide), st_in_nI hk (show 256 < 2 ^ 31 by decide), nI_clamp (show t < 2 ^ 31 by omega), nI_clamp (show key < 2 ^ 31 by omega), hd, if_neg h8, Bool.and_self, Bool.and_true, Bool.true_and, ↓reduceIte, Bool.false_eq_true]
theorem spe_delete_0 {g : st_G} {t : Nat} (ht : t < 16) {key : Nat} (hk : key < 256) {x : st_I} (hd : sg_dr g t = some x) (h8 : (st_pl (iv_wk x) key (iv_nw x)) < 8) : sp_write g (nI t) (nI key) none = (0, lN (iv_nw (st_wr x key (none : Option Int64))), (g.1, g.2.1, va_up (sg_dr g) t (some (st_wr x key (none : Option Int64))), g.2.2.2)) := by
  unfold sp_write
  simp only [st_in_nI ht (show 16 < 2 ^ 31 by decide), st_in_nI hk (show 256 < 2 ^ 31 by decide), nI_clamp (show t < 2 ^ 31 by omega), nI_clamp (show key < 2 ^ 31 by omega), hd, if_pos h8, Bool.and_self, Bool.and_true, Bool.true_and, ↓reduceIte, Bool.false_eq_true]
theorem spe_delete_3 {g : st_G} {t : Nat} (ht : t < 16) {key : Nat} (hk : key < 256) {x : st_I} (hd : sg_dr g t = some x) (h8 : ¬ (st_pl (iv_wk x) key (iv_nw x)) < 8) : sp_write g (nI t) (nI key) none = (3, 0, g) := by
  unfold sp_write
  simp only [st_in_nI ht (show 16 < 2 ^ 31 by decide), st_in_nI hk (show 256 < 2 ^ 31 by decide), nI_clamp (show t < 2 ^ 31 by omega), nI_clamp (show key < 2 ^ 31 by omega), hd, if_neg h8, Bool.and_self, Bool.and_true, Bool.true_and, ↓reduceIte, Bool.false_eq_true]
theorem spe_part_2 {g : st_G} {t : Nat} (ht : t < 16) {low high q9 : Nat} (h1 : low ≤ high) (h2 : high < 256) (h3 : q9 < 4) (hd : sg_dr g t = none) : sp_part g (nI t) (nI low) (nI high) (nI q9) = (2, 0, g) := by
  unfold sp_part
  simp only [st_in_nI ht (show 16 < 2 ^ 31 by decide), sp_pt_ok h1 h2 h3, nI_clamp (show t < 2 ^ 31 by omega), hd, Bool.and_self, Bool.and_true, Bool.true_and, ↓reduceIte, Bool.false_eq_true]
theorem spe_part_0 {g : st_G} {t : Nat} (ht : t < 16) {low high q9 : Nat} (h1 : low ≤ high) (h2 : high < 256) (h3 : q9 < 4) {x : st_I} (hd : sg_dr g t = some x) (h8 : iv_np x < 8) : sp_part g (nI t) (nI low) (nI high) (nI q9) = (0, tl_a (st_vw (sg_lg g) x) low (high + 1 - low) (nI q9), (g.1, g.2.1, va_up (sg_dr g) t (some (st_prt x low high)), g.2.2.2)) := by
  unfold sp_part
  simp only [st_in_nI ht (show 16 < 2 ^ 31 by decide), sp_pt_ok h1 h2 h3, nI_clamp (show t < 2 ^ 31 by omega), nI_clamp (show low < 2 ^ 31 by omega), nI_clamp (show high < 2 ^ 31 by omega), hd, if_pos h8, Bool.and_self, Bool.and_true, Bool.true_and, ↓reduceIte, Bool.false_eq_true]
theorem spe_part_3 {g : st_G} {t : Nat} (ht : t < 16) {low high q9 : Nat} (h1 : low ≤ high) (h2 : high < 256) (h3 : q9 < 4) {x : st_I} (hd : sg_dr g t = some x) (h8 : ¬ iv_np x < 8) : sp_part g (nI t) (nI low) (nI high) (nI q9) = (3, 0, g) := by
  unfold sp_part
  simp only [st_in_nI ht (show 16 < 2 ^ 31 by decide), sp_pt_ok h1 h2 h3, nI_clamp (show t < 2 ^ 31 by omega), hd, if_neg h8, Bool.and_self, Bool.and_true, Bool.true_and, ↓reduceIte, Bool.false_eq_true]
theorem spe_commit_2 {g : st_G} {t : Nat} (ht : t < 16) (hd : sg_dr g t = none) : sp_commit g (nI t) = (2, 0, g) := by
  unfold sp_commit
  simp only [st_in_nI ht (show 16 < 2 ^ 31 by decide), nI_clamp (show t < 2 ^ 31 by omega), hd, Bool.and_self, Bool.and_true, Bool.true_and, ↓reduceIte, Bool.false_eq_true]
theorem spe_commit_00 {g : st_G} {t : Nat} (ht : t < 16) {x : st_I} (hd : sg_dr g t = some x) (h0 : iv_nw x = 0) : sp_commit g (nI t) = (0, -1, (g.1, g.2.1, va_up (sg_dr g) t none, g.2.2.2)) := by
  unfold sp_commit
  simp only [st_in_nI ht (show 16 < 2 ^ 31 by decide), nI_clamp (show t < 2 ^ 31 by omega), hd, if_pos h0, Bool.and_self, Bool.and_true, Bool.true_and, ↓reduceIte, Bool.false_eq_true]
theorem spe_commit_0 {g : st_G} {t : Nat} (ht : t < 16) {x : st_I} (hd : sg_dr g t = some x) (h0 : ¬ iv_nw x = 0) (hn : sg_n g < 400) : sp_commit g (nI t) = (0, lN (sg_n g), ((sg_n g + 1, va_up (sg_lg g) (sg_n g) (st_lgd g x)), g.2.1, va_up (sg_dr g) t none, g.2.2.2)) := by
  unfold sp_commit
  simp only [st_in_nI ht (show 16 < 2 ^ 31 by decide), nI_clamp (show t < 2 ^ 31 by omega), hd, if_neg h0, if_pos hn, Bool.and_self, Bool.and_true, Bool.true_and, ↓reduceIte, Bool.false_eq_true]
theorem spe_commit_3 {g : st_G} {t : Nat} (ht : t < 16) {x : st_I} (hd : sg_dr g t = some x) (h0 : ¬ iv_nw x = 0) (hn : ¬ sg_n g < 400) : sp_commit g (nI t) = (3, 0, g) := by
  unfold sp_commit
  simp only [st_in_nI ht (show 16 < 2 ^ 31 by decide), nI_clamp (show t < 2 ^ 31 by omega), hd, if_neg h0, if_neg hn, Bool.and_self, Bool.and_true, Bool.true_and, ↓reduceIte, Bool.false_eq_true]
theorem spe_abort_2 {g : st_G} {t : Nat} (ht : t < 16) (hd : sg_dr g t = none) : sp_abort g (nI t) = (2, 0, g) := by
  unfold sp_abort
  simp only [st_in_nI ht (show 16 < 2 ^ 31 by decide), nI_clamp (show t < 2 ^ 31 by omega), hd, Bool.and_self, Bool.and_true, Bool.true_and, ↓reduceIte, Bool.false_eq_true]
theorem spe_abort_0 {g : st_G} {t : Nat} (ht : t < 16) {x : st_I} (hd : sg_dr g t = some x) : sp_abort g (nI t) = (0, 0, (g.1, g.2.1, va_up (sg_dr g) t none, g.2.2.2)) := by
  unfold sp_abort
  simp only [st_in_nI ht (show 16 < 2 ^ 31 by decide), nI_clamp (show t < 2 ^ 31 by omega), hd, Bool.and_self, Bool.and_true, Bool.true_and, ↓reduceIte, Bool.false_eq_true]
theorem spe_advance_0 {g : st_G} {u : Nat} (hu : u < 4) {k9 : Nat} (hk9 : k9 < 401) : sp_advance g (nI u) (nI k9) = (0, lN (min k9 (sg_n g - sg_at g u)), (g.1, va_up (sg_at g) u (sg_at g u + (min k9 (sg_n g - sg_at g u))), g.2.2)) := by
  unfold sp_advance
  simp only [st_in_nI hu (show 4 < 2 ^ 31 by decide), st_in_nI hk9 (show 401 < 2 ^ 31 by decide), nI_clamp (show u < 2 ^ 31 by omega), nI_clamp (show k9 < 2 ^ 31 by omega), Bool.and_self, Bool.and_true, Bool.true_and, ↓reduceIte, Bool.false_eq_true]
theorem spe_restart_0 {g : st_G} {u : Nat} (hu : u < 4) (h4 : sg_rs g < 4) : sp_restart g (nI u) = (0, 0, (g.1, va_up (sg_at g) u 0, (fun t => match sg_dr g t with | some x => if iv_sv x = u then none else some x | none => none), sg_rs g + 1)) := by
  unfold sp_restart
  simp only [st_in_nI hu (show 4 < 2 ^ 31 by decide), nI_clamp (show u < 2 ^ 31 by omega), if_pos h4, Bool.and_self, Bool.and_true, Bool.true_and, ↓reduceIte, Bool.false_eq_true]
  rfl
theorem spe_restart_2 {g : st_G} {u : Nat} (hu : u < 4) (h4 : ¬ sg_rs g < 4) : sp_restart g (nI u) = (2, 0, g) := by
  unfold sp_restart
  simp only [st_in_nI hu (show 4 < 2 ^ 31 by decide), if_neg h4, Bool.and_self, Bool.and_true, Bool.true_and, ↓reduceIte, Bool.false_eq_true]
theorem spe_state_0 {g : st_G} {u : Nat} (hu : u < 4) {key : Nat} (hk : key < 256) {v : Int64} (hv : (st_st (sg_lg g) (sg_at g u)) key = some v) : sp_state g (nI u) (nI key) = (0, v, g) := by
  unfold sp_state
  simp only [st_in_nI hu (show 4 < 2 ^ 31 by decide), st_in_nI hk (show 256 < 2 ^ 31 by decide), nI_clamp (show u < 2 ^ 31 by omega), nI_clamp (show key < 2 ^ 31 by omega), hv, Bool.and_self, Bool.and_true, Bool.true_and, ↓reduceIte, Bool.false_eq_true]
theorem spe_state_2 {g : st_G} {u : Nat} (hu : u < 4) {key : Nat} (hk : key < 256) (hv : (st_st (sg_lg g) (sg_at g u)) key = none) : sp_state g (nI u) (nI key) = (2, 0, g) := by
  unfold sp_state
  simp only [st_in_nI hu (show 4 < 2 ^ 31 by decide), st_in_nI hk (show 256 < 2 ^ 31 by decide), nI_clamp (show u < 2 ^ 31 by omega), nI_clamp (show key < 2 ^ 31 by omega), hv, Bool.and_self, Bool.and_true, Bool.true_and, ↓reduceIte, Bool.false_eq_true]
theorem spe_look_0 {g : st_G} {u : Nat} (hu : u < 4) {low high q9 : Nat} (h1 : low ≤ high) (h2 : high < 256) (h3 : q9 < 4) : sp_look g (nI u) (nI low) (nI high) (nI q9) = (0, tl_a (st_st (sg_lg g) (sg_at g u)) low (high + 1 - low) (nI q9), g) := by
  unfold sp_look
  simp only [st_in_nI hu (show 4 < 2 ^ 31 by decide), sp_pt_ok h1 h2 h3, nI_clamp (show u < 2 ^ 31 by omega), nI_clamp (show low < 2 ^ 31 by omega), nI_clamp (show high < 2 ^ 31 by omega), Bool.and_self, Bool.and_true, Bool.true_and, ↓reduceIte, Bool.false_eq_true]
theorem spe_verdict_0 {g : st_G} {u : Nat} (hu : u < 4) {j : Nat} (hj : j < sg_n g) (hn4 : sg_n g ≤ 400) : sp_verdict g (nI u) (nI j) = (0, (if sg_at g u ≤ j then 0 else if iv_gd (sg_lg g j) = true then 1 else 2), g) := by
  unfold sp_verdict
  simp only [st_in_nI hu (show 4 < 2 ^ 31 by decide), st_in_nI hj (show sg_n g < 2 ^ 31 by omega), nI_clamp (show u < 2 ^ 31 by omega), nI_clamp (show j < 2 ^ 31 by omega), Bool.and_self, Bool.and_true, Bool.true_and, ↓reduceIte, Bool.false_eq_true]
theorem spe_verdict_2 {g : st_G} {u : Nat} (hu : u < 4) {v : Int32} (hv : st_in v (sg_n g) = false) : sp_verdict g (nI u) v = (2, 0, g) := by
  unfold sp_verdict
  simp only [st_in_nI hu (show 4 < 2 ^ 31 by decide), hv, Bool.and_self, Bool.and_true, Bool.true_and, ↓reduceIte, Bool.false_eq_true]
theorem spe_intention_0 {g : st_G} {j : Nat} (hj : j < sg_n g) (hn4 : sg_n g ≤ 400) {q9 : Nat} (h3 : q9 < 6) : sp_intention g (nI j) (nI q9) = (0, lN (sp_tell (sg_lg g j) (nI q9)), g) := by
  unfold sp_intention
  simp only [st_in_nI h3 (show 6 < 2 ^ 31 by decide), st_in_nI hj (show sg_n g < 2 ^ 31 by omega), nI_clamp (show j < 2 ^ 31 by omega), Bool.and_self, Bool.and_true, Bool.true_and, ↓reduceIte, Bool.false_eq_true]
theorem spe_intention_2 {g : st_G} {q9 : Nat} (h3 : q9 < 6) {v : Int32} (hv : st_in v (sg_n g) = false) : sp_intention g v (nI q9) = (2, 0, g) := by
  unfold sp_intention
  simp only [st_in_nI h3 (show 6 < 2 ^ 31 by decide), hv, Bool.and_self, Bool.and_true, Bool.true_and, ↓reduceIte, Bool.false_eq_true]
theorem spe_count_0 {g : st_G} {v1 v2 : Int32} : sp_count g (nI 0) v1 v2 = (0, lN (sg_n g), g) := by
  unfold sp_count
  simp only [st_in_nI (show 0 < 5 by decide) (show 5 < 2 ^ 31 by decide), if_pos (show nI 0 = 0 by decide), Bool.and_self, Bool.and_true, Bool.true_and, ↓reduceIte, Bool.false_eq_true]
theorem spe_count_01 {g : st_G} {v1 v2 : Int32} : sp_count g (nI 1) v1 v2 = (0, lN (pb_cnt (fun t => (sg_dr g t).isSome) 16), g) := by
  unfold sp_count
  simp only [st_in_nI (show 1 < 5 by decide) (show 5 < 2 ^ 31 by decide), if_neg (show ¬ nI 1 = 0 by decide), if_pos (show nI 1 = 1 by decide), Bool.and_self, Bool.and_true, Bool.true_and, ↓reduceIte, Bool.false_eq_true]
theorem spe_count_02 {g : st_G} {u : Nat} (hu : u < 4) {v2 : Int32} : sp_count g (nI 2) (nI u) v2 = (0, lN (sg_at g u), g) := by
  unfold sp_count
  simp only [st_in_nI (show 2 < 5 by decide) (show 5 < 2 ^ 31 by decide), if_neg (show ¬ nI 2 = 0 by decide), if_neg (show ¬ nI 2 = 1 by decide), st_in_nI hu (show 4 < 2 ^ 31 by decide), if_pos (show nI 2 = 2 by decide), nI_clamp (show u < 2 ^ 31 by omega), Bool.and_self, Bool.and_true, Bool.true_and, ↓reduceIte, Bool.false_eq_true]
theorem spe_count_03 {g : st_G} {u : Nat} (hu : u < 4) {v2 : Int32} : sp_count g (nI 3) (nI u) v2 = (0, lN (pb_cnt (fun i => iv_gd (sg_lg g i)) (sg_at g u)), g) := by
  unfold sp_count
  simp only [st_in_nI (show 3 < 5 by decide) (show 5 < 2 ^ 31 by decide), if_neg (show ¬ nI 3 = 0 by decide), if_neg (show ¬ nI 3 = 1 by decide), st_in_nI hu (show 4 < 2 ^ 31 by decide), if_neg (show ¬ nI 3 = 2 by decide), if_pos (show nI 3 = 3 by decide), nI_clamp (show u < 2 ^ 31 by omega), Bool.and_self, Bool.and_true, Bool.true_and, ↓reduceIte, Bool.false_eq_true]
theorem spe_count_04 {g : st_G} {u : Nat} (hu : u < 4) {key : Nat} (hk : key < 256) : sp_count g (nI 4) (nI u) (nI key) = (0, (st_lw (sg_lg g) key (sg_at g u)).toInt64, g) := by
  unfold sp_count
  simp only [st_in_nI (show 4 < 5 by decide) (show 5 < 2 ^ 31 by decide), if_neg (show ¬ nI 4 = 0 by decide), if_neg (show ¬ nI 4 = 1 by decide), st_in_nI hu (show 4 < 2 ^ 31 by decide), st_in_nI hk (show 256 < 2 ^ 31 by decide), if_neg (show ¬ nI 4 = 2 by decide), if_neg (show ¬ nI 4 = 3 by decide), nI_clamp (show u < 2 ^ 31 by omega), nI_clamp (show key < 2 ^ 31 by omega), Bool.and_self, Bool.and_true, Bool.true_and, ↓reduceIte, Bool.false_eq_true]
theorem spe_count_11 {g : st_G} {q9 : Nat} (h3 : 2 ≤ q9) (h5 : q9 < 5) {v1 v2 : Int32} (hv : st_in v1 4 = false) : sp_count g (nI q9) v1 v2 = (1, 0, g) := by
  unfold sp_count
  simp only [st_in_nI h5 (show 5 < 2 ^ 31 by decide), if_neg (show ¬ nI q9 = 0 from nI_ne0 (by omega) (by omega)), if_neg (show ¬ nI q9 = 1 from fun q => by have := (nI_eq (a := q9) (b := 1) (by omega) (by decide)).mp q; omega), hv, Bool.and_self, Bool.and_true, Bool.true_and, ↓reduceIte, Bool.false_eq_true]
theorem spe_count_12 {g : st_G} {u : Nat} (hu : u < 4) {v2 : Int32} (hv : st_in v2 256 = false) : sp_count g (nI 4) (nI u) v2 = (1, 0, g) := by
  unfold sp_count
  simp only [st_in_nI (show 4 < 5 by decide) (show 5 < 2 ^ 31 by decide), if_neg (show ¬ nI 4 = 0 by decide), if_neg (show ¬ nI 4 = 1 by decide), st_in_nI hu (show 4 < 2 ^ 31 by decide), if_neg (show ¬ nI 4 = 2 by decide), if_neg (show ¬ nI 4 = 3 by decide), hv, Bool.and_self, Bool.and_true, Bool.true_and, ↓reduceIte, Bool.false_eq_true]
theorem so_begin {g : st_G} (hG : sg_ok g) {t u lv : Int32} : sg_ok (sp_begin g t u lv).2.2 := by
  by_cases h : (st_in t 16 && (st_in u 4 && st_in lv 2)) = true
  · have h9 := h
    simp only [Bool.and_eq_true] at h9
    obtain ⟨c1, c2, c3⟩ := h9
    obtain ⟨t, ht, e9⟩ := st_in_of (n := 16) (by decide) c1
    subst e9
    obtain ⟨u, hu, e9⟩ := st_in_of (n := 4) (by decide) c2
    subst e9
    obtain ⟨lv, hlv, e9⟩ := st_in_of (n := 2) (by decide) c3
    subst e9
    cases hd : sg_dr g t with
    | none => rw [spe_begin_0 ht hu hlv hd]; exact so_dr hG (st_new_ok hu (hG.2.2.1 u hu) hlv)
    | some x =>
      rw [spe_begin_2 ht hu hlv hd]; exact hG
  · rw [(show sp_begin g t u lv = (1, 0, g) from if_neg h)]; exact hG
set_option maxHeartbeats 1000000 in
theorem l_begin {l : Launch} {b : Nat} {dC : Nat → ClassId} {dI : Nat → Nat → Nat} {dA : Nat → ClassId} {zs : Nat → Nat} {w : mh_w} (hl0 : l.stackTraces = false) {x0 : Nat} {g : st_G} (hR : rC dA zs w x0 g) (hG : sg_ok g) {o0 : Nat} {ov : Nat → Int64} (hov : w 90 0 = some (o0, .inl (dA 1, 1, .inr (.inl ov)))) {t u lv : Int32} : mh_Met l b dC dI dA zs y_LW_begin (mh_rm 9 20 1000) [.ref x0, .int t, .int u, .int lv] w (mh_V (some (.int (nI (sp_begin g t u lv).1))) (lW dA zs w x0 o0 true (sp_begin g t u lv))) := by
  by_cases h : (st_in t 16 && (st_in u 4 && st_in lv 2)) = true
  · have h9 := h
    simp only [Bool.and_eq_true] at h9
    obtain ⟨c1, c2, c3⟩ := h9
    obtain ⟨t, ht, e9⟩ := st_in_of (n := 16) (by decide) c1
    subst e9
    obtain ⟨u, hu, e9⟩ := st_in_of (n := 4) (by decide) c2
    subst e9
    obtain ⟨lv, hlv, e9⟩ := st_in_of (n := 2) (by decide) c3
    subst e9
    cases hd : sg_dr g t with
    | none => rw [spe_begin_0 ht hu hlv hd]; exact c_LW_begin_0 hR hG hov ht hu hlv hd
    | some x =>
      rw [spe_begin_2 ht hu hlv hd]; exact c_LW_begin_2 hl0 hR hG hov ht hu hlv hd
  · rw [(show sp_begin g t u lv = (1, 0, g) from if_neg h)]; exact c_LW_begin_1 hl0 hR hG hov (Bool.eq_false_iff.mpr h)
set_option maxHeartbeats 1000000 in
theorem r_begin {l : Launch} {b : Nat} {dC : Nat → ClassId} {dI : Nat → Nat → Nat} {dA : Nat → ClassId} {zs : Nat → Nat} {w : mh_w} {m0 : Nat} {er : Int32} {g : st_G} (hR : rM dA w m0 er g) (hG : sg_ok g) {t u lv : Int32} : mh_Met l b dC dI dA zs y_MM_begin (mh_rm 4 10 500) [.ref m0, .int t, .int u, .int lv] w (mh_V none (lM dA w m0 (sp_begin g t u lv))) := by
  by_cases h : (st_in t 16 && (st_in u 4 && st_in lv 2)) = true
  · have h9 := h
    simp only [Bool.and_eq_true] at h9
    obtain ⟨c1, c2, c3⟩ := h9
    obtain ⟨t, ht, e9⟩ := st_in_of (n := 16) (by decide) c1
    subst e9
    obtain ⟨u, hu, e9⟩ := st_in_of (n := 4) (by decide) c2
    subst e9
    obtain ⟨lv, hlv, e9⟩ := st_in_of (n := 2) (by decide) c3
    subst e9
    cases hd : sg_dr g t with
    | none => rw [spe_begin_0 ht hu hlv hd]; exact c_MM_begin_0 hR hG ht hu hlv hd
    | some x =>
      rw [spe_begin_2 ht hu hlv hd]; exact c_MM_begin_2 hR hG ht hu hlv hd
  · rw [(show sp_begin g t u lv = (1, 0, g) from if_neg h)]; exact c_MM_begin_1 hR hG (Bool.eq_false_iff.mpr h)
theorem so_get {g : st_G} (hG : sg_ok g) {t key : Int32} : sg_ok (sp_get g t key).2.2 := by
  by_cases h : (st_in t 16 && st_in key 256) = true
  · have h9 := h
    simp only [Bool.and_eq_true] at h9
    obtain ⟨c1, c2⟩ := h9
    obtain ⟨t, ht, e9⟩ := st_in_of (n := 16) (by decide) c1
    subst e9
    obtain ⟨key, hk, e9⟩ := st_in_of (n := 256) (by decide) c2
    subst e9
    cases hd : sg_dr g t with
    | none => rw [spe_get_2 ht hk hd]; exact hG
    | some x =>
      cases hv : st_vw (sg_lg g) x key with
      | none => rw [spe_get_3 ht hk hd hv]; exact so_dr hG (st_get_ok (hG.2.2.2.2 t x ht hd))
      | some v =>
        rw [spe_get_0 ht hk hd hv]; exact so_dr hG (st_get_ok (hG.2.2.2.2 t x ht hd))
  · rw [(show sp_get g t key = (1, 0, g) from if_neg h)]; exact hG
set_option maxHeartbeats 1000000 in
theorem l_get {l : Launch} {b : Nat} {dC : Nat → ClassId} {dI : Nat → Nat → Nat} {dA : Nat → ClassId} {zs : Nat → Nat} {w : mh_w} (hl0 : l.stackTraces = false) {x0 : Nat} {g : st_G} (hR : rC dA zs w x0 g) (hG : sg_ok g) {o0 : Nat} {ov : Nat → Int64} (hov : w 90 0 = some (o0, .inl (dA 1, 1, .inr (.inl ov)))) {t key : Int32} : mh_Met l b dC dI dA zs y_LW_get (mh_rm 9 20 1000) [.ref x0, .int t, .int key, .ref o0] w (mh_V (some (.int (nI (sp_get g t key).1))) (lW dA zs w x0 o0 false (sp_get g t key))) := by
  by_cases h : (st_in t 16 && st_in key 256) = true
  · have h9 := h
    simp only [Bool.and_eq_true] at h9
    obtain ⟨c1, c2⟩ := h9
    obtain ⟨t, ht, e9⟩ := st_in_of (n := 16) (by decide) c1
    subst e9
    obtain ⟨key, hk, e9⟩ := st_in_of (n := 256) (by decide) c2
    subst e9
    cases hd : sg_dr g t with
    | none => rw [spe_get_2 ht hk hd]; exact c_LW_get_2 hl0 hR hG hov ht hk hd
    | some x =>
      cases hv : st_vw (sg_lg g) x key with
      | none => rw [spe_get_3 ht hk hd hv]; exact c_LW_get_3 hl0 hR hG hov ht hk hd hv
      | some v =>
        rw [spe_get_0 ht hk hd hv]; exact c_LW_get_0 hR hG hov ht hk hd hv
  · rw [(show sp_get g t key = (1, 0, g) from if_neg h)]; exact c_LW_get_1 hl0 hR hG hov (Bool.eq_false_iff.mpr h)
set_option maxHeartbeats 1000000 in
theorem r_get {l : Launch} {b : Nat} {dC : Nat → ClassId} {dI : Nat → Nat → Nat} {dA : Nat → ClassId} {zs : Nat → Nat} {w : mh_w} {m0 : Nat} {er : Int32} {g : st_G} (hR : rM dA w m0 er g) (hG : sg_ok g) {t key : Int32} : mh_Met l b dC dI dA zs y_MM_get (mh_rm 4 10 500) [.ref m0, .int t, .int key] w (mh_J (sp_get g t key) (lM dA w m0 (sp_get g t key))) := by
  by_cases h : (st_in t 16 && st_in key 256) = true
  · have h9 := h
    simp only [Bool.and_eq_true] at h9
    obtain ⟨c1, c2⟩ := h9
    obtain ⟨t, ht, e9⟩ := st_in_of (n := 16) (by decide) c1
    subst e9
    obtain ⟨key, hk, e9⟩ := st_in_of (n := 256) (by decide) c2
    subst e9
    cases hd : sg_dr g t with
    | none => rw [spe_get_2 ht hk hd]; exact (c_MM_get_2 hR hG ht hk hd).mono (fun o w2 h => ⟨_, h.1, fun h0 => absurd (show (2 : Nat) = 0 from h0) (by decide), h.2⟩)
    | some x =>
      cases hv : st_vw (sg_lg g) x key with
      | none => rw [spe_get_3 ht hk hd hv]; exact (c_MM_get_3 hR hG ht hk hd hv).mono (fun o w2 h => ⟨_, h.1, fun h0 => absurd (show (3 : Nat) = 0 from h0) (by decide), h.2⟩)
      | some v =>
        rw [spe_get_0 ht hk hd hv]; exact (c_MM_get_0 hR hG ht hk hd hv).mono (fun o w2 h => ⟨_, h.1, fun _ => rfl, h.2⟩)
  · rw [(show sp_get g t key = (1, 0, g) from if_neg h)]; exact (c_MM_get_1 hR hG (Bool.eq_false_iff.mpr h)).mono (fun o w2 h => ⟨_, h.1, fun h0 => absurd (show (1 : Nat) = 0 from h0) (by decide), h.2⟩)
theorem so_put {g : st_G} (hG : sg_ok g) {t key : Int32} {v : Int64} : sg_ok (sp_write g t key (some v)).2.2 := by
  by_cases h : (st_in t 16 && st_in key 256) = true
  · have h9 := h
    simp only [Bool.and_eq_true] at h9
    obtain ⟨c1, c2⟩ := h9
    obtain ⟨t, ht, e9⟩ := st_in_of (n := 16) (by decide) c1
    subst e9
    obtain ⟨key, hk, e9⟩ := st_in_of (n := 256) (by decide) c2
    subst e9
    cases hd : sg_dr g t with
    | none => rw [spe_put_2 (v := v) ht hk hd]; exact hG
    | some x =>
      by_cases h8 : (st_pl (iv_wk x) key (iv_nw x)) < 8
      · rw [spe_put_0 (v := v) ht hk hd h8]; exact so_dr hG (st_wr_ok (hG.2.2.2.2 t x ht hd) hk h8)
      · rw [spe_put_3 (v := v) ht hk hd h8]; exact hG
  · rw [(show sp_write g t key (some v) = (1, 0, g) from if_neg h)]; exact hG
set_option maxHeartbeats 1000000 in
theorem l_put {l : Launch} {b : Nat} {dC : Nat → ClassId} {dI : Nat → Nat → Nat} {dA : Nat → ClassId} {zs : Nat → Nat} {w : mh_w} (hl0 : l.stackTraces = false) {x0 : Nat} {g : st_G} (hR : rC dA zs w x0 g) (hG : sg_ok g) {o0 : Nat} {ov : Nat → Int64} (hov : w 90 0 = some (o0, .inl (dA 1, 1, .inr (.inl ov)))) {t key : Int32} {v : Int64} : mh_Met l b dC dI dA zs y_LW_put (mh_rm 9 20 1000) [.ref x0, .int t, .int key, .long v, .ref o0] w (mh_V (some (.int (nI (sp_write g t key (some v)).1))) (lW dA zs w x0 o0 false (sp_write g t key (some v)))) := by
  by_cases h : (st_in t 16 && st_in key 256) = true
  · have h9 := h
    simp only [Bool.and_eq_true] at h9
    obtain ⟨c1, c2⟩ := h9
    obtain ⟨t, ht, e9⟩ := st_in_of (n := 16) (by decide) c1
    subst e9
    obtain ⟨key, hk, e9⟩ := st_in_of (n := 256) (by decide) c2
    subst e9
    cases hd : sg_dr g t with
    | none => rw [spe_put_2 (v := v) ht hk hd]; exact c_LW_put_2 hl0 hR hG hov ht hk hd
    | some x =>
      by_cases h8 : (st_pl (iv_wk x) key (iv_nw x)) < 8
      · rw [spe_put_0 (v := v) ht hk hd h8]; exact c_LW_put_0 hR hG hov ht hk hd h8
      · rw [spe_put_3 (v := v) ht hk hd h8]; exact c_LW_put_3 hl0 hR hG hov ht hk hd h8
  · rw [(show sp_write g t key (some v) = (1, 0, g) from if_neg h)]; exact c_LW_put_1 hl0 hR hG hov (Bool.eq_false_iff.mpr h)
set_option maxHeartbeats 1000000 in
theorem r_put {l : Launch} {b : Nat} {dC : Nat → ClassId} {dI : Nat → Nat → Nat} {dA : Nat → ClassId} {zs : Nat → Nat} {w : mh_w} {m0 : Nat} {er : Int32} {g : st_G} (hR : rM dA w m0 er g) (hG : sg_ok g) {t key : Int32} {v : Int64} : mh_Met l b dC dI dA zs y_MM_put (mh_rm 5 10 500) [.ref m0, .int t, .int key, .long v] w (mh_I (sp_write g t key (some v)) (lM dA w m0 (sp_write g t key (some v)))) := by
  by_cases h : (st_in t 16 && st_in key 256) = true
  · have h9 := h
    simp only [Bool.and_eq_true] at h9
    obtain ⟨c1, c2⟩ := h9
    obtain ⟨t, ht, e9⟩ := st_in_of (n := 16) (by decide) c1
    subst e9
    obtain ⟨key, hk, e9⟩ := st_in_of (n := 256) (by decide) c2
    subst e9
    cases hd : sg_dr g t with
    | none => rw [spe_put_2 (v := v) ht hk hd]; exact (c_MM_put_2 hR hG ht hk hd).mono (fun o w2 h => ⟨_, h.1, fun h0 => absurd (show (2 : Nat) = 0 from h0) (by decide), h.2⟩)
    | some x =>
      by_cases h8 : (st_pl (iv_wk x) key (iv_nw x)) < 8
      · rw [spe_put_0 (v := v) ht hk hd h8]; exact (c_MM_put_0 hR hG ht hk hd h8).mono (fun o w2 h => ⟨_, h.1, fun _ => nI_l (by have := (st_wr_ok (v := (some v)) (hG.2.2.2.2 t x ht hd) hk h8).2.2.2.2.1; omega), h.2⟩)
      · rw [spe_put_3 (v := v) ht hk hd h8]; exact (c_MM_put_3 hR hG ht hk hd h8).mono (fun o w2 h => ⟨_, h.1, fun h0 => absurd (show (3 : Nat) = 0 from h0) (by decide), h.2⟩)
  · rw [(show sp_write g t key (some v) = (1, 0, g) from if_neg h)]; exact (c_MM_put_1 hR hG (Bool.eq_false_iff.mpr h)).mono (fun o w2 h => ⟨_, h.1, fun h0 => absurd (show (1 : Nat) = 0 from h0) (by decide), h.2⟩)
theorem so_delete {g : st_G} (hG : sg_ok g) {t key : Int32} : sg_ok (sp_write g t key none).2.2 := by
  by_cases h : (st_in t 16 && st_in key 256) = true
  · have h9 := h
    simp only [Bool.and_eq_true] at h9
    obtain ⟨c1, c2⟩ := h9
    obtain ⟨t, ht, e9⟩ := st_in_of (n := 16) (by decide) c1
    subst e9
    obtain ⟨key, hk, e9⟩ := st_in_of (n := 256) (by decide) c2
    subst e9
    cases hd : sg_dr g t with
    | none => rw [spe_delete_2 ht hk hd]; exact hG
    | some x =>
      by_cases h8 : (st_pl (iv_wk x) key (iv_nw x)) < 8
      · rw [spe_delete_0 ht hk hd h8]; exact so_dr hG (st_wr_ok (hG.2.2.2.2 t x ht hd) hk h8)
      · rw [spe_delete_3 ht hk hd h8]; exact hG
  · rw [(show sp_write g t key none = (1, 0, g) from if_neg h)]; exact hG
set_option maxHeartbeats 1000000 in
theorem l_delete {l : Launch} {b : Nat} {dC : Nat → ClassId} {dI : Nat → Nat → Nat} {dA : Nat → ClassId} {zs : Nat → Nat} {w : mh_w} (hl0 : l.stackTraces = false) {x0 : Nat} {g : st_G} (hR : rC dA zs w x0 g) (hG : sg_ok g) {o0 : Nat} {ov : Nat → Int64} (hov : w 90 0 = some (o0, .inl (dA 1, 1, .inr (.inl ov)))) {t key : Int32} : mh_Met l b dC dI dA zs y_LW_delete (mh_rm 9 20 1000) [.ref x0, .int t, .int key, .ref o0] w (mh_V (some (.int (nI (sp_write g t key none).1))) (lW dA zs w x0 o0 false (sp_write g t key none))) := by
  by_cases h : (st_in t 16 && st_in key 256) = true
  · have h9 := h
    simp only [Bool.and_eq_true] at h9
    obtain ⟨c1, c2⟩ := h9
    obtain ⟨t, ht, e9⟩ := st_in_of (n := 16) (by decide) c1
    subst e9
    obtain ⟨key, hk, e9⟩ := st_in_of (n := 256) (by decide) c2
    subst e9
    cases hd : sg_dr g t with
    | none => rw [spe_delete_2 ht hk hd]; exact c_LW_delete_2 hl0 hR hG hov ht hk hd
    | some x =>
      by_cases h8 : (st_pl (iv_wk x) key (iv_nw x)) < 8
      · rw [spe_delete_0 ht hk hd h8]; exact c_LW_delete_0 hR hG hov ht hk hd h8
      · rw [spe_delete_3 ht hk hd h8]; exact c_LW_delete_3 hl0 hR hG hov ht hk hd h8
  · rw [(show sp_write g t key none = (1, 0, g) from if_neg h)]; exact c_LW_delete_1 hl0 hR hG hov (Bool.eq_false_iff.mpr h)
set_option maxHeartbeats 1000000 in
theorem r_delete {l : Launch} {b : Nat} {dC : Nat → ClassId} {dI : Nat → Nat → Nat} {dA : Nat → ClassId} {zs : Nat → Nat} {w : mh_w} {m0 : Nat} {er : Int32} {g : st_G} (hR : rM dA w m0 er g) (hG : sg_ok g) {t key : Int32} : mh_Met l b dC dI dA zs y_MM_delete (mh_rm 5 10 500) [.ref m0, .int t, .int key] w (mh_I (sp_write g t key none) (lM dA w m0 (sp_write g t key none))) := by
  by_cases h : (st_in t 16 && st_in key 256) = true
  · have h9 := h
    simp only [Bool.and_eq_true] at h9
    obtain ⟨c1, c2⟩ := h9
    obtain ⟨t, ht, e9⟩ := st_in_of (n := 16) (by decide) c1
    subst e9
    obtain ⟨key, hk, e9⟩ := st_in_of (n := 256) (by decide) c2
    subst e9
    cases hd : sg_dr g t with
    | none => rw [spe_delete_2 ht hk hd]; exact (c_MM_delete_2 hR hG ht hk hd).mono (fun o w2 h => ⟨_, h.1, fun h0 => absurd (show (2 : Nat) = 0 from h0) (by decide), h.2⟩)
    | some x =>
      by_cases h8 : (st_pl (iv_wk x) key (iv_nw x)) < 8
      · rw [spe_delete_0 ht hk hd h8]; exact (c_MM_delete_0 hR hG ht hk hd h8).mono (fun o w2 h => ⟨_, h.1, fun _ => nI_l (by have := (st_wr_ok (v := (none : Option Int64)) (hG.2.2.2.2 t x ht hd) hk h8).2.2.2.2.1; omega), h.2⟩)
      · rw [spe_delete_3 ht hk hd h8]; exact (c_MM_delete_3 hR hG ht hk hd h8).mono (fun o w2 h => ⟨_, h.1, fun h0 => absurd (show (3 : Nat) = 0 from h0) (by decide), h.2⟩)
  · rw [(show sp_write g t key none = (1, 0, g) from if_neg h)]; exact (c_MM_delete_1 hR hG (Bool.eq_false_iff.mpr h)).mono (fun o w2 h => ⟨_, h.1, fun h0 => absurd (show (1 : Nat) = 0 from h0) (by decide), h.2⟩)
theorem so_part {g : st_G} (hG : sg_ok g) {t low high what : Int32} : sg_ok (sp_part g t low high what).2.2 := by
  by_cases h : (st_in t 16 && sp_pt low high what) = true
  · have h9 := h
    simp only [Bool.and_eq_true] at h9
    obtain ⟨c1, c2⟩ := h9
    obtain ⟨t, ht, e9⟩ := st_in_of (n := 16) (by decide) c1
    subst e9
    obtain ⟨low, high, q9, h1, h2, h3, e1, e2, e3⟩ := sp_pt_of c2
    subst e1 e2 e3
    cases hd : sg_dr g t with
    | none => rw [spe_part_2 ht h1 h2 h3 hd]; exact hG
    | some x =>
      by_cases h8 : iv_np x < 8
      · rw [spe_part_0 ht h1 h2 h3 hd h8]; exact so_dr hG (st_prt_ok (hG.2.2.2.2 t x ht hd) h1 h2 h8)
      · rw [spe_part_3 ht h1 h2 h3 hd h8]; exact hG
  · rw [(show sp_part g t low high what = (1, 0, g) from if_neg h)]; exact hG
set_option maxHeartbeats 1000000 in
theorem l_part {l : Launch} {b : Nat} {dC : Nat → ClassId} {dI : Nat → Nat → Nat} {dA : Nat → ClassId} {zs : Nat → Nat} {w : mh_w} (hl0 : l.stackTraces = false) {x0 : Nat} {g : st_G} (hR : rC dA zs w x0 g) (hG : sg_ok g) {o0 : Nat} {ov : Nat → Int64} (hov : w 90 0 = some (o0, .inl (dA 1, 1, .inr (.inl ov)))) {t low high what : Int32} : mh_Met l b dC dI dA zs y_LW_part (mh_rm 9 20 1000) [.ref x0, .int t, .int low, .int high, .int what, .ref o0] w (mh_V (some (.int (nI (sp_part g t low high what).1))) (lW dA zs w x0 o0 false (sp_part g t low high what))) := by
  by_cases h : (st_in t 16 && sp_pt low high what) = true
  · have h9 := h
    simp only [Bool.and_eq_true] at h9
    obtain ⟨c1, c2⟩ := h9
    obtain ⟨t, ht, e9⟩ := st_in_of (n := 16) (by decide) c1
    subst e9
    obtain ⟨low, high, q9, h1, h2, h3, e1, e2, e3⟩ := sp_pt_of c2
    subst e1 e2 e3
    cases hd : sg_dr g t with
    | none => rw [spe_part_2 ht h1 h2 h3 hd]; exact c_LW_part_2 hl0 hR hG hov ht h1 h2 h3 hd
    | some x =>
      by_cases h8 : iv_np x < 8
      · rw [spe_part_0 ht h1 h2 h3 hd h8]; exact c_LW_part_0 hR hG hov ht h1 h2 h3 hd h8
      · rw [spe_part_3 ht h1 h2 h3 hd h8]; exact c_LW_part_3 hl0 hR hG hov ht h1 h2 h3 hd h8
  · rw [(show sp_part g t low high what = (1, 0, g) from if_neg h)]; exact c_LW_part_1 hl0 hR hG hov (Bool.eq_false_iff.mpr h)
set_option maxHeartbeats 1000000 in
theorem r_part {l : Launch} {b : Nat} {dC : Nat → ClassId} {dI : Nat → Nat → Nat} {dA : Nat → ClassId} {zs : Nat → Nat} {w : mh_w} {m0 : Nat} {er : Int32} {g : st_G} (hR : rM dA w m0 er g) (hG : sg_ok g) {t low high what : Int32} : mh_Met l b dC dI dA zs y_MM_part (mh_rm 4 10 500) [.ref m0, .int t, .int low, .int high, .int what] w (mh_J (sp_part g t low high what) (lM dA w m0 (sp_part g t low high what))) := by
  by_cases h : (st_in t 16 && sp_pt low high what) = true
  · have h9 := h
    simp only [Bool.and_eq_true] at h9
    obtain ⟨c1, c2⟩ := h9
    obtain ⟨t, ht, e9⟩ := st_in_of (n := 16) (by decide) c1
    subst e9
    obtain ⟨low, high, q9, h1, h2, h3, e1, e2, e3⟩ := sp_pt_of c2
    subst e1 e2 e3
    cases hd : sg_dr g t with
    | none => rw [spe_part_2 ht h1 h2 h3 hd]; exact (c_MM_part_2 hR hG ht h1 h2 h3 hd).mono (fun o w2 h => ⟨_, h.1, fun h0 => absurd (show (2 : Nat) = 0 from h0) (by decide), h.2⟩)
    | some x =>
      by_cases h8 : iv_np x < 8
      · rw [spe_part_0 ht h1 h2 h3 hd h8]; exact (c_MM_part_0 hR hG ht h1 h2 h3 hd h8).mono (fun o w2 h => ⟨_, h.1, fun _ => rfl, h.2⟩)
      · rw [spe_part_3 ht h1 h2 h3 hd h8]; exact (c_MM_part_3 hR hG ht h1 h2 h3 hd h8).mono (fun o w2 h => ⟨_, h.1, fun h0 => absurd (show (3 : Nat) = 0 from h0) (by decide), h.2⟩)
  · rw [(show sp_part g t low high what = (1, 0, g) from if_neg h)]; exact (c_MM_part_1 hR hG (Bool.eq_false_iff.mpr h)).mono (fun o w2 h => ⟨_, h.1, fun h0 => absurd (show (1 : Nat) = 0 from h0) (by decide), h.2⟩)
theorem so_commit {g : st_G} (hG : sg_ok g) {t : Int32} : sg_ok (sp_commit g t).2.2 := by
  by_cases h : st_in t 16 = true
  · have h9 := h
    obtain ⟨t, ht, e9⟩ := st_in_of (n := 16) (by decide) h9
    subst e9
    cases hd : sg_dr g t with
    | none => rw [spe_commit_2 ht hd]; exact hG
    | some x =>
      by_cases h0 : iv_nw x = 0
      · rw [spe_commit_00 ht hd h0]; exact so_no hG
      · by_cases hn : sg_n g < 400
        · rw [spe_commit_0 ht hd h0 hn]; exact so_cm hG (hG.2.2.2.2 t x ht hd) hn
        · rw [spe_commit_3 ht hd h0 hn]; exact hG
  · rw [(show sp_commit g t = (1, 0, g) from if_neg h)]; exact hG
set_option maxHeartbeats 1000000 in
theorem l_commit {l : Launch} {b : Nat} {dC : Nat → ClassId} {dI : Nat → Nat → Nat} {dA : Nat → ClassId} {zs : Nat → Nat} {w : mh_w} (hl0 : l.stackTraces = false) {x0 : Nat} {g : st_G} (hR : rC dA zs w x0 g) (hG : sg_ok g) {o0 : Nat} {ov : Nat → Int64} (hov : w 90 0 = some (o0, .inl (dA 1, 1, .inr (.inl ov)))) {t : Int32} : mh_Met l b dC dI dA zs y_LW_commit (mh_rm 9 20 1000) [.ref x0, .int t, .ref o0] w (mh_V (some (.int (nI (sp_commit g t).1))) (lW dA zs w x0 o0 false (sp_commit g t))) := by
  by_cases h : st_in t 16 = true
  · have h9 := h
    obtain ⟨t, ht, e9⟩ := st_in_of (n := 16) (by decide) h9
    subst e9
    cases hd : sg_dr g t with
    | none => rw [spe_commit_2 ht hd]; exact c_LW_commit_2 hl0 hR hG hov ht hd
    | some x =>
      by_cases h0 : iv_nw x = 0
      · rw [spe_commit_00 ht hd h0]; exact c_LW_commit_00 hR hG hov ht hd h0
      · by_cases hn : sg_n g < 400
        · rw [spe_commit_0 ht hd h0 hn]; exact c_LW_commit_0 hR hG hov ht hd h0 hn
        · rw [spe_commit_3 ht hd h0 hn]; exact c_LW_commit_3 hl0 hR hG hov ht hd h0 hn
  · rw [(show sp_commit g t = (1, 0, g) from if_neg h)]; exact c_LW_commit_1 hl0 hR hG hov (Bool.eq_false_iff.mpr h)
set_option maxHeartbeats 1000000 in
theorem r_commit {l : Launch} {b : Nat} {dC : Nat → ClassId} {dI : Nat → Nat → Nat} {dA : Nat → ClassId} {zs : Nat → Nat} {w : mh_w} {m0 : Nat} {er : Int32} {g : st_G} (hR : rM dA w m0 er g) (hG : sg_ok g) {t : Int32} : mh_Met l b dC dI dA zs y_MM_commit (mh_rm 4 10 500) [.ref m0, .int t] w (mh_I (sp_commit g t) (lM dA w m0 (sp_commit g t))) := by
  by_cases h : st_in t 16 = true
  · have h9 := h
    obtain ⟨t, ht, e9⟩ := st_in_of (n := 16) (by decide) h9
    subst e9
    cases hd : sg_dr g t with
    | none => rw [spe_commit_2 ht hd]; exact (c_MM_commit_2 hR hG ht hd).mono (fun o w2 h => ⟨_, h.1, fun h0 => absurd (show (2 : Nat) = 0 from h0) (by decide), h.2⟩)
    | some x =>
      by_cases h0 : iv_nw x = 0
      · rw [spe_commit_00 ht hd h0]; exact (c_MM_commit_00 hR hG ht hd h0).mono (fun o w2 h => ⟨_, h.1, fun _ => mh_m1, h.2⟩)
      · by_cases hn : sg_n g < 400
        · rw [spe_commit_0 ht hd h0 hn]; exact (c_MM_commit_0 hR hG ht hd h0 hn).mono (fun o w2 h => ⟨_, h.1, fun _ => nI_l (by omega), h.2⟩)
        · rw [spe_commit_3 ht hd h0 hn]; exact (c_MM_commit_3 hR hG ht hd h0 hn).mono (fun o w2 h => ⟨_, h.1, fun h0 => absurd (show (3 : Nat) = 0 from h0) (by decide), h.2⟩)
  · rw [(show sp_commit g t = (1, 0, g) from if_neg h)]; exact (c_MM_commit_1 hR hG (Bool.eq_false_iff.mpr h)).mono (fun o w2 h => ⟨_, h.1, fun h0 => absurd (show (1 : Nat) = 0 from h0) (by decide), h.2⟩)
theorem so_abort {g : st_G} (hG : sg_ok g) {t : Int32} : sg_ok (sp_abort g t).2.2 := by
  by_cases h : st_in t 16 = true
  · have h9 := h
    obtain ⟨t, ht, e9⟩ := st_in_of (n := 16) (by decide) h9
    subst e9
    cases hd : sg_dr g t with
    | none => rw [spe_abort_2 ht hd]; exact hG
    | some x =>
      rw [spe_abort_0 ht hd]; exact so_no hG
  · rw [(show sp_abort g t = (1, 0, g) from if_neg h)]; exact hG
set_option maxHeartbeats 1000000 in
theorem l_abort {l : Launch} {b : Nat} {dC : Nat → ClassId} {dI : Nat → Nat → Nat} {dA : Nat → ClassId} {zs : Nat → Nat} {w : mh_w} (hl0 : l.stackTraces = false) {x0 : Nat} {g : st_G} (hR : rC dA zs w x0 g) (hG : sg_ok g) {o0 : Nat} {ov : Nat → Int64} (hov : w 90 0 = some (o0, .inl (dA 1, 1, .inr (.inl ov)))) {t : Int32} : mh_Met l b dC dI dA zs y_LW_abort (mh_rm 9 20 1000) [.ref x0, .int t] w (mh_V (some (.int (nI (sp_abort g t).1))) (lW dA zs w x0 o0 true (sp_abort g t))) := by
  by_cases h : st_in t 16 = true
  · have h9 := h
    obtain ⟨t, ht, e9⟩ := st_in_of (n := 16) (by decide) h9
    subst e9
    cases hd : sg_dr g t with
    | none => rw [spe_abort_2 ht hd]; exact c_LW_abort_2 hl0 hR hG hov ht hd
    | some x =>
      rw [spe_abort_0 ht hd]; exact c_LW_abort_0 hR hG hov ht hd
  · rw [(show sp_abort g t = (1, 0, g) from if_neg h)]; exact c_LW_abort_1 hl0 hR hG hov (Bool.eq_false_iff.mpr h)
set_option maxHeartbeats 1000000 in
theorem r_abort {l : Launch} {b : Nat} {dC : Nat → ClassId} {dI : Nat → Nat → Nat} {dA : Nat → ClassId} {zs : Nat → Nat} {w : mh_w} {m0 : Nat} {er : Int32} {g : st_G} (hR : rM dA w m0 er g) (hG : sg_ok g) {t : Int32} : mh_Met l b dC dI dA zs y_MM_abort (mh_rm 4 10 500) [.ref m0, .int t] w (mh_V none (lM dA w m0 (sp_abort g t))) := by
  by_cases h : st_in t 16 = true
  · have h9 := h
    obtain ⟨t, ht, e9⟩ := st_in_of (n := 16) (by decide) h9
    subst e9
    cases hd : sg_dr g t with
    | none => rw [spe_abort_2 ht hd]; exact c_MM_abort_2 hR hG ht hd
    | some x =>
      rw [spe_abort_0 ht hd]; exact c_MM_abort_0 hR hG ht hd
  · rw [(show sp_abort g t = (1, 0, g) from if_neg h)]; exact c_MM_abort_1 hR hG (Bool.eq_false_iff.mpr h)
theorem so_advance {g : st_G} (hG : sg_ok g) {u k : Int32} : sg_ok (sp_advance g u k).2.2 := by
  by_cases h : (st_in u 4 && st_in k 401) = true
  · have h9 := h
    simp only [Bool.and_eq_true] at h9
    obtain ⟨c1, c2⟩ := h9
    obtain ⟨u, hu, e9⟩ := st_in_of (n := 4) (by decide) c1
    subst e9
    obtain ⟨k9, hk9, e9⟩ := st_in_of (n := 401) (by decide) c2
    subst e9
    rw [spe_advance_0 hu hk9]; exact so_at hG (by have := hG.2.2.1 u hu; omega)
  · rw [(show sp_advance g u k = (1, 0, g) from if_neg h)]; exact hG
set_option maxHeartbeats 1000000 in
theorem l_advance {l : Launch} {b : Nat} {dC : Nat → ClassId} {dI : Nat → Nat → Nat} {dA : Nat → ClassId} {zs : Nat → Nat} {w : mh_w} (hl0 : l.stackTraces = false) {x0 : Nat} {g : st_G} (hR : rC dA zs w x0 g) (hG : sg_ok g) {o0 : Nat} {ov : Nat → Int64} (hov : w 90 0 = some (o0, .inl (dA 1, 1, .inr (.inl ov)))) {u k : Int32} : mh_Met l b dC dI dA zs y_LW_advance (mh_rm 9 20 1000) [.ref x0, .int u, .int k, .ref o0] w (mh_V (some (.int (nI (sp_advance g u k).1))) (lW dA zs w x0 o0 false (sp_advance g u k))) := by
  by_cases h : (st_in u 4 && st_in k 401) = true
  · have h9 := h
    simp only [Bool.and_eq_true] at h9
    obtain ⟨c1, c2⟩ := h9
    obtain ⟨u, hu, e9⟩ := st_in_of (n := 4) (by decide) c1
    subst e9
    obtain ⟨k9, hk9, e9⟩ := st_in_of (n := 401) (by decide) c2
    subst e9
    rw [spe_advance_0 hu hk9]; exact c_LW_advance_0 hR hG hov hu hk9
  · rw [(show sp_advance g u k = (1, 0, g) from if_neg h)]; exact c_LW_advance_1 hl0 hR hG hov (Bool.eq_false_iff.mpr h)
set_option maxHeartbeats 1000000 in
theorem r_advance {l : Launch} {b : Nat} {dC : Nat → ClassId} {dI : Nat → Nat → Nat} {dA : Nat → ClassId} {zs : Nat → Nat} {w : mh_w} {m0 : Nat} {er : Int32} {g : st_G} (hR : rM dA w m0 er g) (hG : sg_ok g) {u k : Int32} : mh_Met l b dC dI dA zs y_MM_advance (mh_rm 4 10 500) [.ref m0, .int u, .int k] w (mh_I (sp_advance g u k) (lM dA w m0 (sp_advance g u k))) := by
  by_cases h : (st_in u 4 && st_in k 401) = true
  · have h9 := h
    simp only [Bool.and_eq_true] at h9
    obtain ⟨c1, c2⟩ := h9
    obtain ⟨u, hu, e9⟩ := st_in_of (n := 4) (by decide) c1
    subst e9
    obtain ⟨k9, hk9, e9⟩ := st_in_of (n := 401) (by decide) c2
    subst e9
    rw [spe_advance_0 hu hk9]; exact (c_MM_advance_0 hR hG hu hk9).mono (fun o w2 h => ⟨_, h.1, fun _ => nI_l (by omega), h.2⟩)
  · rw [(show sp_advance g u k = (1, 0, g) from if_neg h)]; exact (c_MM_advance_1 hR hG (Bool.eq_false_iff.mpr h)).mono (fun o w2 h => ⟨_, h.1, fun h0 => absurd (show (1 : Nat) = 0 from h0) (by decide), h.2⟩)
theorem so_restart {g : st_G} (hG : sg_ok g) {u : Int32} : sg_ok (sp_restart g u).2.2 := by
  by_cases h : st_in u 4 = true
  · have h9 := h
    obtain ⟨u, hu, e9⟩ := st_in_of (n := 4) (by decide) h9
    subst e9
    by_cases h4 : sg_rs g < 4
    · rw [spe_restart_0 hu h4]; exact so_rs hG h4
    · rw [spe_restart_2 hu h4]; exact hG
  · rw [(show sp_restart g u = (1, 0, g) from if_neg h)]; exact hG
set_option maxHeartbeats 1000000 in
theorem l_restart {l : Launch} {b : Nat} {dC : Nat → ClassId} {dI : Nat → Nat → Nat} {dA : Nat → ClassId} {zs : Nat → Nat} {w : mh_w} (hl0 : l.stackTraces = false) {x0 : Nat} {g : st_G} (hR : rC dA zs w x0 g) (hG : sg_ok g) {o0 : Nat} {ov : Nat → Int64} (hov : w 90 0 = some (o0, .inl (dA 1, 1, .inr (.inl ov)))) {u : Int32} : mh_Met l b dC dI dA zs y_LW_restart (mh_rm 9 20 1000) [.ref x0, .int u] w (mh_V (some (.int (nI (sp_restart g u).1))) (lW dA zs w x0 o0 true (sp_restart g u))) := by
  by_cases h : st_in u 4 = true
  · have h9 := h
    obtain ⟨u, hu, e9⟩ := st_in_of (n := 4) (by decide) h9
    subst e9
    by_cases h4 : sg_rs g < 4
    · rw [spe_restart_0 hu h4]; exact c_LW_restart_0 hR hG hov hu h4
    · rw [spe_restart_2 hu h4]; exact c_LW_restart_2 hl0 hR hG hov hu h4
  · rw [(show sp_restart g u = (1, 0, g) from if_neg h)]; exact c_LW_restart_1 hl0 hR hG hov (Bool.eq_false_iff.mpr h)
set_option maxHeartbeats 1000000 in
theorem r_restart {l : Launch} {b : Nat} {dC : Nat → ClassId} {dI : Nat → Nat → Nat} {dA : Nat → ClassId} {zs : Nat → Nat} {w : mh_w} {m0 : Nat} {er : Int32} {g : st_G} (hR : rM dA w m0 er g) (hG : sg_ok g) {u : Int32} : mh_Met l b dC dI dA zs y_MM_restart (mh_rm 4 10 500) [.ref m0, .int u] w (mh_V none (lM dA w m0 (sp_restart g u))) := by
  by_cases h : st_in u 4 = true
  · have h9 := h
    obtain ⟨u, hu, e9⟩ := st_in_of (n := 4) (by decide) h9
    subst e9
    by_cases h4 : sg_rs g < 4
    · rw [spe_restart_0 hu h4]; exact c_MM_restart_0 hR hG hu h4
    · rw [spe_restart_2 hu h4]; exact c_MM_restart_2 hR hG hu h4
  · rw [(show sp_restart g u = (1, 0, g) from if_neg h)]; exact c_MM_restart_1 hR hG (Bool.eq_false_iff.mpr h)
theorem so_state {g : st_G} (hG : sg_ok g) {u key : Int32} : sg_ok (sp_state g u key).2.2 := by
  by_cases h : (st_in u 4 && st_in key 256) = true
  · have h9 := h
    simp only [Bool.and_eq_true] at h9
    obtain ⟨c1, c2⟩ := h9
    obtain ⟨u, hu, e9⟩ := st_in_of (n := 4) (by decide) c1
    subst e9
    obtain ⟨key, hk, e9⟩ := st_in_of (n := 256) (by decide) c2
    subst e9
    cases hv : (st_st (sg_lg g) (sg_at g u)) key with
    | none => rw [spe_state_2 hu hk hv]; exact hG
    | some v =>
      rw [spe_state_0 hu hk hv]; exact hG
  · rw [(show sp_state g u key = (1, 0, g) from if_neg h)]; exact hG
set_option maxHeartbeats 1000000 in
theorem l_state {l : Launch} {b : Nat} {dC : Nat → ClassId} {dI : Nat → Nat → Nat} {dA : Nat → ClassId} {zs : Nat → Nat} {w : mh_w} (hl0 : l.stackTraces = false) {x0 : Nat} {g : st_G} (hR : rC dA zs w x0 g) (hG : sg_ok g) {o0 : Nat} {ov : Nat → Int64} (hov : w 90 0 = some (o0, .inl (dA 1, 1, .inr (.inl ov)))) {u key : Int32} : mh_Met l b dC dI dA zs y_LW_state (mh_rm 9 20 1000) [.ref x0, .int u, .int key, .ref o0] w (mh_V (some (.int (nI (sp_state g u key).1))) (lW dA zs w x0 o0 false (sp_state g u key))) := by
  by_cases h : (st_in u 4 && st_in key 256) = true
  · have h9 := h
    simp only [Bool.and_eq_true] at h9
    obtain ⟨c1, c2⟩ := h9
    obtain ⟨u, hu, e9⟩ := st_in_of (n := 4) (by decide) c1
    subst e9
    obtain ⟨key, hk, e9⟩ := st_in_of (n := 256) (by decide) c2
    subst e9
    cases hv : (st_st (sg_lg g) (sg_at g u)) key with
    | none => rw [spe_state_2 hu hk hv]; exact c_LW_state_2 hl0 hR hG hov hu hk hv
    | some v =>
      rw [spe_state_0 hu hk hv]; exact c_LW_state_0 hR hG hov hu hk hv
  · rw [(show sp_state g u key = (1, 0, g) from if_neg h)]; exact c_LW_state_1 hl0 hR hG hov (Bool.eq_false_iff.mpr h)
set_option maxHeartbeats 1000000 in
theorem r_state {l : Launch} {b : Nat} {dC : Nat → ClassId} {dI : Nat → Nat → Nat} {dA : Nat → ClassId} {zs : Nat → Nat} {w : mh_w} {m0 : Nat} {er : Int32} {g : st_G} (hR : rM dA w m0 er g) (hG : sg_ok g) {u key : Int32} : mh_Met l b dC dI dA zs y_MM_state (mh_rm 4 10 500) [.ref m0, .int u, .int key] w (mh_J (sp_state g u key) (lM dA w m0 (sp_state g u key))) := by
  by_cases h : (st_in u 4 && st_in key 256) = true
  · have h9 := h
    simp only [Bool.and_eq_true] at h9
    obtain ⟨c1, c2⟩ := h9
    obtain ⟨u, hu, e9⟩ := st_in_of (n := 4) (by decide) c1
    subst e9
    obtain ⟨key, hk, e9⟩ := st_in_of (n := 256) (by decide) c2
    subst e9
    cases hv : (st_st (sg_lg g) (sg_at g u)) key with
    | none => rw [spe_state_2 hu hk hv]; exact (c_MM_state_2 hR hG hu hk hv).mono (fun o w2 h => ⟨_, h.1, fun h0 => absurd (show (2 : Nat) = 0 from h0) (by decide), h.2⟩)
    | some v =>
      rw [spe_state_0 hu hk hv]; exact (c_MM_state_0 hR hG hu hk hv).mono (fun o w2 h => ⟨_, h.1, fun _ => rfl, h.2⟩)
  · rw [(show sp_state g u key = (1, 0, g) from if_neg h)]; exact (c_MM_state_1 hR hG (Bool.eq_false_iff.mpr h)).mono (fun o w2 h => ⟨_, h.1, fun h0 => absurd (show (1 : Nat) = 0 from h0) (by decide), h.2⟩)
theorem so_look {g : st_G} (hG : sg_ok g) {u low high what : Int32} : sg_ok (sp_look g u low high what).2.2 := by
  by_cases h : (st_in u 4 && sp_pt low high what) = true
  · have h9 := h
    simp only [Bool.and_eq_true] at h9
    obtain ⟨c1, c2⟩ := h9
    obtain ⟨u, hu, e9⟩ := st_in_of (n := 4) (by decide) c1
    subst e9
    obtain ⟨low, high, q9, h1, h2, h3, e1, e2, e3⟩ := sp_pt_of c2
    subst e1 e2 e3
    rw [spe_look_0 hu h1 h2 h3]; exact hG
  · rw [(show sp_look g u low high what = (1, 0, g) from if_neg h)]; exact hG
set_option maxHeartbeats 1000000 in
theorem l_look {l : Launch} {b : Nat} {dC : Nat → ClassId} {dI : Nat → Nat → Nat} {dA : Nat → ClassId} {zs : Nat → Nat} {w : mh_w} (hl0 : l.stackTraces = false) {x0 : Nat} {g : st_G} (hR : rC dA zs w x0 g) (hG : sg_ok g) {o0 : Nat} {ov : Nat → Int64} (hov : w 90 0 = some (o0, .inl (dA 1, 1, .inr (.inl ov)))) {u low high what : Int32} : mh_Met l b dC dI dA zs y_LW_look (mh_rm 9 20 1000) [.ref x0, .int u, .int low, .int high, .int what, .ref o0] w (mh_V (some (.int (nI (sp_look g u low high what).1))) (lW dA zs w x0 o0 false (sp_look g u low high what))) := by
  by_cases h : (st_in u 4 && sp_pt low high what) = true
  · have h9 := h
    simp only [Bool.and_eq_true] at h9
    obtain ⟨c1, c2⟩ := h9
    obtain ⟨u, hu, e9⟩ := st_in_of (n := 4) (by decide) c1
    subst e9
    obtain ⟨low, high, q9, h1, h2, h3, e1, e2, e3⟩ := sp_pt_of c2
    subst e1 e2 e3
    rw [spe_look_0 hu h1 h2 h3]; exact c_LW_look_0 hR hG hov hu h1 h2 h3
  · rw [(show sp_look g u low high what = (1, 0, g) from if_neg h)]; exact c_LW_look_1 hl0 hR hG hov (Bool.eq_false_iff.mpr h)
set_option maxHeartbeats 1000000 in
theorem r_look {l : Launch} {b : Nat} {dC : Nat → ClassId} {dI : Nat → Nat → Nat} {dA : Nat → ClassId} {zs : Nat → Nat} {w : mh_w} {m0 : Nat} {er : Int32} {g : st_G} (hR : rM dA w m0 er g) (hG : sg_ok g) {u low high what : Int32} : mh_Met l b dC dI dA zs y_MM_look (mh_rm 4 10 500) [.ref m0, .int u, .int low, .int high, .int what] w (mh_J (sp_look g u low high what) (lM dA w m0 (sp_look g u low high what))) := by
  by_cases h : (st_in u 4 && sp_pt low high what) = true
  · have h9 := h
    simp only [Bool.and_eq_true] at h9
    obtain ⟨c1, c2⟩ := h9
    obtain ⟨u, hu, e9⟩ := st_in_of (n := 4) (by decide) c1
    subst e9
    obtain ⟨low, high, q9, h1, h2, h3, e1, e2, e3⟩ := sp_pt_of c2
    subst e1 e2 e3
    rw [spe_look_0 hu h1 h2 h3]; exact (c_MM_look_0 hR hG hu h1 h2 h3).mono (fun o w2 h => ⟨_, h.1, fun _ => rfl, h.2⟩)
  · rw [(show sp_look g u low high what = (1, 0, g) from if_neg h)]; exact (c_MM_look_1 hR hG (Bool.eq_false_iff.mpr h)).mono (fun o w2 h => ⟨_, h.1, fun h0 => absurd (show (1 : Nat) = 0 from h0) (by decide), h.2⟩)
theorem so_verdict {g : st_G} (hG : sg_ok g) {u k : Int32} : sg_ok (sp_verdict g u k).2.2 := by
  by_cases h : st_in u 4 = true
  · have h9 := h
    obtain ⟨u, hu, e9⟩ := st_in_of (n := 4) (by decide) h9
    subst e9
    by_cases hv1 : st_in k (sg_n g) = true
    · obtain ⟨j, hj, e9⟩ := st_in_of (n := sg_n g) (by have := hG.1; omega) hv1
      subst e9
      have hn4 := hG.1
      rw [spe_verdict_0 hu hj hn4]; exact hG
    · have hv := Bool.eq_false_iff.mpr hv1
      rw [spe_verdict_2 hu hv]; exact hG
  · rw [(show sp_verdict g u k = (1, 0, g) from if_neg h)]; exact hG
set_option maxHeartbeats 1000000 in
theorem l_verdict {l : Launch} {b : Nat} {dC : Nat → ClassId} {dI : Nat → Nat → Nat} {dA : Nat → ClassId} {zs : Nat → Nat} {w : mh_w} (hl0 : l.stackTraces = false) {x0 : Nat} {g : st_G} (hR : rC dA zs w x0 g) (hG : sg_ok g) {o0 : Nat} {ov : Nat → Int64} (hov : w 90 0 = some (o0, .inl (dA 1, 1, .inr (.inl ov)))) {u k : Int32} : mh_Met l b dC dI dA zs y_LW_verdict (mh_rm 9 20 1000) [.ref x0, .int u, .int k, .ref o0] w (mh_V (some (.int (nI (sp_verdict g u k).1))) (lW dA zs w x0 o0 false (sp_verdict g u k))) := by
  by_cases h : st_in u 4 = true
  · have h9 := h
    obtain ⟨u, hu, e9⟩ := st_in_of (n := 4) (by decide) h9
    subst e9
    by_cases hv1 : st_in k (sg_n g) = true
    · obtain ⟨j, hj, e9⟩ := st_in_of (n := sg_n g) (by have := hG.1; omega) hv1
      subst e9
      have hn4 := hG.1
      rw [spe_verdict_0 hu hj hn4]; exact c_LW_verdict_0 hR hG hov hu hj
    · have hv := Bool.eq_false_iff.mpr hv1
      rw [spe_verdict_2 hu hv]; exact c_LW_verdict_2 hl0 hR hG hov hu hv
  · rw [(show sp_verdict g u k = (1, 0, g) from if_neg h)]; exact c_LW_verdict_1 hl0 hR hG hov (Bool.eq_false_iff.mpr h)
set_option maxHeartbeats 1000000 in
theorem r_verdict {l : Launch} {b : Nat} {dC : Nat → ClassId} {dI : Nat → Nat → Nat} {dA : Nat → ClassId} {zs : Nat → Nat} {w : mh_w} {m0 : Nat} {er : Int32} {g : st_G} (hR : rM dA w m0 er g) (hG : sg_ok g) {u k : Int32} : mh_Met l b dC dI dA zs y_MM_verdict (mh_rm 4 10 500) [.ref m0, .int u, .int k] w (mh_I (sp_verdict g u k) (lM dA w m0 (sp_verdict g u k))) := by
  by_cases h : st_in u 4 = true
  · have h9 := h
    obtain ⟨u, hu, e9⟩ := st_in_of (n := 4) (by decide) h9
    subst e9
    by_cases hv1 : st_in k (sg_n g) = true
    · obtain ⟨j, hj, e9⟩ := st_in_of (n := sg_n g) (by have := hG.1; omega) hv1
      subst e9
      have hn4 := hG.1
      rw [spe_verdict_0 hu hj hn4]; exact (c_MM_verdict_0 hR hG hu hj).mono (fun o w2 h => ⟨_, h.1, fun _ => by split; (· rfl); split <;> rfl, h.2⟩)
    · have hv := Bool.eq_false_iff.mpr hv1
      rw [spe_verdict_2 hu hv]; exact (c_MM_verdict_2 hR hG hu hv).mono (fun o w2 h => ⟨_, h.1, fun h0 => absurd (show (2 : Nat) = 0 from h0) (by decide), h.2⟩)
  · rw [(show sp_verdict g u k = (1, 0, g) from if_neg h)]; exact (c_MM_verdict_1 hR hG (Bool.eq_false_iff.mpr h)).mono (fun o w2 h => ⟨_, h.1, fun h0 => absurd (show (1 : Nat) = 0 from h0) (by decide), h.2⟩)
theorem so_intention {g : st_G} (hG : sg_ok g) {k what : Int32} : sg_ok (sp_intention g k what).2.2 := by
  by_cases h : st_in what 6 = true
  · have h9 := h
    obtain ⟨q9, h3, e9⟩ := st_in_of (n := 6) (by decide) h9
    subst e9
    by_cases hv1 : st_in k (sg_n g) = true
    · obtain ⟨j, hj, e9⟩ := st_in_of (n := sg_n g) (by have := hG.1; omega) hv1
      subst e9
      have hn4 := hG.1
      rw [spe_intention_0 hj hn4 h3]; exact hG
    · have hv := Bool.eq_false_iff.mpr hv1
      rw [spe_intention_2 h3 hv]; exact hG
  · rw [(show sp_intention g k what = (1, 0, g) from if_neg h)]; exact hG
set_option maxHeartbeats 1000000 in
theorem l_intention {l : Launch} {b : Nat} {dC : Nat → ClassId} {dI : Nat → Nat → Nat} {dA : Nat → ClassId} {zs : Nat → Nat} {w : mh_w} (hl0 : l.stackTraces = false) {x0 : Nat} {g : st_G} (hR : rC dA zs w x0 g) (hG : sg_ok g) {o0 : Nat} {ov : Nat → Int64} (hov : w 90 0 = some (o0, .inl (dA 1, 1, .inr (.inl ov)))) {k what : Int32} : mh_Met l b dC dI dA zs y_LW_intention (mh_rm 9 20 1000) [.ref x0, .int k, .int what, .ref o0] w (mh_V (some (.int (nI (sp_intention g k what).1))) (lW dA zs w x0 o0 false (sp_intention g k what))) := by
  by_cases h : st_in what 6 = true
  · have h9 := h
    obtain ⟨q9, h3, e9⟩ := st_in_of (n := 6) (by decide) h9
    subst e9
    by_cases hv1 : st_in k (sg_n g) = true
    · obtain ⟨j, hj, e9⟩ := st_in_of (n := sg_n g) (by have := hG.1; omega) hv1
      subst e9
      have hn4 := hG.1
      rw [spe_intention_0 hj hn4 h3]; exact c_LW_intention_0 hR hG hov hj h3
    · have hv := Bool.eq_false_iff.mpr hv1
      rw [spe_intention_2 h3 hv]; exact c_LW_intention_2 hl0 hR hG hov h3 hv
  · rw [(show sp_intention g k what = (1, 0, g) from if_neg h)]; exact c_LW_intention_1 hl0 hR hG hov (Bool.eq_false_iff.mpr h)
set_option maxHeartbeats 1000000 in
theorem r_intention {l : Launch} {b : Nat} {dC : Nat → ClassId} {dI : Nat → Nat → Nat} {dA : Nat → ClassId} {zs : Nat → Nat} {w : mh_w} {m0 : Nat} {er : Int32} {g : st_G} (hR : rM dA w m0 er g) (hG : sg_ok g) {k what : Int32} : mh_Met l b dC dI dA zs y_MM_intention (mh_rm 4 10 500) [.ref m0, .int k, .int what] w (mh_I (sp_intention g k what) (lM dA w m0 (sp_intention g k what))) := by
  by_cases h : st_in what 6 = true
  · have h9 := h
    obtain ⟨q9, h3, e9⟩ := st_in_of (n := 6) (by decide) h9
    subst e9
    by_cases hv1 : st_in k (sg_n g) = true
    · obtain ⟨j, hj, e9⟩ := st_in_of (n := sg_n g) (by have := hG.1; omega) hv1
      subst e9
      have hn4 := hG.1
      rw [spe_intention_0 hj hn4 h3]; exact (c_MM_intention_0 hR hG hj h3).mono (fun o w2 h => ⟨_, h.1, fun _ => nI_l (sp_tell_lt (hG.2.2.2.1 j hj) (by have := hG.1; omega)), h.2⟩)
    · have hv := Bool.eq_false_iff.mpr hv1
      rw [spe_intention_2 h3 hv]; exact (c_MM_intention_2 hR hG h3 hv).mono (fun o w2 h => ⟨_, h.1, fun h0 => absurd (show (2 : Nat) = 0 from h0) (by decide), h.2⟩)
  · rw [(show sp_intention g k what = (1, 0, g) from if_neg h)]; exact (c_MM_intention_1 hR hG (Bool.eq_false_iff.mpr h)).mono (fun o w2 h => ⟨_, h.1, fun h0 => absurd (show (1 : Nat) = 0 from h0) (by decide), h.2⟩)
theorem so_count {g : st_G} (hG : sg_ok g) {what k j : Int32} : sg_ok (sp_count g what k j).2.2 := by
  by_cases h : st_in what 5 = true
  · have h9 := h
    obtain ⟨q9, h5, e9⟩ := st_in_of (n := 5) (by decide) h9
    subst e9
    have hq : q9 = 0 ∨ q9 = 1 ∨ (2 ≤ q9 ∧ q9 < 5) := by omega
    rcases hq with rfl | rfl | ⟨h3, -⟩
    · rw [spe_count_0]; exact hG
    · rw [spe_count_01]; exact hG
    · by_cases hv1 : st_in k 4 = true
      · obtain ⟨u, hu, e9⟩ := st_in_of (n := 4) (by decide) hv1
        subst e9
        have hq : q9 = 2 ∨ q9 = 3 ∨ q9 = 4 := by omega
        rcases hq with rfl | rfl | rfl
        · rw [spe_count_02 hu]; exact hG
        · rw [spe_count_03 hu]; exact hG
        · by_cases hv2 : st_in j 256 = true
          · obtain ⟨key, hk, e9⟩ := st_in_of (n := 256) (by decide) hv2
            subst e9
            rw [spe_count_04 hu hk]; exact hG
          · have hv := Bool.eq_false_iff.mpr hv2
            rw [spe_count_12 hu hv]; exact hG
      · have hv := Bool.eq_false_iff.mpr hv1
        rw [spe_count_11 h3 h5 hv]; exact hG
  · rw [(show sp_count g what k j = (1, 0, g) from if_neg h)]; exact hG
set_option maxHeartbeats 1000000 in
theorem l_count {l : Launch} {b : Nat} {dC : Nat → ClassId} {dI : Nat → Nat → Nat} {dA : Nat → ClassId} {zs : Nat → Nat} {w : mh_w} (hl0 : l.stackTraces = false) {x0 : Nat} {g : st_G} (hR : rC dA zs w x0 g) (hG : sg_ok g) {o0 : Nat} {ov : Nat → Int64} (hov : w 90 0 = some (o0, .inl (dA 1, 1, .inr (.inl ov)))) {what k j : Int32} : mh_Met l b dC dI dA zs y_LW_count (mh_rm 9 20 1000) [.ref x0, .int what, .int k, .int j, .ref o0] w (mh_V (some (.int (nI (sp_count g what k j).1))) (lW dA zs w x0 o0 false (sp_count g what k j))) := by
  by_cases h : st_in what 5 = true
  · have h9 := h
    obtain ⟨q9, h5, e9⟩ := st_in_of (n := 5) (by decide) h9
    subst e9
    have hq : q9 = 0 ∨ q9 = 1 ∨ (2 ≤ q9 ∧ q9 < 5) := by omega
    rcases hq with rfl | rfl | ⟨h3, -⟩
    · rw [spe_count_0]; exact c_LW_count_0 hR hG hov 
    · rw [spe_count_01]; exact c_LW_count_01 hR hG hov 
    · by_cases hv1 : st_in k 4 = true
      · obtain ⟨u, hu, e9⟩ := st_in_of (n := 4) (by decide) hv1
        subst e9
        have hq : q9 = 2 ∨ q9 = 3 ∨ q9 = 4 := by omega
        rcases hq with rfl | rfl | rfl
        · rw [spe_count_02 hu]; exact c_LW_count_02 hR hG hov hu
        · rw [spe_count_03 hu]; exact c_LW_count_03 hR hG hov hu
        · by_cases hv2 : st_in j 256 = true
          · obtain ⟨key, hk, e9⟩ := st_in_of (n := 256) (by decide) hv2
            subst e9
            rw [spe_count_04 hu hk]; exact c_LW_count_04 hR hG hov hu hk
          · have hv := Bool.eq_false_iff.mpr hv2
            rw [spe_count_12 hu hv]; exact c_LW_count_12 hl0 hR hG hov hu hv
      · have hv := Bool.eq_false_iff.mpr hv1
        rw [spe_count_11 h3 h5 hv]; exact c_LW_count_11 hl0 hR hG hov h3 h5 hv
  · rw [(show sp_count g what k j = (1, 0, g) from if_neg h)]; exact c_LW_count_1 hl0 hR hG hov (Bool.eq_false_iff.mpr h)
set_option maxHeartbeats 1000000 in
theorem r_count {l : Launch} {b : Nat} {dC : Nat → ClassId} {dI : Nat → Nat → Nat} {dA : Nat → ClassId} {zs : Nat → Nat} {w : mh_w} {m0 : Nat} {er : Int32} {g : st_G} (hR : rM dA w m0 er g) (hG : sg_ok g) {what k j : Int32} : mh_Met l b dC dI dA zs y_MM_count (mh_rm 4 10 500) [.ref m0, .int what, .int k, .int j] w (mh_I (sp_count g what k j) (lM dA w m0 (sp_count g what k j))) := by
  by_cases h : st_in what 5 = true
  · have h9 := h
    obtain ⟨q9, h5, e9⟩ := st_in_of (n := 5) (by decide) h9
    subst e9
    have hq : q9 = 0 ∨ q9 = 1 ∨ (2 ≤ q9 ∧ q9 < 5) := by omega
    rcases hq with rfl | rfl | ⟨h3, -⟩
    · rw [spe_count_0]; exact (c_MM_count_0 hR hG ).mono (fun o w2 h => ⟨_, h.1, fun _ => nI_l (by have := hG.1; omega), h.2⟩)
    · rw [spe_count_01]; exact (c_MM_count_01 hR hG ).mono (fun o w2 h => ⟨_, h.1, fun _ => nI_l (by have := pb_cnt_le (fun t => (sg_dr g t).isSome) 16; omega), h.2⟩)
    · by_cases hv1 : st_in k 4 = true
      · obtain ⟨u, hu, e9⟩ := st_in_of (n := 4) (by decide) hv1
        subst e9
        have hq : q9 = 2 ∨ q9 = 3 ∨ q9 = 4 := by omega
        rcases hq with rfl | rfl | rfl
        · rw [spe_count_02 hu]; exact (c_MM_count_02 hR hG hu).mono (fun o w2 h => ⟨_, h.1, fun _ => nI_l (by have := hG.1; have := hG.2.2.1 u hu; omega), h.2⟩)
        · rw [spe_count_03 hu]; exact (c_MM_count_03 hR hG hu).mono (fun o w2 h => ⟨_, h.1, fun _ => nI_l (by have := hG.1; have := hG.2.2.1 u hu; have := pb_cnt_le (fun i => iv_gd (sg_lg g i)) (sg_at g u); omega), h.2⟩)
        · by_cases hv2 : st_in j 256 = true
          · obtain ⟨key, hk, e9⟩ := st_in_of (n := 256) (by decide) hv2
            subst e9
            rw [spe_count_04 hu hk]; exact (c_MM_count_04 hR hG hu hk).mono (fun o w2 h => ⟨_, h.1, fun _ => rfl, h.2⟩)
          · have hv := Bool.eq_false_iff.mpr hv2
            rw [spe_count_12 hu hv]; exact (c_MM_count_12 hR hG hu hv).mono (fun o w2 h => ⟨_, h.1, fun h0 => absurd (show (1 : Nat) = 0 from h0) (by decide), h.2⟩)
      · have hv := Bool.eq_false_iff.mpr hv1
        rw [spe_count_11 h3 h5 hv]; exact (c_MM_count_11 hR hG h3 h5 hv).mono (fun o w2 h => ⟨_, h.1, fun h0 => absurd (show (1 : Nat) = 0 from h0) (by decide), h.2⟩)
  · rw [(show sp_count g what k j = (1, 0, g) from if_neg h)]; exact (c_MM_count_1 hR hG (Bool.eq_false_iff.mpr h)).mono (fun o w2 h => ⟨_, h.1, fun h0 => absurd (show (1 : Nat) = 0 from h0) (by decide), h.2⟩)
