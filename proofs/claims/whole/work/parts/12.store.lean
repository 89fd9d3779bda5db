/-! THE STORE AS A VALUE: what both sides hold -/
/-- an intention: (server, snapshot, level); the keys read; its parts (how many, lows, highs); its writes (how many, keys, numbers); is it good -/
abbrev st_I : Type := (Nat × Nat × Nat) × (Nat → Bool) × (Nat × (Nat → Nat) × (Nat → Nat)) × (Nat × (Nat → Nat) × (Nat → Option Int64)) × Bool
abbrev iv_sv (x : st_I) : Nat := x.1.1
abbrev iv_sn (x : st_I) : Nat := x.1.2.1
abbrev iv_lv (x : st_I) : Nat := x.1.2.2
abbrev iv_rd (x : st_I) : Nat → Bool := x.2.1
abbrev iv_np (x : st_I) : Nat := x.2.2.1.1
abbrev iv_lo (x : st_I) : Nat → Nat := x.2.2.1.2.1
abbrev iv_hi (x : st_I) : Nat → Nat := x.2.2.1.2.2
abbrev iv_nw (x : st_I) : Nat := x.2.2.2.1.1
abbrev iv_wk (x : st_I) : Nat → Nat := x.2.2.2.1.2.1
abbrev iv_wv (x : st_I) : Nat → Option Int64 := x.2.2.2.1.2.2
abbrev iv_gd (x : st_I) : Bool := x.2.2.2.2
/-- the place of a key among the first n, or n -/
def st_pl (wk : Nat → Nat) (key : Nat) : Nat → Nat
  | 0 => 0
  | n + 1 => if st_pl wk key n < n then st_pl wk key n else if wk n = key then n else n + 1
theorem st_pl_le (wk : Nat → Nat) (key n : Nat) : st_pl wk key n ≤ n := by
  induction n with
  | zero => exact Nat.le_refl 0
  | succ n ih =>
    rw [st_pl]
    split
    · omega
    · split <;> omega
theorem st_pl_uniq {wk : Nat → Nat} {key i n : Nat} (h1 : i ≤ n) (h2 : ∀ j, j < i → wk j ≠ key) (h3 : i < n → wk i = key) : st_pl wk key n = i := by
  induction n generalizing i with
  | zero => rw [st_pl]; omega
  | succ n ih =>
    rw [st_pl]
    by_cases hi : i ≤ n
    · by_cases hl : i < n
      · rw [ih (by omega) h2 (fun _ => h3 (by omega)), if_pos hl]
      · have e : i = n := by omega
        subst e
        rw [ih (Nat.le_refl _) h2 (fun z => absurd z (by omega)), if_neg (by omega), if_pos (h3 (by omega))]
    · have e : i = n + 1 := by omega
      subst e
      rw [ih (Nat.le_refl n) (fun j hj => h2 j (by omega)) (fun z => absurd z (by omega)), if_neg (by omega), if_neg (h2 n (by omega))]
theorem st_pl_ne {wk : Nat → Nat} {key n j : Nat} (h : j < st_pl wk key n) : wk j ≠ key := by
  induction n with
  | zero => rw [st_pl] at h; omega
  | succ n ih =>
    rw [st_pl] at h
    have hle := st_pl_le wk key n
    split at h
    · exact ih h
    · rename_i h0
      have e : st_pl wk key n = n := by omega
      split at h
      · exact ih (by omega)
      · rename_i h1
        by_cases hj : j = n
        · subst hj; exact h1
        · exact ih (by omega)
theorem st_pl_at {wk : Nat → Nat} {key n : Nat} (h : st_pl wk key n < n) : wk (st_pl wk key n) = key := by
  induction n with
  | zero => omega
  | succ n ih =>
    rw [st_pl] at h ⊢
    split at h
    · rename_i h0; rw [if_pos h0]; exact ih h0
    · rename_i h0
      rw [if_neg h0]
      split at h
      · rename_i h1; rw [if_pos h1]; exact h1
      · omega
theorem st_pl_congr {wk wk' : Nat → Nat} {key n : Nat} (h : ∀ j, j < n → wk j = wk' j) : st_pl wk key n = st_pl wk' key n := by
  induction n with
  | zero => rfl
  | succ n ih => rw [st_pl, st_pl, ih (fun j hj => h j (by omega)), h n (by omega)]
def st_any (f : Nat → Bool) : Nat → Bool
  | 0 => false
  | n + 1 => st_any f n || f n
theorem st_any_iff {f : Nat → Bool} {n : Nat} : st_any f n = true ↔ ∃ i, i < n ∧ f i = true := by
  induction n with
  | zero => simp [st_any]
  | succ n ih =>
    rw [st_any, Bool.or_eq_true, ih]
    constructor
    · rintro (⟨i, h1, h2⟩ | h)
      · exact ⟨i, by omega, h2⟩
      · exact ⟨n, by omega, h⟩
    · rintro ⟨i, h1, h2⟩
      by_cases e : i = n
      · subst e; exact Or.inr h2
      · exact Or.inl ⟨i, by omega, h2⟩
theorem st_any_false {f : Nat → Bool} {n : Nat} (h : ∀ i, i < n → f i = false) : st_any f n = false := by
  cases e : st_any f n with
  | false => rfl
  | true =>
    obtain ⟨i, h1, h2⟩ := st_any_iff.mp e
    rw [h i h1] at h2; cases h2
theorem st_any_true {f : Nat → Bool} {n i : Nat} (hi : i < n) (h : f i = true) : st_any f n = true := st_any_iff.mpr ⟨i, hi, h⟩
/-- the first n writes, over a state -/
def st_aw (wk : Nat → Nat) (wv : Nat → Option Int64) (st : Nat → Option Int64) : Nat → Nat → Option Int64
  | 0 => st
  | n + 1 => va_up (st_aw wk wv st n) (wk n) (wv n)
/-- what has been written by the first m of the log -/
def st_st (log : Nat → st_I) : Nat → Nat → Option Int64
  | 0 => fun _ => none
  | m + 1 => if iv_gd (log m) = true then st_aw (iv_wk (log m)) (iv_wv (log m)) (st_st log m) (iv_nw (log m)) else st_st log m
/-- the last of the first m that is good and writes the key -/
def st_lw (log : Nat → st_I) (key : Nat) : Nat → Int32
  | 0 => -1
  | m + 1 => if iv_gd (log m) = true ∧ st_pl (iv_wk (log m)) key (iv_nw (log m)) < iv_nw (log m) then nI m else st_lw log key m
def st_rd (x : st_I) (key : Nat) : Bool := st_any (fun i => decide (iv_lo x i ≤ key) && decide (key ≤ iv_hi x i)) (iv_np x) || iv_rd x key
def st_ht (x y : st_I) : Bool := st_any (fun j => if iv_lv x = 0 then st_rd x (iv_wk y j) else decide (st_pl (iv_wk x) (iv_wk y j) (iv_nw x) < iv_nw x)) (iv_nw y)
/-- can it be done, behind the first n of the log -/
def st_ok (log : Nat → st_I) (x : st_I) (n : Nat) : Bool := !(st_any (fun k => decide (iv_sn x ≤ k) && (iv_gd (log k) && st_ht x (log k))) n)
/-- what is told of m keys from low on: how many, the sum, the least, the greatest -/
def tl_n (st : Nat → Option Int64) (low : Nat) (m : Nat) : Nat := pb_cnt (fun i => (st (low + i)).isSome) m
def tl_s (st : Nat → Option Int64) (low : Nat) : Nat → Int64
  | 0 => 0
  | m + 1 => match st (low + m) with
    | some v => tl_s st low m + v
    | none => tl_s st low m
def tl_l (st : Nat → Option Int64) (low : Nat) : Nat → Option Nat
  | 0 => none
  | m + 1 => match tl_l st low m with
    | some k => some k
    | none => if (st (low + m)).isSome = true then some (low + m) else none
def tl_g (st : Nat → Option Int64) (low : Nat) : Nat → Option Nat
  | 0 => none
  | m + 1 => if (st (low + m)).isSome = true then some (low + m) else tl_g st low m
/-- -1, or the number -/
def tl_i (o : Option Nat) : Int32 := match o with
  | some k => nI k
  | none => -1
def tl_a (st : Nat → Option Int64) (low m : Nat) (what : Int32) : Int64 :=
  if what = 0 then lN (tl_n st low m) else if what = 1 then tl_s st low m else if what = 2 then (tl_i (tl_l st low m)).toInt64 else (tl_i (tl_g st low m)).toInt64
/-- the whole: the log (how many, which), how far each server has gone, the drafts, how many restarts -/
abbrev st_G : Type := (Nat × (Nat → st_I)) × (Nat → Nat) × (Nat → Option st_I) × Nat
abbrev sg_n (g : st_G) : Nat := g.1.1
abbrev sg_lg (g : st_G) : Nat → st_I := g.1.2
abbrev sg_at (g : st_G) : Nat → Nat := g.2.1
abbrev sg_dr (g : st_G) : Nat → Option st_I := g.2.2.1
abbrev sg_rs (g : st_G) : Nat := g.2.2.2
/-- what holds of every intention in the store of n logged -/
def iv_ok (n : Nat) (x : st_I) : Prop := iv_sv x < 4 ∧ iv_sn x ≤ n ∧ iv_lv x < 2 ∧ iv_np x ≤ 8 ∧ iv_nw x ≤ 8 ∧ (∀ i, i < iv_np x → iv_lo x i ≤ iv_hi x i ∧ iv_hi x i < 256) ∧ (∀ i, i < iv_nw x → iv_wk x i < 256) ∧ ∀ i j, i < iv_nw x → j < iv_nw x → iv_wk x i = iv_wk x j → i = j
def sg_ok (g : st_G) : Prop := sg_n g ≤ 400 ∧ sg_rs g ≤ 4 ∧ (∀ s, s < 4 → sg_at g s ≤ sg_n g) ∧ (∀ k, k < sg_n g → iv_ok k (sg_lg g k)) ∧ ∀ t x, t < 16 → sg_dr g t = some x → iv_ok (sg_n g) x
/-- what a transaction sees -/
def st_vw (log : Nat → st_I) (x : st_I) : Nat → Option Int64 := st_aw (iv_wk x) (iv_wv x) (st_st log (iv_sn x)) (iv_nw x)
/-- a write: over the key's own, or behind the last -/
def st_wr (x : st_I) (key : Nat) (v : Option Int64) : st_I :=
  (x.1, x.2.1, x.2.2.1, (max (iv_nw x) (st_pl (iv_wk x) key (iv_nw x) + 1), va_up (iv_wk x) (st_pl (iv_wk x) key (iv_nw x)) key, va_up (iv_wv x) (st_pl (iv_wk x) key (iv_nw x)) v), x.2.2.2.2)
def st_new (s n lv : Nat) : st_I := ((s, n, lv), (fun _ => false), (0, (fun _ => 0), (fun _ => 0)), (0, (fun _ => 0), (fun _ => none)), false)
def st_get (x : st_I) (key : Nat) : st_I := if st_pl (iv_wk x) key (iv_nw x) < iv_nw x then x else (x.1, (fun j => decide (j = key) || iv_rd x j), x.2.2)
def st_prt (x : st_I) (low high : Nat) : st_I := (x.1, x.2.1, (iv_np x + 1, va_up (iv_lo x) (iv_np x) low, va_up (iv_hi x) (iv_np x) high), x.2.2.2)
theorem st_aw_eq {wk : Nat → Nat} {wv : Nat → Option Int64} {st : Nat → Option Int64} {n : Nat} (hd : ∀ i j, i < n → j < n → wk i = wk j → i = j) (key : Nat) : st_aw wk wv st n key = if st_pl wk key n < n then wv (st_pl wk key n) else st key := by
  induction n with
  | zero => rfl
  | succ n ih =>
    have ih := ih (fun i j hi hj => hd i j (by omega) (by omega))
    rw [st_aw]
    by_cases e : key = wk n
    · subst e
      rw [va_up_self]
      have : st_pl wk (wk n) (n + 1) = n := st_pl_uniq (by omega) (fun j hj z => by have := hd j n (by omega) (by omega) z; omega) (fun _ => rfl)
      rw [this, if_pos (by omega)]
    · rw [va_up_ne _ _ e, ih, st_pl]
      have hle := st_pl_le wk key n
      by_cases h : st_pl wk key n < n
      · rw [if_pos h, if_pos h, if_pos (by omega)]
      · rw [if_neg h, if_neg h, if_neg (show ¬ wk n = key from fun z => e z.symm), if_neg (Nat.lt_irrefl _)]
theorem st_aw_congr {wk wk' : Nat → Nat} {wv wv' : Nat → Option Int64} {st : Nat → Option Int64} {n : Nat} (h1 : ∀ i, i < n → wk i = wk' i) (h2 : ∀ i, i < n → wv i = wv' i) : st_aw wk wv st n = st_aw wk' wv' st n := by
  induction n with
  | zero => rfl
  | succ n ih => rw [st_aw, st_aw, ih (fun i hi => h1 i (by omega)) (fun i hi => h2 i (by omega)), h1 n (by omega), h2 n (by omega)]
theorem st_st_congr {log log' : Nat → st_I} {m : Nat} (h : ∀ k, k < m → log k = log' k) : st_st log m = st_st log' m := by
  induction m with
  | zero => rfl
  | succ m ih => rw [st_st, st_st, ih (fun k hk => h k (by omega)), h m (by omega)]
theorem st_lw_congr {log log' : Nat → st_I} {key m : Nat} (h : ∀ k, k < m → log k = log' k) : st_lw log key m = st_lw log' key m := by
  induction m with
  | zero => rfl
  | succ m ih => rw [st_lw, st_lw, ih (fun k hk => h k (by omega)), h m (by omega)]
theorem st_wr_pl {x : st_I} {key : Nat} {v : Option Int64} : st_pl (iv_wk (st_wr x key v)) key (iv_nw (st_wr x key v)) = st_pl (iv_wk x) key (iv_nw x) := by
  refine st_pl_uniq (Nat.le_trans (by omega) (Nat.le_max_right _ _)) (fun j hj => ?_) (fun _ => ?_)
  · show va_up (iv_wk x) _ key j ≠ key
    rw [va_up_ne _ _ (by omega)]
    exact st_pl_ne hj
  · exact va_up_self _ _ _
theorem st_wr_wk {x : st_I} {key : Nat} {v : Option Int64} (h : st_pl (iv_wk x) key (iv_nw x) < iv_nw x) (j : Nat) : iv_wk (st_wr x key v) j = iv_wk x j := by
  show va_up (iv_wk x) _ key j = _
  by_cases e : j = st_pl (iv_wk x) key (iv_nw x)
  · rw [e, va_up_self, st_pl_at h]
  · rw [va_up_ne _ _ e]
theorem st_wr_nw1 {x : st_I} {key : Nat} {v : Option Int64} (h : st_pl (iv_wk x) key (iv_nw x) < iv_nw x) : iv_nw (st_wr x key v) = iv_nw x := by
  show max _ _ = _
  omega
theorem st_wr_nw2 {x : st_I} {key : Nat} {v : Option Int64} (h : ¬ st_pl (iv_wk x) key (iv_nw x) < iv_nw x) : iv_nw (st_wr x key v) = iv_nw x + 1 := by
  have := st_pl_le (iv_wk x) key (iv_nw x)
  show max _ _ = _
  omega
theorem st_wr_ok {n : Nat} {x : st_I} {key : Nat} {v : Option Int64} (h : iv_ok n x) (hk : key < 256) (h8 : st_pl (iv_wk x) key (iv_nw x) < 8) : iv_ok n (st_wr x key v) := by
  obtain ⟨h1, h2, h3, h4, h5, h6, h7, h9⟩ := h
  have hle := st_pl_le (iv_wk x) key (iv_nw x)
  refine ⟨h1, h2, h3, h4, ?_, h6, ?_, ?_⟩
  · show max _ _ ≤ 8
    omega
  · by_cases hp : st_pl (iv_wk x) key (iv_nw x) < iv_nw x
    · intro i hi
      rw [st_wr_nw1 hp] at hi
      rw [st_wr_wk hp]
      exact h7 i hi
    · intro i hi
      rw [st_wr_nw2 hp] at hi
      show va_up (iv_wk x) _ key i < 256
      by_cases e : i = st_pl (iv_wk x) key (iv_nw x)
      · rw [e, va_up_self]; exact hk
      · rw [va_up_ne _ _ e]; exact h7 i (by omega)
  · by_cases hp : st_pl (iv_wk x) key (iv_nw x) < iv_nw x
    · intro i j hi hj e
      rw [st_wr_nw1 hp] at hi hj
      rw [st_wr_wk hp, st_wr_wk hp] at e
      exact h9 i j hi hj e
    · intro i j hi hj e
      rw [st_wr_nw2 hp] at hi hj
      have ep : st_pl (iv_wk x) key (iv_nw x) = iv_nw x := by omega
      have hn : ∀ z, z < iv_nw x → iv_wk x z ≠ key := fun z hz => st_pl_ne (n := iv_nw x) (by omega)
      have ha : ∀ z, z < iv_nw x → iv_wk (st_wr x key v) z = iv_wk x z := fun z hz => va_up_ne _ _ (by omega)
      have hb : iv_wk (st_wr x key v) (iv_nw x) = key := by
        show va_up (iv_wk x) (st_pl (iv_wk x) key (iv_nw x)) key (iv_nw x) = key
        rw [ep, va_up_self]
      by_cases ei : i = iv_nw x
      · by_cases ej : j = iv_nw x
        · rw [ei, ej]
        · rw [ei, hb, ha j (by omega)] at e
          exact absurd e.symm (hn j (by omega))
      · by_cases ej : j = iv_nw x
        · rw [ej, hb, ha i (by omega)] at e
          exact absurd e (hn i (by omega))
        · rw [ha i (by omega), ha j (by omega)] at e
          exact h9 i j (by omega) (by omega) e
theorem st_wr_vw {n : Nat} {x : st_I} {key : Nat} {v : Option Int64} (log : Nat → st_I) (h : iv_ok n x) (hk : key < 256) (h8 : st_pl (iv_wk x) key (iv_nw x) < 8) : st_vw log (st_wr x key v) = va_up (st_vw log x) key v := by
  have hd := h.2.2.2.2.2.2.2
  have hd' := (st_wr_ok (v := v) h hk h8).2.2.2.2.2.2.2
  have hle := st_pl_le (iv_wk x) key (iv_nw x)
  funext j
  unfold st_vw
  rw [st_aw_eq hd']
  by_cases e : j = key
  · subst e
    rw [va_up_self, st_wr_pl, if_pos]
    · exact va_up_self _ _ _
    · show _ < max _ _
      omega
  · rw [va_up_ne _ _ e, st_aw_eq hd]
    show (if st_pl (iv_wk (st_wr x key v)) j (iv_nw (st_wr x key v)) < iv_nw (st_wr x key v) then iv_wv (st_wr x key v) (st_pl (iv_wk (st_wr x key v)) j (iv_nw (st_wr x key v))) else st_st log (iv_sn x) j) = _
    by_cases hp : st_pl (iv_wk x) key (iv_nw x) < iv_nw x
    · rw [st_wr_nw1 hp, st_pl_congr (wk' := iv_wk x) (fun z _ => st_wr_wk hp z)]
      by_cases hq : st_pl (iv_wk x) j (iv_nw x) < iv_nw x
      · rw [if_pos hq, if_pos hq]
        refine va_up_ne _ _ (fun z => e ?_)
        have q1 := st_pl_at hq
        rw [z, st_pl_at hp] at q1
        exact q1.symm
      · rw [if_neg hq, if_neg hq]
    · have ep : st_pl (iv_wk x) key (iv_nw x) = iv_nw x := by omega
      rw [st_wr_nw2 hp, st_pl, st_pl_congr (wk := iv_wk (st_wr x key v)) (n := iv_nw x) (wk' := iv_wk x) (fun z hz => va_up_ne _ _ (by omega))]
      have hb : iv_wk (st_wr x key v) (iv_nw x) = key := by
        show va_up (iv_wk x) (st_pl (iv_wk x) key (iv_nw x)) key (iv_nw x) = key
        rw [ep, va_up_self]
      rw [hb, if_neg (show ¬ key = j from fun z => e z.symm)]
      have hle2 := st_pl_le (iv_wk x) j (iv_nw x)
      by_cases hq : st_pl (iv_wk x) j (iv_nw x) < iv_nw x
      · rw [if_pos hq, if_pos (by omega), if_pos hq]
        exact va_up_ne _ _ (by omega)
      · rw [if_neg hq, if_neg (by omega), if_neg hq]
theorem st_get_vw (log : Nat → st_I) (x : st_I) (key : Nat) : st_vw log (st_get x key) = st_vw log x := by
  unfold st_get
  split <;> rfl
theorem st_get_ok {n : Nat} {x : st_I} {key : Nat} (h : iv_ok n x) : iv_ok n (st_get x key) := by
  unfold st_get
  split <;> exact h
theorem st_prt_ok {n : Nat} {x : st_I} {low high : Nat} (h : iv_ok n x) (h1 : low ≤ high) (h2 : high < 256) (h3 : iv_np x < 8) : iv_ok n (st_prt x low high) := by
  obtain ⟨a1, a2, a3, a4, a5, a6, a7, a8⟩ := h
  refine ⟨a1, a2, a3, h3, a5, fun i hi => ?_, a7, a8⟩
  have hi : i < iv_np x + 1 := hi
  show va_up (iv_lo x) (iv_np x) low i ≤ va_up (iv_hi x) (iv_np x) high i ∧ va_up (iv_hi x) (iv_np x) high i < 256
  by_cases e : i = iv_np x
  · rw [e, va_up_self, va_up_self]; exact ⟨h1, h2⟩
  · rw [va_up_ne _ _ e, va_up_ne _ _ e]; exact a6 i (by omega)
theorem st_new_ok {s n lv m : Nat} (h1 : s < 4) (h2 : n ≤ m) (h3 : lv < 2) : iv_ok m (st_new s n lv) :=
  ⟨h1, h2, h3, Nat.zero_le 8, Nat.zero_le 8, fun i hi => absurd hi (Nat.not_lt_zero i), fun i hi => absurd hi (Nat.not_lt_zero i), fun i j hi => absurd hi (Nat.not_lt_zero i)⟩
theorem st_ok_congr {log log' : Nat → st_I} {x : st_I} {n : Nat} (h : ∀ k, k < n → log k = log' k) : st_ok log x n = st_ok log' x n := by
  unfold st_ok
  congr 1
  induction n with
  | zero => rfl
  | succ n ih => rw [st_any, st_any, ih (fun k hk => h k (by omega)), h n (by omega)]
/-! WHAT EACH CALL DOES: (code, answer, the store behind it); code 0: it returns; else which exception -/
def st_in (v : Int32) (n : Nat) : Bool := decide (¬ v < 0) && decide (v < nI n)
theorem st_in_of {v : Int32} {n : Nat} (hn : n < 2 ^ 31) (h : st_in v n = true) : ∃ j, j < n ∧ v = nI j := by
  simp only [st_in, Bool.and_eq_true, decide_eq_true_eq] at h
  rcases pk_ix v hn with h1 | h1 | h1
  · exact absurd h1 h.1
  · exact absurd h.2 (Int32.not_lt.mpr h1)
  · exact h1
theorem st_in_nI {j n : Nat} (h : j < n) (hn : n < 2 ^ 31) : st_in (nI j) n = true := by
  simp only [st_in, Bool.and_eq_true, decide_eq_true_eq]
  exact ⟨nI_pos (by omega), nI_lt h hn⟩
theorem st_in_no {v : Int32} {n : Nat} (h : v < 0 ∨ nI n ≤ v) : st_in v n = false := by
  cases e : st_in v n with
  | false => rfl
  | true =>
    simp only [st_in, Bool.and_eq_true, decide_eq_true_eq] at e
    rcases h with h | h
    · exact absurd h e.1
    · exact absurd e.2 (Int32.not_lt.mpr h)
abbrev sp_R : Type := Nat × Int64 × st_G
def sp_begin (g : st_G) (t s l : Int32) : sp_R :=
  if (st_in t 16 && (st_in s 4 && st_in l 2)) = true then
    match sg_dr g t.toNatClampNeg with
    | some _ => (2, 0, g)
    | none => (0, 0, (g.1, g.2.1, va_up (sg_dr g) t.toNatClampNeg (some (st_new s.toNatClampNeg (sg_at g s.toNatClampNeg) l.toNatClampNeg)), g.2.2.2))
  else (1, 0, g)
def sp_get (g : st_G) (t key : Int32) : sp_R :=
  if (st_in t 16 && st_in key 256) = true then
    match sg_dr g t.toNatClampNeg with
    | none => (2, 0, g)
    | some x => match st_vw (sg_lg g) x key.toNatClampNeg with
      | none => (3, 0, (g.1, g.2.1, va_up (sg_dr g) t.toNatClampNeg (some (st_get x key.toNatClampNeg)), g.2.2.2))
      | some v => (0, v, (g.1, g.2.1, va_up (sg_dr g) t.toNatClampNeg (some (st_get x key.toNatClampNeg)), g.2.2.2))
  else (1, 0, g)
def sp_write (g : st_G) (t key : Int32) (v : Option Int64) : sp_R :=
  if (st_in t 16 && st_in key 256) = true then
    match sg_dr g t.toNatClampNeg with
    | none => (2, 0, g)
    | some x => if st_pl (iv_wk x) key.toNatClampNeg (iv_nw x) < 8 then (0, lN (iv_nw (st_wr x key.toNatClampNeg v)), (g.1, g.2.1, va_up (sg_dr g) t.toNatClampNeg (some (st_wr x key.toNatClampNeg v)), g.2.2.2)) else (3, 0, g)
  else (1, 0, g)
/-- low, high, what of a part -/
def sp_pt (low high what : Int32) : Bool := st_in high 256 && (st_in low 256 && (decide (low ≤ high) && st_in what 4))
def sp_part (g : st_G) (t low high what : Int32) : sp_R :=
  if (st_in t 16 && sp_pt low high what) = true then
    match sg_dr g t.toNatClampNeg with
    | none => (2, 0, g)
    | some x => if iv_np x < 8 then (0, tl_a (st_vw (sg_lg g) x) low.toNatClampNeg (high.toNatClampNeg + 1 - low.toNatClampNeg) what, (g.1, g.2.1, va_up (sg_dr g) t.toNatClampNeg (some (st_prt x low.toNatClampNeg high.toNatClampNeg)), g.2.2.2)) else (3, 0, g)
  else (1, 0, g)
/-- it comes into the log -/
def st_lgd (g : st_G) (x : st_I) : st_I := (x.1, x.2.1, x.2.2.1, x.2.2.2.1, st_ok (sg_lg g) x (sg_n g))
def sp_commit (g : st_G) (t : Int32) : sp_R :=
  if st_in t 16 = true then
    match sg_dr g t.toNatClampNeg with
    | none => (2, 0, g)
    | some x => if iv_nw x = 0 then (0, -1, (g.1, g.2.1, va_up (sg_dr g) t.toNatClampNeg none, g.2.2.2))
      else if sg_n g < 400 then (0, lN (sg_n g), ((sg_n g + 1, va_up (sg_lg g) (sg_n g) (st_lgd g x)), g.2.1, va_up (sg_dr g) t.toNatClampNeg none, g.2.2.2)) else (3, 0, g)
  else (1, 0, g)
def sp_abort (g : st_G) (t : Int32) : sp_R :=
  if st_in t 16 = true then
    match sg_dr g t.toNatClampNeg with
    | none => (2, 0, g)
    | some _ => (0, 0, (g.1, g.2.1, va_up (sg_dr g) t.toNatClampNeg none, g.2.2.2))
  else (1, 0, g)
def sp_advance (g : st_G) (s n : Int32) : sp_R :=
  if (st_in s 4 && st_in n 401) = true then
    (0, lN (min n.toNatClampNeg (sg_n g - sg_at g s.toNatClampNeg)), (g.1, va_up (sg_at g) s.toNatClampNeg (sg_at g s.toNatClampNeg + min n.toNatClampNeg (sg_n g - sg_at g s.toNatClampNeg)), g.2.2))
  else (1, 0, g)
def sp_restart (g : st_G) (s : Int32) : sp_R :=
  if st_in s 4 = true then
    if sg_rs g < 4 then (0, 0, (g.1, va_up (sg_at g) s.toNatClampNeg 0, (fun t => match sg_dr g t with | some x => if iv_sv x = s.toNatClampNeg then none else some x | none => none), sg_rs g + 1)) else (2, 0, g)
  else (1, 0, g)
def sp_state (g : st_G) (s key : Int32) : sp_R :=
  if (st_in s 4 && st_in key 256) = true then
    match st_st (sg_lg g) (sg_at g s.toNatClampNeg) key.toNatClampNeg with
    | none => (2, 0, g)
    | some v => (0, v, g)
  else (1, 0, g)
def sp_look (g : st_G) (s low high what : Int32) : sp_R :=
  if (st_in s 4 && sp_pt low high what) = true then
    (0, tl_a (st_st (sg_lg g) (sg_at g s.toNatClampNeg)) low.toNatClampNeg (high.toNatClampNeg + 1 - low.toNatClampNeg) what, g)
  else (1, 0, g)
def sp_verdict (g : st_G) (s k : Int32) : sp_R :=
  if st_in s 4 = true then
    if st_in k (sg_n g) = true then (0, (if sg_at g s.toNatClampNeg ≤ k.toNatClampNeg then 0 else if iv_gd (sg_lg g k.toNatClampNeg) = true then 1 else 2), g) else (2, 0, g)
  else (1, 0, g)
def sp_tell (x : st_I) (what : Int32) : Nat :=
  if what = 0 then iv_sn x else if what = 1 then iv_lv x else if what = 2 then pb_cnt (iv_rd x) 256 else if what = 3 then iv_np x else if what = 4 then iv_nw x else iv_sv x
def sp_intention (g : st_G) (k what : Int32) : sp_R :=
  if st_in what 6 = true then
    if st_in k (sg_n g) = true then (0, lN (sp_tell (sg_lg g k.toNatClampNeg) what), g) else (2, 0, g)
  else (1, 0, g)
def sp_count (g : st_G) (what k j : Int32) : sp_R :=
  if st_in what 5 = true then
    if what = 0 then (0, lN (sg_n g), g)
    else if what = 1 then (0, lN (pb_cnt (fun t => (sg_dr g t).isSome) 16), g)
    else if st_in k 4 = true then
      if what = 2 then (0, lN (sg_at g k.toNatClampNeg), g)
      else if what = 3 then (0, lN (pb_cnt (fun i => iv_gd (sg_lg g i)) (sg_at g k.toNatClampNeg)), g)
      else if st_in j 256 = true then (0, (st_lw (sg_lg g) j.toNatClampNeg (sg_at g k.toNatClampNeg)).toInt64, g)
      else (1, 0, g)
    else (1, 0, g)
  else (1, 0, g)
def st_G0 : st_G := ((0, fun _ => st_new 0 0 0), (fun _ => 0), (fun _ => none), 0)
