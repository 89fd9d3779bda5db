/-- what stays the same all through a method's body -/
def mh_K0 (p : Program) (s : State) (m : MethodId) (args : Array Value) (c : Code) (own : String) (cc : ByteArray) (dC : Nat → ClassId) (dI : Nat → Nat → Nat) (dA : Nat → ClassId) : Prop :=
  p.tables.exec = Jvm.exec ∧ c.code = cc ∧ s.vm.findClass own = some m.cls ∧ (∀ x ∈ mh_TB, x.before args s = true) ∧ (∀ x ∈ mh_NW, va_Nw x s) ∧ va_K (dC, dI) classes (mh_tys dA) s
/-- a field that an instruction names: the class's number, the field's place -/
def mh_fl (own : String) (index ci j : Nat) : Prop := ∃ (C : String) (T : u_T) (N : Nat) (ref : String), classes[ci]? = some (C, T, N) ∧ j < N ∧ (∀ x ∈ u_ws C T N, x ∈ mh_TB) ∧
  (Cond.fieldLink own index ref (T j).2.1 (T j).2.2.1 ∈ mh_TB ∨ ∃ host, Cond.fieldLinkNest own index ref (T j).2.1 (T j).2.2.1 host ∈ mh_NW) ∧ ((T j).1 = ref ∨ Cond.sameField ref (T j).1 (T j).2.1 (T j).2.2.1 ∈ mh_TB)
/-- .. which may be written: its type, and that the class's fields have names of their own -/
def mh_fp (ci j : Nat) (fin : Bool) (ty : FieldType) : Prop := ∃ (C : String) (T : u_T) (N : Nat) (ty0 : Nat → FieldType), classes[ci]? = some (C, T, N) ∧ (∀ k, k < N → parseFieldDescriptor (T k).2.2.1 = some (ty0 k)) ∧
  (∀ a, a < N → ∀ b, b < N → a ≠ b → (T a).2.1 ≠ (T b).2.1) ∧ (T j).2.2.2 = fin ∧ parseFieldDescriptor (T j).2.2.1 = some ty
section MHR
variable {p : Program} {l : Launch} {e : Env} {R : Room} {s : State} {m : MethodId} {args : Array Value} {below : List Frame} {meth : Method} {c : Code} {H : Heap} {locs : List Loc} {cells slots : Nat} {Q : State → Prop}
variable {cc : ByteArray} {pc : Nat} {ls : Array Slot} {rest : List Value} {own : String} {b : Nat} {dC : Nat → ClassId} {dI : Nat → Nat → Nat} {dA : Nat → ClassId} {w : mh_w} {k i a : Nat}
theorem mh_same {ref : String} {T : u_T} {j : Nat} (hts : ∀ x ∈ mh_TB, x.before args s = true) (h : (T j).1 = ref ∨ Cond.sameField ref (T j).1 (T j).2.1 (T j).2.2.1 ∈ mh_TB) : ∀ x, s.fieldFound? (T j).1 (T j).2.1 (T j).2.2.1 = some x → s.fieldFound? ref (T j).2.1 (T j).2.2.1 = some x := by
  intro x hx
  rcases h with h | h
  · rw [← h]; exact hx
  · exact u_same (hts _ h) x hx
theorem mh_get (K0 : mh_K0 p s m args c own cc dC dI dA) (hX : mh_P (dC, dI) b w H) {ci : Nat} {fs : List Value} (h : w k i = some (a, .inr (ci, fs))) {index j : Nat} (F : mh_fl own index ci j) {v : Value} (hv : fs[j]? = some v) (hdg : decode cc pc = .ok (.getfield index, 3))
    (kk : W p l e R s m args below meth c H locs cells slots Q (F0 m (pc + 3) ls (v :: rest))) : W p l e R s m args below meth c H locs cells slots Q (F0 m pc ls (.ref a :: rest)) := by
  obtain ⟨hx, hb, hown, hts, hN, hK⟩ := K0
  obtain ⟨C, T, N, ref, hc, hj, hin, hl, hsm⟩ := F
  rcases hl with hl | ⟨host, hl⟩
  · exact va_get hx hb hts hin hown hK (hX.get h) 0 rfl hc j hj (hts _ hl) (mh_same hts hsm) hv hdg kk
  · exact va_getN hx hb hts hin hown hK (hX.get h) 0 rfl hc j hj (va_Nw.use rfl (hN _ hl)) (mh_same hts hsm) hv hdg kk
theorem mh_put (K0 : mh_K0 p s m args c own cc dC dI dA) (hX : mh_P (dC, dI) b w H) (hS : va_S (mh_A b) s.heap H locs) {ci : Nat} {fs : List Value} (h : w k i = some (a, .inr (ci, fs))) {index j : Nat} (F : mh_fl own index ci j) {ty : FieldType} (G : mh_fp ci j false ty) {v : Value} (hn : narrow ty v = v) (hfit : fits ty v = true) (hlen : j < fs.length) (hdg : decode cc pc = .ok (.putfield index, 3))
    (kk : ∀ (H1 : Heap) (locs1 : List Loc), mh_P (dC, dI) b (mh_set w k i (some (a, .inr (ci, fs.set j v)))) H1 → va_S (mh_A b) s.heap H1 locs1 → W p l e R s m args below meth c H1 locs1 cells slots Q (F0 m (pc + 3) ls rest)) : W p l e R s m args below meth c H locs cells slots Q (F0 m pc ls (v :: .ref a :: rest)) := by
  obtain ⟨hx, hb, hown, hts, hN, hK⟩ := K0
  obtain ⟨C, T, N, ref, hc, hj, hin, hl, hsm⟩ := F
  obtain ⟨C', T', N', ty0, hc', hty, hnm, hfin, hd⟩ := G
  cases Option.some.inj (hc.symm.trans hc')
  have hap := va_apart (own := own) hts hin ty0 hty hnm hK hc
  obtain ⟨r, h1, cell, q1, q2, q3, q4⟩ := hX.at h
  have hr : r = (C, T, N) := Option.some.inj (h1.symm.trans hc)
  subst hr
  obtain ⟨hSl, hfc, kC, hkC, hkind⟩ := hK.1 ci _ hc
  obtain ⟨cf, kf, fi, f, hi, hsl⟩ := hSl j hj
  have hlay := hts _ (hin _ (u_in_lay hj))
  unfold u_lay at hlay
  rw [if_neg (by rw [hfin]; decide)] at hlay
  have hst := (u_facts hfc hkC (u_lays hts hin hj) hi).1
  have h6 := u_store hfc hkC hkind hlay hi hd hn hfit
  have fin2 : ∀ H' : Heap, H'[a]? = some (cell.setSlot f.slot v) → H'.size = H.size → (∀ q, q ≠ a → H'[q]? = H[q]?) → W p l e R s m args below meth c H' (locs ++ [⟨a, f.slot⟩]) cells slots Q (F0 m (pc + 3) ls rest) := by
    intro H' e1 e2 e3
    rw [hsl] at e1 ⊢
    exact kk H' _ (hX.put h ⟨_, hc, t_OB.to (V := updV (vp_V fs) j v) ⟨_, e1, q2, q3, t_set q4 hap hj v⟩ (fun z _ => vp_updV_set hlen v z)⟩ e3) (hS.put e2 e3 (hX.le h))
  rcases hl with hl | ⟨host, hl⟩
  · exact W.putK hx hb (f := f) ⟨hown, hts _ hl, ⟨_, _, _, mh_same hts hsm _ hi⟩, hst⟩ (by rw [q2]; exact h6) q1 q3 (by rw [hsl]; exact k2_hasslot (q4 j hj)) rfl rfl hdg fin2
  · exact va_WputK hx hb (f := f) hown (va_Nw.use rfl (hN _ hl)) (mh_same hts hsm _ hi) hst (by rw [q2]; exact h6) q1 q3 (by rw [hsl]; exact k2_hasslot (q4 j hj)) rfl rfl hdg fin2
theorem mh_putF (K0 : mh_K0 p s m args c own cc dC dI dA) (hX : mh_P (dC, dI) b w H) (hS : va_S (mh_A b) s.heap H locs) {ci : Nat} {fs : List Value} (h : w k i = some (a, .inr (ci, fs))) {index j : Nat} (F : mh_fl own index ci j) {ty : FieldType} (G : mh_fp ci j true ty) (hin2 : meth.name = "<init>") (hdecl : ∀ (C : String) (T : u_T) (N : Nat), classes[ci]? = some (C, T, N) → (T j).1 = own) {v : Value} (hn : narrow ty v = v) (hfit : fits ty v = true) (hlen : j < fs.length) (hdg : decode cc pc = .ok (.putfield index, 3)) (hlk : ∀ (C : String) (T : u_T) (N : Nat), classes[ci]? = some (C, T, N) → Cond.fieldLink own index (T j).1 (T j).2.1 (T j).2.2.1 ∈ mh_TB)
    (kk : ∀ (H1 : Heap) (locs1 : List Loc), mh_P (dC, dI) b (mh_set w k i (some (a, .inr (ci, fs.set j v)))) H1 → va_S (mh_A b) s.heap H1 locs1 → W p l e R s m args below meth c H1 locs1 cells slots Q (F0 m (pc + 3) ls rest)) : W p l e R s m args below meth c H locs cells slots Q (F0 m pc ls (v :: .ref a :: rest)) := by
  obtain ⟨hx, hb, hown, hts, hN, hK⟩ := K0
  obtain ⟨C, T, N, ref, hc, hj, hin, hl, hsm⟩ := F
  obtain ⟨C', T', N', ty0, hc', hty, hnm, hfin, hd⟩ := G
  cases Option.some.inj (hc.symm.trans hc')
  have hdecl := hdecl C T N hc
  have hap := va_apart (own := own) hts hin ty0 hty hnm hK hc
  obtain ⟨r, h1, cell, q1, q2, q3, q4⟩ := hX.at h
  have hr : r = (C, T, N) := Option.some.inj (h1.symm.trans hc)
  subst hr
  obtain ⟨hSl, hfc, kC, hkC, hkind⟩ := hK.1 ci _ hc
  obtain ⟨cf, kf, fi, f, hi, hsl⟩ := hSl j hj
  have hlay := hts _ (hin _ (u_in_lay hj))
  unfold u_lay at hlay
  rw [if_pos hfin] at hlay
  have hst := (u_facts hfc hkC (u_lays hts hin hj) hi).1
  have hcf : m.cls = cf := by
    obtain ⟨_, _, c', _, _, _, -, -, hf', -, -, -, hown2, -⟩ := Cond.laysFinal_spec hlay
    have e1 : c' = cf := by have := hi.symm.trans hf'; simp at this; exact this.1.symm
    rw [hdecl] at hown2
    rw [← e1]; exact Option.some.inj (hown.symm.trans hown2)
  have h6 := u_fits hfc hkC hkind (Or.inr hlay) hi hd hn hfit
  refine W.putFinK hx hb hown (hts _ (hlk C T N hc)) hi hst hcf hin2 (by rw [q2]; exact h6) q1 q3 (by rw [hsl]; exact k2_hasslot (q4 j hj)) rfl rfl hdg fun H' e1 e2 e3 => ?_
  rw [hsl] at e1 ⊢
  exact kk H' _ (hX.put h ⟨_, hc, t_OB.to (V := updV (vp_V fs) j v) ⟨_, e1, q2, q3, t_set q4 hap hj v⟩ (fun z _ => vp_updV_set hlen v z)⟩ e3) (hS.put e2 e3 (hX.le h))
theorem mh_iald (K0 : mh_K0 p s m args c own cc dC dI dA) (hX : mh_P (dC, dI) b w H) {n : Nat} {f : Nat → Int32} (h : w k i = some (a, .inl (dA 0, n, .inl f))) {x : Int32} (hin : vp_in x n) (hdg : decode cc pc = .ok (.iaload, 1))
    (kk : W p l e R s m args below meth c H locs cells slots Q (F0 m (pc + 1) ls (.int (f x.toNatClampNeg) :: rest))) : W p l e R s m args below meth c H locs cells slots Q (F0 m pc ls (.int x :: .ref a :: rest)) :=
  va_iald K0.1 K0.2.1 K0.2.2.2.2.2 (hX.get h) 0 0 rfl rfl hin hdg kk
theorem mh_lald (K0 : mh_K0 p s m args c own cc dC dI dA) (hX : mh_P (dC, dI) b w H) {n : Nat} {f : Nat → Int64} (h : w k i = some (a, .inl (dA 1, n, .inr (.inl f)))) {x : Int32} (hin : vp_in x n) (hdg : decode cc pc = .ok (.laload, 1))
    (kk : W p l e R s m args below meth c H locs cells slots Q (F0 m (pc + 1) ls (.long (f x.toNatClampNeg) :: rest))) : W p l e R s m args below meth c H locs cells slots Q (F0 m pc ls (.int x :: .ref a :: rest)) :=
  va_lald K0.1 K0.2.1 K0.2.2.2.2.2 (hX.get h) 0 1 rfl rfl hin hdg kk
theorem mh_zald (K0 : mh_K0 p s m args c own cc dC dI dA) (hX : mh_P (dC, dI) b w H) {n : Nat} {f : Nat → Int32} (h : w k i = some (a, .inl (dA 2, n, .inl f))) {x : Int32} (hin : vp_in x n) (hdg : decode cc pc = .ok (.baload, 1))
    (kk : W p l e R s m args below meth c H locs cells slots Q (F0 m (pc + 1) ls (.int (f x.toNatClampNeg) :: rest))) : W p l e R s m args below meth c H locs cells slots Q (F0 m pc ls (.int x :: .ref a :: rest)) :=
  va_zald K0.1 K0.2.1 K0.2.2.2.2.2 (hX.get h) 0 2 rfl rfl hin hdg kk
/-- arrays of references: t is the place of the array's class in mh_tys -/
theorem mh_aald (t : Nat) {C : String} (ht : (mh_tys dA)[t]? = some (dA t, .object C)) (K0 : mh_K0 p s m args c own cc dC dI dA) (hX : mh_P (dC, dI) b w H) {n : Nat} {f : Nat → Option Nat} (h : w k i = some (a, .inl (dA t, n, .inr (.inr (.inr (.inr f)))))) {x : Int32} (hin : vp_in x n) {r : Option Nat} (hr : f x.toNatClampNeg = r) (hdg : decode cc pc = .ok (.aaload, 1))
    (kk : W p l e R s m args below meth c H locs cells slots Q (F0 m (pc + 1) ls (va_rf r :: rest))) : W p l e R s m args below meth c H locs cells slots Q (F0 m pc ls (.int x :: .ref a :: rest)) := by
  subst hr
  exact va_aldq K0.1 K0.2.1 K0.2.2.2.2.2 (hX.get h) 0 t rfl ht hin hdg kk
theorem mh_alen (t : Nat) {ty : FieldType} (ht : (mh_tys dA)[t]? = some (dA t, ty)) (K0 : mh_K0 p s m args c own cc dC dI dA) (hX : mh_P (dC, dI) b w H) {z : vp_A} (h : w k i = some (a, .inl (dA t, z))) (hdg : decode cc pc = .ok (.arraylength, 1))
    (kk : W p l e R s m args below meth c H locs cells slots Q (F0 m (pc + 1) ls (.int (nI z.1) :: rest))) : W p l e R s m args below meth c H locs cells slots Q (F0 m pc ls (.ref a :: rest)) :=
  va_alen K0.1 K0.2.1 K0.2.2.2.2.2 (hX.get h) 0 t rfl ht rfl hdg kk
theorem mh_iast (K0 : mh_K0 p s m args c own cc dC dI dA) (hX : mh_P (dC, dI) b w H) (hS : va_S (mh_A b) s.heap H locs) {n : Nat} {f : Nat → Int32} (h : w k i = some (a, .inl (dA 0, n, .inl f))) {x v : Int32} (hin : vp_in x n) (hdg : decode cc pc = .ok (.iastore, 1))
    (kk : ∀ (H1 : Heap) (locs1 : List Loc), mh_P (dC, dI) b (mh_set w k i (some (a, .inl (dA 0, n, .inl (upd f x.toNatClampNeg v))))) H1 → va_S (mh_A b) s.heap H1 locs1 → W p l e R s m args below meth c H1 locs1 cells slots Q (F0 m (pc + 1) ls rest)) : W p l e R s m args below meth c H locs cells slots Q (F0 m pc ls (.int v :: .int x :: .ref a :: rest)) := by
  refine W.iast K0.1 K0.2.1 (hX.at h) ((K0.2.2.2.2.2.2 0 _ rfl).1 n (fun j => .int (f j))) (fun q => by cases q) (by show ¬ (x < 0 ∨ (arrV _ _ _).slots.size ≤ _); rw [arrV_size]; exact hin) rfl rfl hdg fun H1 e z oq => ?_
  refine kk H1 _ (hX.put h ?_ oq) (hS.put z oq (hX.le h))
  show H1[a]? = some (vp_cell _ _)
  rw [e]
  rw [vp_cell_i, vp_cell_i, arrV_store]
  congr 2
  funext q
  by_cases hq : q = x.toNatClampNeg
  · subst hq
    simp [updV, upd]
  · simp [updV, upd, hq]
theorem mh_zast (K0 : mh_K0 p s m args c own cc dC dI dA) (hX : mh_P (dC, dI) b w H) (hS : va_S (mh_A b) s.heap H locs) {n : Nat} {f : Nat → Int32} (h : w k i = some (a, .inl (dA 2, n, .inl f))) {x v : Int32} (hv : vp_nar .boolean v = v) (hin : vp_in x n) (hdg : decode cc pc = .ok (.bastore, 1))
    (kk : ∀ (H1 : Heap) (locs1 : List Loc), mh_P (dC, dI) b (mh_set w k i (some (a, .inl (dA 2, n, .inl (upd f x.toNatClampNeg v))))) H1 → va_S (mh_A b) s.heap H1 locs1 → W p l e R s m args below meth c H1 locs1 cells slots Q (F0 m (pc + 1) ls rest)) : W p l e R s m args below meth c H locs cells slots Q (F0 m pc ls (.int v :: .int x :: .ref a :: rest)) := by
  refine W.zast K0.1 K0.2.1 (hX.at h) ((K0.2.2.2.2.2.2 2 _ rfl).1 n (fun j => .int (f j))) (fun q => by cases q) (by show ¬ (x < 0 ∨ (arrV _ _ _).slots.size ≤ _); rw [arrV_size]; exact hin) rfl rfl hdg fun H1 e z oq => ?_
  refine kk H1 _ (hX.put h ?_ oq) (hS.put z oq (hX.le h))
  show H1[a]? = some (vp_cell _ _)
  rw [e]
  rw [vp_cell_i, vp_cell_i, arrV_store]
  congr 2
  funext q
  by_cases hq : q = x.toNatClampNeg
  · subst hq
    have hv' : narrow .boolean (.int v) = .int v := by
      have := hv
      simp [vp_nar] at this
      revert this
      simp [narrow]
    simp [updV, upd, hv']
  · simp [updV, upd, hq]
theorem mh_last (K0 : mh_K0 p s m args c own cc dC dI dA) (hX : mh_P (dC, dI) b w H) (hS : va_S (mh_A b) s.heap H locs) {n : Nat} {f : Nat → Int64} (h : w k i = some (a, .inl (dA 1, n, .inr (.inl f)))) {x : Int32} {v : Int64} (hin : vp_in x n) (hdg : decode cc pc = .ok (.lastore, 1))
    (kk : ∀ (H1 : Heap) (locs1 : List Loc), mh_P (dC, dI) b (mh_set w k i (some (a, .inl (dA 1, n, .inr (.inl (vp_updL f x.toNatClampNeg v)))))) H1 → va_S (mh_A b) s.heap H1 locs1 → W p l e R s m args below meth c H1 locs1 cells slots Q (F0 m (pc + 1) ls rest)) : W p l e R s m args below meth c H locs cells slots Q (F0 m pc ls (.long v :: .int x :: .ref a :: rest)) := by
  refine W.last K0.1 K0.2.1 (hX.at h) ((K0.2.2.2.2.2.2 1 _ rfl).1 n (fun j => .long (f j))) (fun q => by cases q) (by show ¬ (x < 0 ∨ (arrV _ _ _).slots.size ≤ _); rw [arrV_size]; exact hin) rfl rfl hdg fun H1 e z oq => ?_
  refine kk H1 _ (hX.put h ?_ oq) (hS.put z oq (hX.le h))
  show H1[a]? = some (vp_cell _ _)
  rw [e]
  rw [vp_cell_l, vp_cell_l, arrV_store]
  congr 2
  funext q
  by_cases hq : q = x.toNatClampNeg
  · subst hq
    simp [updV, vp_updL]
  · simp [updV, vp_updL, hq]
theorem mh_aastN (t : Nat) {C : String} (ht : (mh_tys dA)[t]? = some (dA t, .object C)) (K0 : mh_K0 p s m args c own cc dC dI dA) (hX : mh_P (dC, dI) b w H) (hS : va_S (mh_A b) s.heap H locs) {n : Nat} {f : Nat → Option Nat} (h : w k i = some (a, .inl (dA t, n, .inr (.inr (.inr (.inr f)))))) {x : Int32} (hin : vp_in x n) (hdg : decode cc pc = .ok (.aastore, 1))
    (kk : ∀ (H1 : Heap) (locs1 : List Loc), mh_P (dC, dI) b (mh_set w k i (some (a, .inl (dA t, n, .inr (.inr (.inr (.inr (va_up f x.toNatClampNeg none)))))))) H1 → va_S (mh_A b) s.heap H1 locs1 → W p l e R s m args below meth c H1 locs1 cells slots Q (F0 m (pc + 1) ls rest)) : W p l e R s m args below meth c H locs cells slots Q (F0 m pc ls (.null :: .int x :: .ref a :: rest)) := by
  refine va_WaastN (C := C) K0.1 K0.2.1 (hX.at h) ((K0.2.2.2.2.2.2 t _ ht).1 n (fun j => va_rf (f j))) (fun h => by cases h) (by show ¬ (x < 0 ∨ (arrV _ _ _).slots.size ≤ _); rw [arrV_size]; exact hin) rfl rfl hdg fun H1 e z oq => ?_
  refine kk H1 _ (hX.put h ?_ oq) (hS.put z oq (hX.le h))
  show H1[a]? = some (vp_cell _ _)
  rw [e]
  rw [vp_cell_q, vp_cell_q, arrV_store]
  congr 2
  funext q
  by_cases hq : q = x.toNatClampNeg
  · subst hq
    simp [updV, va_up, va_rf]
  · simp [updV, va_up, hq]
theorem mh_aast (t : Nat) {k2 i2 v ci : Nat} {vs : List Value} {r : vw_C} (ht : (mh_tys dA)[t]? = some (dA t, .object r.1)) (hc : classes[ci]? = some r) (K0 : mh_K0 p s m args c own cc dC dI dA) (hX : mh_P (dC, dI) b w H) (hS : va_S (mh_A b) s.heap H locs) {n : Nat} {f : Nat → Option Nat} (h : w k i = some (a, .inl (dA t, n, .inr (.inr (.inr (.inr f)))))) (hv : w k2 i2 = some (v, .inr (ci, vs))) {x : Int32} (hin : vp_in x n) (hdg : decode cc pc = .ok (.aastore, 1))
    (kk : ∀ (H1 : Heap) (locs1 : List Loc), mh_P (dC, dI) b (mh_set w k i (some (a, .inl (dA t, n, .inr (.inr (.inr (.inr (va_up f x.toNatClampNeg (some v))))))))) H1 → va_S (mh_A b) s.heap H1 locs1 → W p l e R s m args below meth c H1 locs1 cells slots Q (F0 m (pc + 1) ls rest)) : W p l e R s m args below meth c H locs cells slots Q (F0 m pc ls (.ref v :: .int x :: .ref a :: rest)) := by
  have hlt : x.toNatClampNeg < n := Nat.not_le.mp fun q => hin (Or.inr q)
  have h0 : ¬ x < 0 := fun q => hin (Or.inl q)
  obtain ⟨r', hr', cellV, g1, g2, g3, -⟩ := hX.at hv
  have hcls := (K0.2.2.2.2.2.1 ci r hc).2
  obtain ⟨kA, comp, k1, k2, k3, -⟩ := (K0.2.2.2.2.2.2 t _ ht).2
  have hcomp : comp = dC ci := Option.some.inj (k3.symm.trans hcls.1)
  subst hcomp
  obtain ⟨kC, hkC, -⟩ := hcls.2
  refine W.aast K0.1 K0.2.1 (hX.at h) (fun q h => by cases h) (fun h => by cases h) k1 k2 rfl hkC ⟨h0, by show _ < (arrV _ _ _).slots.size; rw [arrV_size]; exact hlt⟩ g1 (fun q h => by rw [g3] at h; cases h) (by rw [g2]; exact hkC) (by rw [g2]; exact va_assign hcls) rfl rfl hdg fun H1 e z oq => ?_
  refine kk H1 _ (hX.put h ?_ oq) (hS.put z oq (hX.le h))
  show H1[a]? = some (vp_cell _ _)
  rw [e]
  rw [vp_cell_q, vp_cell_q, arrV_store]
  congr 2
  funext q
  by_cases hq : q = x.toNatClampNeg
  · subst hq
    simp [updV, va_up, va_rf]
  · simp [updV, va_up, hq]
/-- new: the cell gets the name (k, i) -/
theorem mh_new (k i : Nat) (K0 : mh_K0 p s m args c own cc dC dI dA) (hX : mh_P (dC, dI) b w H) (hS : va_S (mh_A b) s.heap H locs) (hb0 : b ≤ s.heap.size) {index ci N : Nat} {C : String} {T : u_T} (hc : classes[ci]? = some (C, T, N)) (hin : ∀ x ∈ u_ws C T N, x ∈ mh_TB) (ty : Nat → FieldType) (hty : ∀ k, k < N → parseFieldDescriptor (T k).2.2.1 = some (ty k)) {Ni : Nat}
    (hcl : Cond.classLink own index C ∈ mh_TB) (hinst : Cond.instantiable C Ni ∈ mh_TB) (hini : Cond.initialized C ∈ mh_TB) {fs : List Value} (hfs : ∀ j, j < N → defaultValue (ty j) = vp_V fs j) (hcells : cells + 1 ≤ R.cells) (hslots : slots + Ni ≤ R.slots) (hdg : decode cc pc = .ok (.new index, 3))
    (kk : ∀ (q : Nat) (H1 : Heap), mh_P (dC, dI) b (mh_set w k i (some (q, .inr (ci, fs)))) H1 → va_S (mh_A b) s.heap H1 locs → W p l e R s m args below meth c H1 locs (cells + 1) (slots + Ni) Q (F0 m (pc + 3) ls (.ref q :: rest))) : W p l e R s m args below meth c H locs cells slots Q (F0 m pc ls rest) := by
  obtain ⟨hx, hb, hown, hts, hN, hK⟩ := K0
  have hKn := hK.1 ci _ hc
  refine W.newcK hx hb hown (hts _ hcl) (hts _ hinst) (hts _ hini) rfl hdg hcells hslots hKn.2.1 rfl fun H1 kC hkC e1 z1 o1 => ?_
  exact kk H.size H1 (hX.new (Nat.le_trans hb0 hS.1) ⟨_, hc, (u_born ty hts hin hKn hkC e1 hty).to hfs⟩ o1) ⟨Nat.le_trans hS.1 (by omega), fun x h1 h2 => (o1 x (Nat.lt_of_lt_of_le h1 hS.1)).trans (hS.2.1 x h1 h2), hS.2.2⟩
theorem mh_newa (k i : Nat) (t : Nat) (K0 : mh_K0 p s m args c own cc dC dI dA) (hX : mh_P (dC, dI) b w H) (hS : va_S (mh_A b) s.heap H locs) (hb0 : b ≤ s.heap.size) {atype : ArrayType} {ty : FieldType} (hty : newarray.typeOf atype = ty) (ht : (mh_tys dA)[t]? = some (dA t, ty)) (harr : Cond.arrayClass ty ∈ mh_TB)
    {n : Int32} {N' : Nat} {a0 : vp_A} (ha : ∀ cA : ClassId, vp_cell cA a0 = arrV cA N' (fun _ => defaultValue ty)) (hn : ¬ n < 0) (hN' : n.toNatClampNeg = N') (hbytes : N' * componentBytes ty ≤ 536870912) (hcells : cells + 1 ≤ R.cells) (hslots : slots + N' ≤ R.slots) (hdg : decode cc pc = .ok (.newarray atype, 2))
    (kk : ∀ (q : Nat) (H1 : Heap), mh_P (dC, dI) b (mh_set w k i (some (q, .inl (dA t, a0)))) H1 → va_S (mh_A b) s.heap H1 locs → W p l e R s m args below meth c H1 locs (cells + 1) (slots + N') Q (F0 m (pc + 2) ls (.ref q :: rest))) : W p l e R s m args below meth c H locs cells slots Q (F0 m pc ls (.int n :: rest)) := by
  obtain ⟨hx, hb, hown, hts, hN, hK⟩ := K0
  subst hty
  refine va_newaK hx hb (hts _ harr) rfl hdg rfl hn hN' hbytes hcells hslots rfl fun H1 cA e1 z1 o1 hAr hNm => ?_
  have hcA : cA = dA t := by
    have h2 := (hK.2 t _ ht).2
    have h3 : s.vm.findClass ("[" ++ (newarray.typeOf atype).toString) = some (dA t) := by cases atype <;> exact h2
    exact Option.some.inj (hNm.symm.trans h3)
  subst hcA
  refine kk H.size H1 (hX.new (Nat.le_trans hb0 hS.1) ?_ o1) ⟨Nat.le_trans hS.1 (by omega), fun x h1 h2 => (o1 x (Nat.lt_of_lt_of_le h1 hS.1)).trans (hS.2.1 x h1 h2), hS.2.2⟩
  show H1[H.size]? = some (vp_cell _ _)
  rw [ha]
  exact e1
theorem mh_newq (k i : Nat) (t : Nat) (K0 : mh_K0 p s m args c own cc dC dI dA) (hX : mh_P (dC, dI) b w H) (hS : va_S (mh_A b) s.heap H locs) (hb0 : b ≤ s.heap.size) {C : String} {index : Nat} (ht : (mh_tys dA)[t]? = some (dA t, .object C)) (hclink : Cond.classLink own index C ∈ mh_TB) (hover : va_AO C s)
    {n : Int32} {N' : Nat} (hn : ¬ n < 0) (hN' : n.toNatClampNeg = N') (hbytes : N' * 4 ≤ 536870912) (hcells : cells + 1 ≤ R.cells) (hslots : slots + N' ≤ R.slots) (hdg : decode cc pc = .ok (.anewarray index, 3))
    (kk : ∀ (q : Nat) (H1 : Heap), mh_P (dC, dI) b (mh_set w k i (some (q, .inl (dA t, N', .inr (.inr (.inr (.inr (fun _ => none)))))))) H1 → va_S (mh_A b) s.heap H1 locs → W p l e R s m args below meth c H1 locs (cells + 1) (slots + N') Q (F0 m (pc + 3) ls (.ref q :: rest))) : W p l e R s m args below meth c H locs cells slots Q (F0 m pc ls (.int n :: rest)) := by
  obtain ⟨hx, hb, hown, hts, hN, hK⟩ := K0
  subst hN'
  refine W.anew hx hb hown (hts _ hclink) (va_AO.use hover) rfl hdg rfl hn hbytes hcells hslots fun cA kA comp f1 f2 f3 f4 => ?_
  have hcA : cA = dA t := by
    obtain ⟨_, _, _, _, _, h5⟩ := (hK.2 t _ ht).2
    exact Option.some.inj (f1.symm.trans h5)
  subst hcA
  generalize hH1 : H.push ({ cls := dA t, slots := Array.replicate n.toNatClampNeg .null, vm := .none } : Cell) = H1
  have z1 : H1.size = H.size + 1 := by rw [← hH1, Array.size_push]
  have e1 : H1[H.size]? = some (arrV (dA t) n.toNatClampNeg (fun _ => .null)) := by rw [← hH1, Array.getElem?_push_size, ← arrV_new]
  have o1 : ∀ q : Nat, q < H.size → H1[q]? = H[q]? := fun q hq => by rw [← hH1, Array.getElem?_push, if_neg (Nat.ne_of_lt hq)]
  refine kk H.size H1 (hX.new (Nat.le_trans hb0 hS.1) ?_ o1) ⟨Nat.le_trans hS.1 (by omega), fun x h1 h2 => (o1 x (Nat.lt_of_lt_of_le h1 hS.1)).trans (hS.2.1 x h1 h2), hS.2.2⟩
  show H1[H.size]? = some (vp_cell _ _)
  rw [vp_cell_q]
  exact e1
end MHR
