/-! ROWS FOR WALKS: numbers as nI n, truth values as mh_b, calls that return or throw -/
def mh_b (x : Bool) : Int32 := match x with | true => 1 | false => 0
theorem mh_b_eq0 {x : Bool} : mh_b x = 0 ↔ x = false := by cases x <;> decide
theorem mh_b_ne0 {x : Bool} : ¬ mh_b x = 0 ↔ x = true := by cases x <;> decide
theorem mh_b_nar (x : Bool) : narrow .boolean (.int (mh_b x)) = .int (mh_b x) := by cases x <;> rfl
theorem mh_b_fit (x : Bool) : fits .boolean (.int (mh_b x)) = true := by cases x <;> rfl
theorem mh_b_vn (x : Bool) : vp_nar .boolean (mh_b x) = mh_b x := by cases x <;> rfl
theorem mh_inc (a : Nat) : nI a + Int32.ofInt 1 = nI (a + 1) := (nI_1 a)
theorem mh_dec (x : Int32) : x + Int32.ofInt (-1) = x - 1 := (Int32.sub_eq_add_neg x 1).symm
abbrev mh_V (v : Option Value) (Φ : mh_w → Prop) : Outcome → mh_w → Prop := fun o w' => o = .returned v ∧ Φ w'
abbrev mh_T (ci : Nat) (Φ : mh_w → Prop) : Outcome → mh_w → Prop := fun o w' => ∃ q : Nat, o = .threw q ∧ w' 99 0 = some (q, .inr (ci, [])) ∧ Φ w'
theorem mh_kp {w : mh_w} {k i k' i' : Nat} {q r : Option (Nat × va_E)} (h : w k' i' = r) (hne : ¬ (k' = k ∧ i' = i)) : mh_set w k i q k' i' = r := (mh_set_ne w k i q hne).trans h
theorem mh_self {D : va_G} {b : Nat} {w : mh_w} {k i : Nat} {q : Option (Nat × va_E)} {H : Heap} (_ : mh_P D b (mh_set w k i q) H) : mh_set w k i q k i = q := mh_set_eq w k i q
theorem mh_mmax {x y : Nat} (hx : x < 2 ^ 31) (hy : y < 2 ^ 31) : (if nI x < nI y then nI y else nI x) = nI (max x y) := by
  by_cases h : x < y
  · rw [if_pos ((nI_ltI hx hy).mpr h), show max x y = y by omega]
  · rw [if_neg (fun q => h ((nI_ltI hx hy).mp q)), show max x y = x by omega]
theorem mh_mmin {x y : Nat} (hx : x < 2 ^ 31) (hy : y < 2 ^ 31) : (if nI y < nI x then nI y else nI x) = nI (min x y) := by
  by_cases h : y < x
  · rw [if_pos ((nI_ltI hy hx).mpr h), show min x y = y by omega]
  · rw [if_neg (fun q => h ((nI_ltI hy hx).mp q)), show min x y = x by omega]
section MHN
variable {p : Program} {l : Launch} {e : Env} {R : Room} {s : State} {m : MethodId} {args : Array Value} {below : List Frame} {meth : Method} {c : Code} {H : Heap} {locs : List Loc} {cells slots : Nat} {Q : State → Prop}
variable {cc : ByteArray} {pc : Nat} {ls : Array Slot} {rest : List Value} {own : String} {b : Nat} {dC : Nat → ClassId} {dI : Nat → Nat → Nat} {dA : Nat → ClassId} {zs : Nat → Nat} {w w0 : mh_w} {k i a : Nat}
theorem mh_addN (hx : p.tables.exec = Jvm.exec) (hb : c.code = cc) {x y : Nat} (hdg : decode cc pc = .ok (.iadd, 1)) (kk : W p l e R s m args below meth c H locs cells slots Q (F0 m (pc + 1) ls (.int (nI (x + y)) :: rest))) : W p l e R s m args below meth c H locs cells slots Q (F0 m pc ls (.int (nI y) :: .int (nI x) :: rest)) :=
  lv_iadd hx hb hdg (by rw [nI_add]; exact kk)
theorem mh_subN (hx : p.tables.exec = Jvm.exec) (hb : c.code = cc) {x y : Nat} (h : y ≤ x) (hdg : decode cc pc = .ok (.isub, 1)) (kk : W p l e R s m args below meth c H locs cells slots Q (F0 m (pc + 1) ls (.int (nI (x - y)) :: rest))) : W p l e R s m args below meth c H locs cells slots Q (F0 m pc ls (.int (nI y) :: .int (nI x) :: rest)) :=
  lv_isub hx hb hdg (by rw [pk_sub h]; exact kk)
theorem mh_divN (hx : p.tables.exec = Jvm.exec) (hb : c.code = cc) {x y : Nat} (h : x < 2 ^ 31) (h0 : 0 < y) (h2 : y < 2 ^ 31) (hdg : decode cc pc = .ok (.idiv, 1)) (kk : W p l e R s m args below meth c H locs cells slots Q (F0 m (pc + 1) ls (.int (nI (x / y)) :: rest))) : W p l e R s m args below meth c H locs cells slots Q (F0 m pc ls (.int (nI y) :: .int (nI x) :: rest)) :=
  lv_idiv hx hb hdg (nI_ne0 h0 h2) (by rw [pk_div h h0 h2]; exact kk)
theorem mh_remN (hx : p.tables.exec = Jvm.exec) (hb : c.code = cc) {x y : Nat} (h : x < 2 ^ 31) (h0 : 0 < y) (h2 : y < 2 ^ 31) (hdg : decode cc pc = .ok (.irem, 1)) (kk : W p l e R s m args below meth c H locs cells slots Q (F0 m (pc + 1) ls (.int (nI (x % y)) :: rest))) : W p l e R s m args below meth c H locs cells slots Q (F0 m pc ls (.int (nI y) :: .int (nI x) :: rest)) :=
  lv_irem hx hb hdg (nI_ne0 h0 h2) (by rw [pk_rem h h0 h2]; exact kk)
theorem mh_ialdN (K0 : mh_K0 p s m args c own cc dC dI dA) (hX : mh_P (dC, dI) b w H) {n : Nat} {f : Nat → Int32} (h : w k i = some (a, .inl (dA 0, n, .inl f))) {j : Nat} (hj : j < n) (hn : n < 2 ^ 31) (hdg : decode cc pc = .ok (.iaload, 1))
    (kk : W p l e R s m args below meth c H locs cells slots Q (F0 m (pc + 1) ls (.int (f j) :: rest))) : W p l e R s m args below meth c H locs cells slots Q (F0 m pc ls (.int (nI j) :: .ref a :: rest)) :=
  mh_iald K0 hX h (vp_in_nI hj hn) hdg (by rw [nI_clamp (by omega)]; exact kk)
theorem mh_laldN (K0 : mh_K0 p s m args c own cc dC dI dA) (hX : mh_P (dC, dI) b w H) {n : Nat} {f : Nat → Int64} (h : w k i = some (a, .inl (dA 1, n, .inr (.inl f)))) {j : Nat} (hj : j < n) (hn : n < 2 ^ 31) (hdg : decode cc pc = .ok (.laload, 1))
    (kk : W p l e R s m args below meth c H locs cells slots Q (F0 m (pc + 1) ls (.long (f j) :: rest))) : W p l e R s m args below meth c H locs cells slots Q (F0 m pc ls (.int (nI j) :: .ref a :: rest)) :=
  mh_lald K0 hX h (vp_in_nI hj hn) hdg (by rw [nI_clamp (by omega)]; exact kk)
theorem mh_zaldN (K0 : mh_K0 p s m args c own cc dC dI dA) (hX : mh_P (dC, dI) b w H) {n : Nat} {f : Nat → Int32} (h : w k i = some (a, .inl (dA 2, n, .inl f))) {j : Nat} (hj : j < n) (hn : n < 2 ^ 31) (hdg : decode cc pc = .ok (.baload, 1))
    (kk : W p l e R s m args below meth c H locs cells slots Q (F0 m (pc + 1) ls (.int (f j) :: rest))) : W p l e R s m args below meth c H locs cells slots Q (F0 m pc ls (.int (nI j) :: .ref a :: rest)) :=
  mh_zald K0 hX h (vp_in_nI hj hn) hdg (by rw [nI_clamp (by omega)]; exact kk)
theorem mh_aaldN (t : Nat) {C : String} (ht : (mh_tys dA)[t]? = some (dA t, .object C)) (K0 : mh_K0 p s m args c own cc dC dI dA) (hX : mh_P (dC, dI) b w H) {n : Nat} {f : Nat → Option Nat} (h : w k i = some (a, .inl (dA t, n, .inr (.inr (.inr (.inr f)))))) {j : Nat} (hj : j < n) (hn : n < 2 ^ 31) {r : Option Nat} (hr : f j = r) (hdg : decode cc pc = .ok (.aaload, 1))
    (kk : W p l e R s m args below meth c H locs cells slots Q (F0 m (pc + 1) ls (va_rf r :: rest))) : W p l e R s m args below meth c H locs cells slots Q (F0 m pc ls (.int (nI j) :: .ref a :: rest)) :=
  mh_aald t ht K0 hX h (vp_in_nI hj hn) (by rw [nI_clamp (by omega)]; exact hr) hdg kk
theorem mh_iastN (K0 : mh_K0 p s m args c own cc dC dI dA) (hX : mh_P (dC, dI) b w H) (hS : va_S (mh_A b) s.heap H locs) {n : Nat} {f : Nat → Int32} (h : w k i = some (a, .inl (dA 0, n, .inl f))) {j : Nat} {v : Int32} (hj : j < n) (hn : n < 2 ^ 31) (hdg : decode cc pc = .ok (.iastore, 1))
    (kk : ∀ (H1 : Heap) (locs1 : List Loc), mh_P (dC, dI) b (mh_set w k i (some (a, .inl (dA 0, n, .inl (upd f j v))))) H1 → va_S (mh_A b) s.heap H1 locs1 → W p l e R s m args below meth c H1 locs1 cells slots Q (F0 m (pc + 1) ls rest)) : W p l e R s m args below meth c H locs cells slots Q (F0 m pc ls (.int v :: .int (nI j) :: .ref a :: rest)) :=
  mh_iast K0 hX hS h (vp_in_nI hj hn) hdg (by rw [nI_clamp (by omega)]; exact kk)
theorem mh_zastN (K0 : mh_K0 p s m args c own cc dC dI dA) (hX : mh_P (dC, dI) b w H) (hS : va_S (mh_A b) s.heap H locs) {n : Nat} {f : Nat → Int32} (h : w k i = some (a, .inl (dA 2, n, .inl f))) {j : Nat} {v : Int32} (hv : vp_nar .boolean v = v) (hj : j < n) (hn : n < 2 ^ 31) (hdg : decode cc pc = .ok (.bastore, 1))
    (kk : ∀ (H1 : Heap) (locs1 : List Loc), mh_P (dC, dI) b (mh_set w k i (some (a, .inl (dA 2, n, .inl (upd f j v))))) H1 → va_S (mh_A b) s.heap H1 locs1 → W p l e R s m args below meth c H1 locs1 cells slots Q (F0 m (pc + 1) ls rest)) : W p l e R s m args below meth c H locs cells slots Q (F0 m pc ls (.int v :: .int (nI j) :: .ref a :: rest)) :=
  mh_zast K0 hX hS h hv (vp_in_nI hj hn) hdg (by rw [nI_clamp (by omega)]; exact kk)
theorem mh_lastN (K0 : mh_K0 p s m args c own cc dC dI dA) (hX : mh_P (dC, dI) b w H) (hS : va_S (mh_A b) s.heap H locs) {n : Nat} {f : Nat → Int64} (h : w k i = some (a, .inl (dA 1, n, .inr (.inl f)))) {j : Nat} {v : Int64} (hj : j < n) (hn : n < 2 ^ 31) (hdg : decode cc pc = .ok (.lastore, 1))
    (kk : ∀ (H1 : Heap) (locs1 : List Loc), mh_P (dC, dI) b (mh_set w k i (some (a, .inl (dA 1, n, .inr (.inl (vp_updL f j v)))))) H1 → va_S (mh_A b) s.heap H1 locs1 → W p l e R s m args below meth c H1 locs1 cells slots Q (F0 m (pc + 1) ls rest)) : W p l e R s m args below meth c H locs cells slots Q (F0 m pc ls (.long v :: .int (nI j) :: .ref a :: rest)) :=
  mh_last K0 hX hS h (vp_in_nI hj hn) hdg (by rw [nI_clamp (by omega)]; exact kk)
theorem mh_aastNN (t : Nat) {C : String} (ht : (mh_tys dA)[t]? = some (dA t, .object C)) (K0 : mh_K0 p s m args c own cc dC dI dA) (hX : mh_P (dC, dI) b w H) (hS : va_S (mh_A b) s.heap H locs) {n : Nat} {f : Nat → Option Nat} (h : w k i = some (a, .inl (dA t, n, .inr (.inr (.inr (.inr f)))))) {j : Nat} (hj : j < n) (hn : n < 2 ^ 31) (hdg : decode cc pc = .ok (.aastore, 1))
    (kk : ∀ (H1 : Heap) (locs1 : List Loc), mh_P (dC, dI) b (mh_set w k i (some (a, .inl (dA t, n, .inr (.inr (.inr (.inr (va_up f j none)))))))) H1 → va_S (mh_A b) s.heap H1 locs1 → W p l e R s m args below meth c H1 locs1 cells slots Q (F0 m (pc + 1) ls rest)) : W p l e R s m args below meth c H locs cells slots Q (F0 m pc ls (.null :: .int (nI j) :: .ref a :: rest)) :=
  mh_aastN t ht K0 hX hS h (vp_in_nI hj hn) hdg (by rw [nI_clamp (by omega)]; exact kk)
theorem mh_aastX (t : Nat) {k2 i2 v ci : Nat} {vs : List Value} {r : vw_C} (ht : (mh_tys dA)[t]? = some (dA t, .object r.1)) (hc : classes[ci]? = some r) (K0 : mh_K0 p s m args c own cc dC dI dA) (hX : mh_P (dC, dI) b w H) (hS : va_S (mh_A b) s.heap H locs) {n : Nat} {f : Nat → Option Nat} (h : w k i = some (a, .inl (dA t, n, .inr (.inr (.inr (.inr f)))))) (hv : w k2 i2 = some (v, .inr (ci, vs))) {j : Nat} (hj : j < n) (hn : n < 2 ^ 31) (hdg : decode cc pc = .ok (.aastore, 1))
    (kk : ∀ (H1 : Heap) (locs1 : List Loc), mh_P (dC, dI) b (mh_set w k i (some (a, .inl (dA t, n, .inr (.inr (.inr (.inr (va_up f j (some v))))))))) H1 → va_S (mh_A b) s.heap H1 locs1 → W p l e R s m args below meth c H1 locs1 cells slots Q (F0 m (pc + 1) ls rest)) : W p l e R s m args below meth c H locs cells slots Q (F0 m pc ls (.ref v :: .int (nI j) :: .ref a :: rest)) :=
  mh_aast t ht hc K0 hX hS h hv (vp_in_nI hj hn) hdg (by rw [nI_clamp (by omega)]; exact kk)
/-- branches on truth values -/
theorem mh_ifeqB (hx : p.tables.exec = Jvm.exec) (hb : c.code = cc) {x : Bool} {off : Int} {tgt : Nat} (hdg : decode cc pc = .ok (.ifCond .eq off, 3)) (ht : (pc : Int) + off = (tgt : Int)) (kt : x = false → W p l e R s m args below meth c H locs cells slots Q (F0 m tgt ls rest)) (kf : x = true → W p l e R s m args below meth c H locs cells slots Q (F0 m (pc + 3) ls rest)) : W p l e R s m args below meth c H locs cells slots Q (F0 m pc ls (.int (mh_b x) :: rest)) :=
  lv_if_eq hx hb hdg ht (fun z => kt (mh_b_eq0.mp z)) (fun z => kf (mh_b_ne0.mp z))
theorem mh_ifneB (hx : p.tables.exec = Jvm.exec) (hb : c.code = cc) {x : Bool} {off : Int} {tgt : Nat} (hdg : decode cc pc = .ok (.ifCond .ne off, 3)) (ht : (pc : Int) + off = (tgt : Int)) (kt : x = true → W p l e R s m args below meth c H locs cells slots Q (F0 m tgt ls rest)) (kf : x = false → W p l e R s m args below meth c H locs cells slots Q (F0 m (pc + 3) ls rest)) : W p l e R s m args below meth c H locs cells slots Q (F0 m pc ls (.int (mh_b x) :: rest)) :=
  lv_if_ne hx hb hdg ht (fun z => kt (mh_b_ne0.mp z)) (fun z => kf (mh_b_eq0.mp z))
/-- a call that returns v -/
theorem mh_callV {y : MethodName} {rm : Room} {av st0 : List Value} {v : Option Value} {Φ : mh_w → Prop} (site : mh_Site p l e R s m args below meth c H locs cells slots (F0 m pc ls st0) rest y av) (hM : mh_Met l b dC dI dA zs y rm av w (mh_V v Φ)) (K0 : mh_K0 p s m args c own cc dC dI dA) (hOK : mh_OK b dC dI dA zs w0 s)
    {nL : Nat} (hml : c.maxLocals = nL) (hsz : ls.size = nL) {cY : ByteArray} {nY : Nat} {rY : Option FieldType} {hsY : List (Nat × Nat × Nat × Nat)} {n : Nat} (C0 : mh_cee y cY nY rY hsY n) (hX : mh_P (dC, dI) b w H) (hS : va_S (mh_A b) s.heap H locs) {ig : Instr} (hdg : decode cc pc = .ok (ig, 3))
    (hfr : rm.frames + 1 ≤ R.frames) (hW9 : (rest.map fun v => v.category).sum ≤ 8) (hlo : 8 + (nY + 11) + rm.locals ≤ R.locals) (h4 : cells + rm.cells ≤ R.cells) (h5 : slots + rm.slots ≤ R.slots)
    (kk : ∀ (w' : mh_w) (H1 : Heap) (locs1 : List Loc), Φ w' → mh_P (dC, dI) b w' H1 → va_S (mh_A b) s.heap H1 locs1 → W p l e R s m args below meth c H1 locs1 (cells + rm.cells) (slots + rm.slots) Q (F0 m (pc + 3) ls (v.toList ++ rest))) :
    W p l e R s m args below meth c H locs cells slots Q (F0 m pc ls st0) := by
  refine mh_call site hM K0 hOK hml hsz C0 hX hS hdg hfr hW9 hlo h4 h5 (fun q w' H1 locs1 hP => ?_) (fun v' w' H1 locs1 hP hX' hS' => ?_)
  · cases hP.1
  · have e := hP.1
    cases e
    exact kk w' H1 locs1 hP.2 hX' hS'
/-- .. and leaves the world as it is -/
theorem mh_callR {y : MethodName} {rm : Room} {av st0 : List Value} {v : Option Value} (site : mh_Site p l e R s m args below meth c H locs cells slots (F0 m pc ls st0) rest y av) (hM : mh_Met l b dC dI dA zs y rm av w (mh_V v (fun w' => w' = w))) (K0 : mh_K0 p s m args c own cc dC dI dA) (hOK : mh_OK b dC dI dA zs w0 s)
    {nL : Nat} (hml : c.maxLocals = nL) (hsz : ls.size = nL) {cY : ByteArray} {nY : Nat} {rY : Option FieldType} {hsY : List (Nat × Nat × Nat × Nat)} {n : Nat} (C0 : mh_cee y cY nY rY hsY n) (hX : mh_P (dC, dI) b w H) (hS : va_S (mh_A b) s.heap H locs) {ig : Instr} (hdg : decode cc pc = .ok (ig, 3))
    (hfr : rm.frames + 1 ≤ R.frames) (hW9 : (rest.map fun v => v.category).sum ≤ 8) (hlo : 8 + (nY + 11) + rm.locals ≤ R.locals) (h4 : cells + rm.cells ≤ R.cells) (h5 : slots + rm.slots ≤ R.slots)
    (kk : ∀ (H1 : Heap) (locs1 : List Loc), mh_P (dC, dI) b w H1 → va_S (mh_A b) s.heap H1 locs1 → W p l e R s m args below meth c H1 locs1 (cells + rm.cells) (slots + rm.slots) Q (F0 m (pc + 3) ls (v.toList ++ rest))) :
    W p l e R s m args below meth c H locs cells slots Q (F0 m pc ls st0) :=
  mh_callV site hM K0 hOK hml hsz C0 hX hS hdg hfr hW9 hlo h4 h5 (fun w' H1 locs1 hw hX' hS' => by subst hw; exact kk H1 locs1 hX' hS')
/-- a call that throws -/
theorem mh_callT {y : MethodName} {rm : Room} {av st0 : List Value} {ci : Nat} {Φ : mh_w → Prop} (site : mh_Site p l e R s m args below meth c H locs cells slots (F0 m pc ls st0) rest y av) (hM : mh_Met l b dC dI dA zs y rm av w (mh_T ci Φ)) (K0 : mh_K0 p s m args c own cc dC dI dA) (hOK : mh_OK b dC dI dA zs w0 s)
    {nL : Nat} (hml : c.maxLocals = nL) (hsz : ls.size = nL) {cY : ByteArray} {nY : Nat} {rY : Option FieldType} {hsY : List (Nat × Nat × Nat × Nat)} {n : Nat} (C0 : mh_cee y cY nY rY hsY n) (hX : mh_P (dC, dI) b w H) (hS : va_S (mh_A b) s.heap H locs) {ig : Instr} (hdg : decode cc pc = .ok (ig, 3))
    (hfr : rm.frames + 1 ≤ R.frames) (hW9 : (rest.map fun v => v.category).sum ≤ 8) (hlo : 8 + (nY + 11) + rm.locals ≤ R.locals) (h4 : cells + rm.cells ≤ R.cells) (h5 : slots + rm.slots ≤ R.slots)
    (kx : ∀ (q : Nat) (w' : mh_w) (H1 : Heap) (locs1 : List Loc), w' 99 0 = some (q, .inr (ci, [])) → Φ w' → mh_P (dC, dI) b w' H1 → va_S (mh_A b) s.heap H1 locs1 → mh_X p l e R s m args below meth c H1 locs1 (cells + rm.cells) (slots + rm.slots) Q (F0 m pc ls rest) q) :
    W p l e R s m args below meth c H locs cells slots Q (F0 m pc ls st0) := by
  refine mh_call site hM K0 hOK hml hsz C0 hX hS hdg hfr hW9 hlo h4 h5 (fun q w' H1 locs1 hP hX' hS' => ?_) (fun v' w' H1 locs1 hP hX' hS' => ?_)
  · obtain ⟨q', e1, e2, e3⟩ := hP
    cases e1
    exact kx q w' H1 locs1 e2 e3 hX' hS'
  · obtain ⟨q', e1, -⟩ := hP
    cases e1
end MHN
section MHB
variable {p : Program} {l : Launch} {e : Env} {R : Room} {s : State} {m : MethodId} {args : Array Value} {below : List Frame} {meth : Method} {c : Code} {H : Heap} {locs : List Loc} {cells slots : Nat} {Q : State → Prop}
variable {cc : ByteArray} {pc : Nat} {ls : Array Slot} {rest : List Value}
theorem mh_icmp_eq (hx : p.tables.exec = Jvm.exec) (hb : c.code = cc) {x y : Nat} (hxx : x < 2 ^ 31) (hyy : y < 2 ^ 31) {off : Int} {tgt : Nat} (hdg : decode cc pc = .ok (.if_icmp .eq off, 3)) (ht : (pc : Int) + off = (tgt : Int)) (kt : x = y → W p l e R s m args below meth c H locs cells slots Q (F0 m tgt ls rest)) (kf : ¬ x = y → W p l e R s m args below meth c H locs cells slots Q (F0 m (pc + 3) ls rest)) : W p l e R s m args below meth c H locs cells slots Q (F0 m pc ls (.int (nI y) :: .int (nI x) :: rest)) :=
  lv_icmp_eq hx hb hdg ht (fun z => kt ((nI_eq hxx hyy).mp z)) (fun z => kf (fun q => z ((nI_eq hxx hyy).mpr q)))
theorem mh_if_eq (hx : p.tables.exec = Jvm.exec) (hb : c.code = cc) {x : Nat} (hxx : x < 2 ^ 31) {off : Int} {tgt : Nat} (hdg : decode cc pc = .ok (.ifCond .eq off, 3)) (ht : (pc : Int) + off = (tgt : Int)) (kt : x = 0 → W p l e R s m args below meth c H locs cells slots Q (F0 m tgt ls rest)) (kf : ¬ x = 0 → W p l e R s m args below meth c H locs cells slots Q (F0 m (pc + 3) ls rest)) : W p l e R s m args below meth c H locs cells slots Q (F0 m pc ls (.int (nI x) :: rest)) :=
  lv_if_eq hx hb hdg ht (fun z => kt ((nI_eq hxx (by decide)).mp z)) (fun z => kf (fun q => z (by rw [q]; rfl)))
theorem mh_icmp_ne (hx : p.tables.exec = Jvm.exec) (hb : c.code = cc) {x y : Nat} (hxx : x < 2 ^ 31) (hyy : y < 2 ^ 31) {off : Int} {tgt : Nat} (hdg : decode cc pc = .ok (.if_icmp .ne off, 3)) (ht : (pc : Int) + off = (tgt : Int)) (kt : ¬ x = y → W p l e R s m args below meth c H locs cells slots Q (F0 m tgt ls rest)) (kf : x = y → W p l e R s m args below meth c H locs cells slots Q (F0 m (pc + 3) ls rest)) : W p l e R s m args below meth c H locs cells slots Q (F0 m pc ls (.int (nI y) :: .int (nI x) :: rest)) :=
  lv_icmp_ne hx hb hdg ht (fun z => kt (fun q => z ((nI_eq hxx hyy).mpr q))) (fun z => kf ((nI_eq hxx hyy).mp z))
theorem mh_if_ne (hx : p.tables.exec = Jvm.exec) (hb : c.code = cc) {x : Nat} (hxx : x < 2 ^ 31) {off : Int} {tgt : Nat} (hdg : decode cc pc = .ok (.ifCond .ne off, 3)) (ht : (pc : Int) + off = (tgt : Int)) (kt : ¬ x = 0 → W p l e R s m args below meth c H locs cells slots Q (F0 m tgt ls rest)) (kf : x = 0 → W p l e R s m args below meth c H locs cells slots Q (F0 m (pc + 3) ls rest)) : W p l e R s m args below meth c H locs cells slots Q (F0 m pc ls (.int (nI x) :: rest)) :=
  lv_if_ne hx hb hdg ht (fun z => kt (fun q => z (by rw [q]; rfl))) (fun z => kf ((nI_eq hxx (by decide)).mp z))
theorem mh_icmp_lt (hx : p.tables.exec = Jvm.exec) (hb : c.code = cc) {x y : Nat} (hxx : x < 2 ^ 31) (hyy : y < 2 ^ 31) {off : Int} {tgt : Nat} (hdg : decode cc pc = .ok (.if_icmp .lt off, 3)) (ht : (pc : Int) + off = (tgt : Int)) (kt : x < y → W p l e R s m args below meth c H locs cells slots Q (F0 m tgt ls rest)) (kf : y ≤ x → W p l e R s m args below meth c H locs cells slots Q (F0 m (pc + 3) ls rest)) : W p l e R s m args below meth c H locs cells slots Q (F0 m pc ls (.int (nI y) :: .int (nI x) :: rest)) :=
  lv_icmp_lt hx hb hdg ht (fun z => kt ((nI_ltI hxx hyy).mp z)) (fun z => kf (Nat.not_lt.mp (fun u => z ((nI_ltI hxx hyy).mpr u))))
theorem mh_if_lt (hx : p.tables.exec = Jvm.exec) (hb : c.code = cc) {x : Nat} (hxx : x < 2 ^ 31) {off : Int} {tgt : Nat} (hdg : decode cc pc = .ok (.ifCond .lt off, 3)) (ht : (pc : Int) + off = (tgt : Int)) (kt : x < 0 → W p l e R s m args below meth c H locs cells slots Q (F0 m tgt ls rest)) (kf : 0 ≤ x → W p l e R s m args below meth c H locs cells slots Q (F0 m (pc + 3) ls rest)) : W p l e R s m args below meth c H locs cells slots Q (F0 m pc ls (.int (nI x) :: rest)) :=
  lv_if_lt hx hb hdg ht (fun z => kt ((nI_ltI hxx (b := 0) (by decide)).mp z)) (fun z => kf (Nat.not_lt.mp (fun u => z ((nI_ltI hxx (b := 0) (by decide)).mpr u))))
theorem mh_icmp_ge (hx : p.tables.exec = Jvm.exec) (hb : c.code = cc) {x y : Nat} (hxx : x < 2 ^ 31) (hyy : y < 2 ^ 31) {off : Int} {tgt : Nat} (hdg : decode cc pc = .ok (.if_icmp .ge off, 3)) (ht : (pc : Int) + off = (tgt : Int)) (kt : y ≤ x → W p l e R s m args below meth c H locs cells slots Q (F0 m tgt ls rest)) (kf : x < y → W p l e R s m args below meth c H locs cells slots Q (F0 m (pc + 3) ls rest)) : W p l e R s m args below meth c H locs cells slots Q (F0 m pc ls (.int (nI y) :: .int (nI x) :: rest)) :=
  lv_icmp_ge hx hb hdg ht (fun z => kt ((nI_leI hyy hxx).mp z)) (fun z => kf (Nat.not_le.mp (fun u => z ((nI_leI hyy hxx).mpr u))))
theorem mh_if_ge (hx : p.tables.exec = Jvm.exec) (hb : c.code = cc) {x : Nat} (hxx : x < 2 ^ 31) {off : Int} {tgt : Nat} (hdg : decode cc pc = .ok (.ifCond .ge off, 3)) (ht : (pc : Int) + off = (tgt : Int)) (kt : 0 ≤ x → W p l e R s m args below meth c H locs cells slots Q (F0 m tgt ls rest)) (kf : x < 0 → W p l e R s m args below meth c H locs cells slots Q (F0 m (pc + 3) ls rest)) : W p l e R s m args below meth c H locs cells slots Q (F0 m pc ls (.int (nI x) :: rest)) :=
  lv_if_ge hx hb hdg ht (fun z => kt ((nI_leI (a := 0) (by decide) hxx).mp z)) (fun z => kf (Nat.not_le.mp (fun u => z ((nI_leI (a := 0) (by decide) hxx).mpr u))))
theorem mh_icmp_gt (hx : p.tables.exec = Jvm.exec) (hb : c.code = cc) {x y : Nat} (hxx : x < 2 ^ 31) (hyy : y < 2 ^ 31) {off : Int} {tgt : Nat} (hdg : decode cc pc = .ok (.if_icmp .gt off, 3)) (ht : (pc : Int) + off = (tgt : Int)) (kt : y < x → W p l e R s m args below meth c H locs cells slots Q (F0 m tgt ls rest)) (kf : x ≤ y → W p l e R s m args below meth c H locs cells slots Q (F0 m (pc + 3) ls rest)) : W p l e R s m args below meth c H locs cells slots Q (F0 m pc ls (.int (nI y) :: .int (nI x) :: rest)) :=
  lv_icmp_gt hx hb hdg ht (fun z => kt ((nI_ltI hyy hxx).mp z)) (fun z => kf (Nat.not_lt.mp (fun u => z ((nI_ltI hyy hxx).mpr u))))
theorem mh_if_gt (hx : p.tables.exec = Jvm.exec) (hb : c.code = cc) {x : Nat} (hxx : x < 2 ^ 31) {off : Int} {tgt : Nat} (hdg : decode cc pc = .ok (.ifCond .gt off, 3)) (ht : (pc : Int) + off = (tgt : Int)) (kt : 0 < x → W p l e R s m args below meth c H locs cells slots Q (F0 m tgt ls rest)) (kf : x ≤ 0 → W p l e R s m args below meth c H locs cells slots Q (F0 m (pc + 3) ls rest)) : W p l e R s m args below meth c H locs cells slots Q (F0 m pc ls (.int (nI x) :: rest)) :=
  lv_if_gt hx hb hdg ht (fun z => kt ((nI_ltI (a := 0) (by decide) hxx).mp z)) (fun z => kf (Nat.not_lt.mp (fun u => z ((nI_ltI (a := 0) (by decide) hxx).mpr u))))
theorem mh_icmp_le (hx : p.tables.exec = Jvm.exec) (hb : c.code = cc) {x y : Nat} (hxx : x < 2 ^ 31) (hyy : y < 2 ^ 31) {off : Int} {tgt : Nat} (hdg : decode cc pc = .ok (.if_icmp .le off, 3)) (ht : (pc : Int) + off = (tgt : Int)) (kt : x ≤ y → W p l e R s m args below meth c H locs cells slots Q (F0 m tgt ls rest)) (kf : y < x → W p l e R s m args below meth c H locs cells slots Q (F0 m (pc + 3) ls rest)) : W p l e R s m args below meth c H locs cells slots Q (F0 m pc ls (.int (nI y) :: .int (nI x) :: rest)) :=
  lv_icmp_le hx hb hdg ht (fun z => kt ((nI_leI hxx hyy).mp z)) (fun z => kf (Nat.not_le.mp (fun u => z ((nI_leI hxx hyy).mpr u))))
theorem mh_if_le (hx : p.tables.exec = Jvm.exec) (hb : c.code = cc) {x : Nat} (hxx : x < 2 ^ 31) {off : Int} {tgt : Nat} (hdg : decode cc pc = .ok (.ifCond .le off, 3)) (ht : (pc : Int) + off = (tgt : Int)) (kt : x ≤ 0 → W p l e R s m args below meth c H locs cells slots Q (F0 m tgt ls rest)) (kf : 0 < x → W p l e R s m args below meth c H locs cells slots Q (F0 m (pc + 3) ls rest)) : W p l e R s m args below meth c H locs cells slots Q (F0 m pc ls (.int (nI x) :: rest)) :=
  lv_if_le hx hb hdg ht (fun z => kt ((nI_leI hxx (b := 0) (by decide)).mp z)) (fun z => kf (Nat.not_le.mp (fun u => z ((nI_leI hxx (b := 0) (by decide)).mpr u))))
end MHB
/-! WHAT THE CELLS SAY: sets of keys, numbers, intentions -/
/-- outside the kinds k, .., k + n - 1 at i nothing has changed -/
def mh_F (w w' : mh_w) (k n i : Nat) : Prop := ∀ k' i', ¬ (k ≤ k' ∧ k' < k + n ∧ i' = i) → w' k' i' = w k' i'
theorem mh_F.rf {w : mh_w} {k n i : Nat} : mh_F w w k n i := fun _ _ _ => rfl
theorem mh_F.tr {w w1 w2 : mh_w} {k n i k1 n1 k2 n2 : Nat} (h1 : mh_F w w1 k1 n1 i) (h2 : mh_F w1 w2 k2 n2 i) (e1 : k ≤ k1) (e2 : k1 + n1 ≤ k + n) (e3 : k ≤ k2) (e4 : k2 + n2 ≤ k + n) : mh_F w w2 k n i :=
  fun k' i' h => (h2 k' i' (fun z => h (by omega))).trans (h1 k' i' (fun z => h (by omega)))
theorem mh_F.set {w w1 : mh_w} {k n i k1 : Nat} {q : Option (Nat × va_E)} (h1 : mh_F w w1 k n i) (e1 : k ≤ k1) (e2 : k1 < k + n) : mh_F w (mh_set w1 k1 i q) k n i :=
  fun k' i' h => (mh_set_ne w1 k1 i q (fun z => h (by omega))).trans (h1 k' i' h)
def rK (dA : Nat → ClassId) (w : mh_w) (k i a : Nat) (rd : Nat → Bool) : Prop := ∃ (a1 : Nat) (f : Nat → Int64), w k i = some (a, .inr (0, [.ref a1])) ∧ w (k + 1) i = some (a1, .inl (dA 1, 4, .inr (.inl f))) ∧ ∀ j, j < 256 → pb_b f j = rd j
theorem rK.to {dA : Nat → ClassId} {w w' : mh_w} {k i a : Nat} {rd rd' : Nat → Bool} (h : rK dA w k i a rd) (h1 : ∀ z, z < 2 → w' (k + z) i = w (k + z) i) (h2 : ∀ j, j < 256 → rd j = rd' j) : rK dA w' k i a rd' := by
  obtain ⟨a1, f, e1, e2, e3⟩ := h
  exact ⟨a1, f, (h1 0 (by omega)).trans e1, (h1 1 (by omega)).trans e2, fun j hj => (e3 j hj).trans (h2 j hj)⟩
def rN (dA : Nat → ClassId) (w : mh_w) (k i a : Nat) (st : Nat → Option Int64) : Prop := ∃ (a1 a3 : Nat) (f : Nat → Int64), w k i = some (a, .inr (1, [.ref a1, .ref a3])) ∧ rK dA w (k + 1) i a1 (fun j => (st j).isSome) ∧ w (k + 3) i = some (a3, .inl (dA 1, 256, .inr (.inl f))) ∧ ∀ j v, j < 256 → st j = some v → f j = v
theorem rN.to {dA : Nat → ClassId} {w w' : mh_w} {k i a : Nat} {st st' : Nat → Option Int64} (h : rN dA w k i a st) (h1 : ∀ z, z < 4 → w' (k + z) i = w (k + z) i) (h2 : ∀ j, j < 256 → st j = st' j) : rN dA w' k i a st' := by
  obtain ⟨a1, a3, f, e1, e2, e3, e4⟩ := h
  exact ⟨a1, a3, f, (h1 0 (by omega)).trans e1, e2.to (fun z hz => by have := h1 (1 + z) (by omega); rwa [← Nat.add_assoc] at this) (fun j hj => by rw [h2 j hj]), (h1 3 (by omega)).trans e3, fun j v hj hv => e4 j v hj ((h2 j hj).trans hv)⟩
def rI (dA : Nat → ClassId) (w : mh_w) (k i a : Nat) (x : st_I) : Prop := ∃ (a1 a3 a4 a5 a6 a7 : Nat) (lo hi wk hn : Nat → Int32) (nn : Nat → Int64),
  w k i = some (a, .inr (2, [.int (nI (iv_sv x)), .int (nI (iv_sn x)), .int (nI (iv_lv x)), .ref a1, .ref a3, .ref a4, .ref a5, .ref a6, .ref a7, .int (nI (iv_np x)), .int (nI (iv_nw x)), .int (mh_b (iv_gd x))])) ∧ rK dA w (k + 1) i a1 (iv_rd x) ∧
  w (k + 3) i = some (a3, .inl (dA 0, 8, .inl lo)) ∧ w (k + 4) i = some (a4, .inl (dA 0, 8, .inl hi)) ∧ w (k + 5) i = some (a5, .inl (dA 0, 8, .inl wk)) ∧ w (k + 6) i = some (a6, .inl (dA 2, 8, .inl hn)) ∧ w (k + 7) i = some (a7, .inl (dA 1, 8, .inr (.inl nn))) ∧
  (∀ j, j < iv_np x → lo j = nI (iv_lo x j) ∧ hi j = nI (iv_hi x j)) ∧ ∀ j, j < iv_nw x → wk j = nI (iv_wk x j) ∧ hn j = mh_b (iv_wv x j).isSome ∧ ∀ v, iv_wv x j = some v → nn j = v
theorem rI.to {dA : Nat → ClassId} {w w' : mh_w} {k i k' i' a : Nat} {x : st_I} (h : rI dA w k i a x) (h1 : ∀ z, z < 8 → w' (k' + z) i' = w (k + z) i) : rI dA w' k' i' a x := by
  obtain ⟨a1, a3, a4, a5, a6, a7, lo, hi, wk, hn, nn, e0, ⟨b1, f, e1, e2, g⟩, e3, e4, e5, e6, e7, e8, e9⟩ := h
  exact ⟨a1, a3, a4, a5, a6, a7, lo, hi, wk, hn, nn, (h1 0 (by omega)).trans e0, ⟨b1, f, (h1 1 (by omega)).trans e1, (h1 2 (by omega)).trans e2, g⟩, (h1 3 (by omega)).trans e3, (h1 4 (by omega)).trans e4, (h1 5 (by omega)).trans e5, (h1 6 (by omega)).trans e6, (h1 7 (by omega)).trans e7, e8, e9⟩
section MHY
variable {p : Program} {l : Launch} {e : Env} {R : Room} {s : State} {m : MethodId} {args : Array Value} {below : List Frame} {meth : Method} {c : Code} {H : Heap} {locs : List Loc} {cells slots : Nat} {Q : State → Prop}
variable {cc : ByteArray} {pc : Nat} {ls : Array Slot} {rest : List Value} {own : String} {b : Nat} {dC : Nat → ClassId} {dI : Nat → Nat → Nat} {dA : Nat → ClassId} {zs : Nat → Nat} {w w0 : mh_w} {k i a : Nat}
/-- System.arraycopy of the first n longs -/
theorem mh_copyl (K0 : mh_K0 p s m args c own cc dC dI dA) {nL : Nat} (hml : c.maxLocals = nL) (hsz : ls.size = nL) {index : Nat} (hlink : Cond.methodLink own index arraycopyName ∈ mh_TB) (hnat : Cond.native arraycopyName ∈ mh_TB) (hstat : Cond.static arraycopyName ∈ mh_TB) (hini : Cond.initialized "java/lang/System" ∈ mh_TB) (hX : mh_P (dC, dI) b w H) (hS : va_S (mh_A b) s.heap H locs)
    {k0 i0 a0 n0 n1 : Nat} {f g : Nat → Int64} (h0 : w k0 i0 = some (a0, .inl (dA 1, n0, .inr (.inl f)))) (h1 : w k i = some (a, .inl (dA 1, n1, .inr (.inl g)))) {n : Nat} (hn0 : n ≤ n0) (hn1 : n ≤ n1) (hn : n < 2 ^ 31) (hframes : 1 ≤ R.frames) (hlocals : (rest.map fun v => v.category).sum + (nativeFrameWords "java/lang/System" "arraycopy" 5 + 11) ≤ R.locals) (hdg : decode cc pc = .ok (.invokestatic index, 3))
    (kk : ∀ (H1 : Heap) (locs1 : List Loc), mh_P (dC, dI) b (mh_set w k i (some (a, .inl (dA 1, n1, .inr (.inl (va_cpy f g 0 0 n)))))) H1 → va_S (mh_A b) s.heap H1 locs1 → W p l e R s m args below meth c H1 locs1 cells slots Q (F0 m (pc + 3) ls rest)) : W p l e R s m args below meth c H locs cells slots Q (F0 m pc ls (.int (nI n) :: .int (nI 0) :: .ref a :: .int (nI 0) :: .ref a0 :: rest)) := by
  obtain ⟨hx, hb, hown, hts, hN, hK⟩ := K0
  intro T hT X
  have c0 : H[a0]? = some (vp_cell (dA 1) (n0, .inr (.inl f))) := hX.at h0
  have c1 : H[a]? = some (vp_cell (dA 1) (n1, .inr (.inl g))) := hX.at h1
  have z0 : (nI 0).toNatClampNeg = 0 := nI_clamp (by decide)
  have zn : (nI n).toNatClampNeg = n := nI_clamp hn
  have t0 : (nI 0).toInt = 0 := nI_toInt (n := 0) (by decide)
  have tn : (nI n).toInt = n := nI_toInt hn
  obtain ⟨-, q0, e0, cm0, g0⟩ := (hK.2 1 _ rfl).1 n0 (fun j => .long (f j))
  obtain ⟨-, q1, e1, cm1, g1⟩ := (hK.2 1 _ rfl).1 n1 (fun j => .long (g j))
  obtain ⟨vm', X', step⟩ := X.arraycopy hx hown (hts _ hlink) (hts _ hnat) (hts _ hstat) (hts _ hini) (src := a0) (dst := a) (cs := vp_cell (dA 1) (n0, .inr (.inl f))) (cd := vp_cell (dA 1) (n1, .inr (.inl g))) (srcPos := nI 0) (destPos := nI 0) (n := nI n) (by rw [hT]; exact c0) (by rw [hT]; exact c1)
    (fun _ h => by cases h) (fun _ h => by cases h) (fun h => by cases h) (fun h => by cases h) e0 e1 g0 g1 (by rfl) (nI_pos (by decide)) (nI_pos (by decide)) (nI_pos hn)
    (by rw [t0, tn]; show ¬ _ > ((arrV (dA 1) n0 (fun j => .long (f j))).slots.size : Int); rw [arrV_size]; omega)
    (by rw [t0, tn]; show ¬ _ > ((arrV (dA 1) n1 (fun j => .long (g j))).slots.size : Int); rw [arrV_size]; omega)
    (fun vm₁ _ i hi => by
      rw [zn] at hi
      have e : (vp_cell (dA 1) (n0, .inr (.inl f))).slots.getD ((nI 0).toNatClampNeg + i) .null = .long (f ((nI 0).toNatClampNeg + i)) := by
        rw [z0]
        show (arrV (dA 1) n0 (fun j => .long (f j))).slots.getD _ _ = _
        rw [Array.getD_eq_getD_getElem?, arrV_read _ _ (by omega)]
        rfl
      refine ⟨?_, ?_⟩
      · rw [e]; rfl
      · rw [e]; exact trivial)
    (g := F0 m pc ls (.int (nI n) :: .int (nI 0) :: .ref a :: .int (nI 0) :: .ref a0 :: rest)) rfl (by show ls.size = _; rw [hsz, hml]) (rest := rest) rfl (by rw [hb]; exact hdg) hframes (by show 2 * 0 + _ + _ ≤ _; omega)
  have ec : copied (vp_cell (dA 1) (n0, .inr (.inl f))) (vp_cell (dA 1) (n1, .inr (.inl g))) (nI 0) (nI 0) (nI n) = vp_cell (dA 1) (n1, .inr (.inl (va_cpy f g 0 0 n))) := by
    have := va_copied (fun z => Value.long z) (dA 1) (dA 1) (n0 := n0) (n1 := n1) (sp := (nI 0).toNatClampNeg) (dp := (nI 0).toNatClampNeg) (n := (nI n).toNatClampNeg) f g (by rw [z0, zn]; omega)
    have e9 : va_cpy f g (nI 0).toNatClampNeg (nI 0).toNatClampNeg (nI n).toNatClampNeg = va_cpy f g 0 0 n := by rw [z0, zn]
    rw [← e9]
    exact this
  rw [ec] at X' step
  have hl : a < H.size := (Array.getElem?_eq_some_iff.mp c1).1
  have hheap : ((T.setVm vm').setCell a (vp_cell (dA 1) (n1, .inr (.inl (va_cpy f g 0 0 n))))).heap = H.setIfInBounds a (vp_cell (dA 1) (n1, .inr (.inl (va_cpy f g 0 0 n)))) := by rw [← hT]; rfl
  have oq : ∀ q : Nat, q ≠ a → (H.setIfInBounds a (vp_cell (dA 1) (n1, .inr (.inl (va_cpy f g 0 0 n)))))[q]? = H[q]? := fun q hq => by simp [Array.getElem?_setIfInBounds, Ne.symm hq]
  obtain ⟨t, a1, b1⟩ := kk _ _ (hX.put h1 (show (H.setIfInBounds a _)[a]? = some _ by simp [Array.getElem?_setIfInBounds, hl]) oq) ⟨by simp; exact hS.1, fun q g1 g2 => by
      rw [oq q (fun e => g2 (by rw [e]; exact hX.le h1))]
      exact hS.2.1 q g1 g2, fun q hq => by
      rcases List.mem_append.mp hq with h | h
      · exact hS.2.2 q h
      · obtain ⟨z, -, hz⟩ := List.mem_map.mp h
        rw [← hz]
        exact hX.le h1⟩ _ hheap X'
  exact ⟨t, step t a1, b1⟩
end MHY
/-! Long.bitCount, its steps -/
theorem pb_c1 : pb_N 6148914691236517205 = pb_m55 8 := by decide +kernel
theorem pb_c2 : pb_N 3689348814741910323 = pb_m33 8 := by decide +kernel
theorem pb_c3 : pb_N 1085102592571150095 = pb_m0f 8 := by decide +kernel
theorem pb_N_addS {x y : Int64} (h : pb_N x + pb_N y < 18446744073709551616) : pb_N (x + y) = pb_N x + pb_N y := by rw [pb_N_add, Nat.mod_eq_of_lt h]
theorem pb_i32 (x : Int64) : x.toInt32.toBitVec.toNat = pb_N x % 4294967296 := by
  show (x.toBitVec.signExtend 32).toNat = x.toBitVec.toNat % 4294967296
  rw [BitVec.signExtend_eq_setWidth_of_le _ (by decide)]
  simp
theorem pb_bits {x v1 v2 v3 v4 v5 v6 : Int64} (e1 : v1 = x - ((x.toUInt64 >>> ((nI 1).toInt64.toUInt64 &&& Int64.toUInt64 63)).toInt64 &&& 6148914691236517205))
    (e2 : v2 = (v1 &&& 3689348814741910323) + ((v1.toUInt64 >>> ((nI 2).toInt64.toUInt64 &&& Int64.toUInt64 63)).toInt64 &&& 3689348814741910323))
    (e3 : v3 = (v2 + (v2.toUInt64 >>> ((nI 4).toInt64.toUInt64 &&& Int64.toUInt64 63)).toInt64) &&& 1085102592571150095)
    (e4 : v4 = v3 + (v3.toUInt64 >>> ((nI 8).toInt64.toUInt64 &&& Int64.toUInt64 63)).toInt64)
    (e5 : v5 = v4 + (v4.toUInt64 >>> ((nI 16).toInt64.toUInt64 &&& Int64.toUInt64 63)).toInt64)
    (e6 : v6 = v5 + (v5.toUInt64 >>> ((nI 32).toInt64.toUInt64 &&& Int64.toUInt64 63)).toInt64) : v6.toInt32 &&& nI 127 = nI (pb_pc 64 (pb_N x)) := by
  have hx := pb_N_lt x
  have n1 : pb_N v1 = pb_f1 8 (pb_N x) := by
    have ha : pb_N ((x.toUInt64 >>> ((nI 1).toInt64.toUInt64 &&& Int64.toUInt64 63)).toInt64 &&& 6148914691236517205) = (pb_N x / 2) &&& pb_m55 8 := by
      rw [pb_N_and, pb_N_shr x (k := 1) (by decide), pb_c1]
    rw [e1, pb_N_sub, ha]
    · rfl
    · rw [ha]
      exact Nat.le_trans Nat.and_le_left (Nat.div_le_self _ _)
  have n2 : pb_N v2 = pb_f2 8 (pb_N v1) ∧ pb_N v2 ≤ 7378697629483820646 := by
    have ha : pb_N (v1 &&& 3689348814741910323) = pb_N v1 &&& pb_m33 8 := by rw [pb_N_and, pb_c2]
    have hb : pb_N ((v1.toUInt64 >>> ((nI 2).toInt64.toUInt64 &&& Int64.toUInt64 63)).toInt64 &&& 3689348814741910323) = (pb_N v1 / 4) &&& pb_m33 8 := by
      rw [pb_N_and, pb_N_shr v1 (k := 2) (by decide), pb_c2]
    have b1 : pb_N v1 &&& pb_m33 8 ≤ 3689348814741910323 := Nat.and_le_right
    have b2 : (pb_N v1 / 4) &&& pb_m33 8 ≤ 3689348814741910323 := Nat.and_le_right
    rw [e2, pb_N_addS, ha, hb]
    · refine ⟨rfl, ?_⟩
      exact Nat.add_le_add b1 b2
    · rw [ha, hb]
      exact Nat.lt_of_le_of_lt (Nat.add_le_add b1 b2) (by decide)
  have n3 : pb_N v3 = pb_f3 8 (pb_N v2) := by
    rw [e3, pb_N_and, pb_c3, pb_N_addS, pb_N_shr v2 (k := 4) (by decide)]
    · rfl
    · rw [pb_N_shr v2 (k := 4) (by decide)]
      exact Nat.lt_of_le_of_lt (Nat.add_le_add n2.2 (Nat.le_trans (Nat.div_le_self _ _) n2.2)) (by decide)
  obtain ⟨y, s1, s2, s3, s4, s5, s6⟩ := pb_sum (pb_N x) hx
  rw [← n1, ← n2.1, ← n3] at s1
  have n4 : pb_N v4 = y + y / 256 := by
    rw [e4, pb_N_addS, pb_N_shr v3 (k := 8) (by decide), s1]
    · rw [pb_N_shr v3 (k := 8) (by decide), s1]; exact s3
  have n5 : pb_N v5 = y + y / 256 + (y + y / 256) / 65536 := by
    rw [e5, pb_N_addS, pb_N_shr v4 (k := 16) (by decide), n4]
    · rw [pb_N_shr v4 (k := 16) (by decide), n4]; exact s4
  have n6 : pb_N v6 = y + y / 256 + (y + y / 256) / 65536 + (y + y / 256 + (y + y / 256) / 65536) / 4294967296 := by
    rw [e6, pb_N_addS, pb_N_shr v5 (k := 32) (by decide), n5]
    · rw [pb_N_shr v5 (k := 32) (by decide), n5]; exact s5
  rw [pk_and v6.toInt32 (m := nI 127) 7 (by decide), pb_i32, Nat.mod_mod_of_dvd _ (by decide), n6]
  exact congrArg nI s6
theorem pb_word (f : Nat → Int64) (j : Nat) : pb_cnt (pb_b f) (64 * j) + pb_pc 64 (pb_N (f j)) = pb_cnt (pb_b f) (64 * (j + 1)) := by
  rw [show 64 * (j + 1) = 64 * j + 64 by omega, pb_cnt_add, pb_pc_cnt]
  congr 1
  refine pb_cnt_congr (fun i hi => ?_)
  show (pb_N (f j)).testBit i = (f ((64 * j + i) / 64)).toBitVec.getLsbD ((64 * j + i) % 64)
  rw [show (64 * j + i) / 64 = j by omega, show (64 * j + i) % 64 = i by omega, pb_N_bit]
