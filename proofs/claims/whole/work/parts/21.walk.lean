/-! ROWS FOR WALKS: numbers as nI n, truth values as mh_b, calls that return or throw -/
def mh_b (x : Bool) : Int32 := match x with | true => 1 | false => 0
theorem mh_b_eq0 {x : Bool} : mh_b x = 0 ↔ x = false := by cases x <;> decide
theorem mh_b_ne0 {x : Bool} : ¬ mh_b x = 0 ↔ x = true := by cases x <;> decide
theorem mh_b_nar (x : Bool) : narrow .boolean (.int (mh_b x)) = .int (mh_b x) := by cases x <;> rfl
theorem mh_b_fit (x : Bool) : fits .boolean (.int (mh_b x)) = true := by cases x <;> rfl
theorem mh_b_vn (x : Bool) : vp_nar .boolean (mh_b x) = mh_b x := by cases x <;> rfl
theorem mh_inc (a : Nat) : nI a + Int32.ofInt 1 = nI (a + 1) := (nI_1 a)
abbrev mh_V (v : Option Value) (Φ : mh_w → Prop) : Outcome → mh_w → Prop := fun o w' => o = .returned v ∧ Φ w'
abbrev mh_T (ci : Nat) (Φ : mh_w → Prop) : Outcome → mh_w → Prop := fun o w' => ∃ q : Nat, o = .threw q ∧ w' 99 0 = some (q, .inr (ci, [])) ∧ Φ w'
theorem mh_kp {w : mh_w} {k i k' i' : Nat} {q r : Option (Nat × va_E)} (h : w k' i' = r) (hne : ¬ (k' = k ∧ i' = i)) : mh_set w k i q k' i' = r := (mh_set_ne w k i q hne).trans h
section MHN
variable {p : Program} {l : Launch} {e : Env} {R : Room} {s : State} {m : MethodId} {args : Array Value} {below : List Frame} {meth : Method} {c : Code} {H : Heap} {locs : List Loc} {cells slots : Nat} {Q : State → Prop}
variable {cc : ByteArray} {pc : Nat} {ls : Array Slot} {rest : List Value} {own : String} {b : Nat} {dC : Nat → ClassId} {dI : Nat → Nat → Nat} {dA : Nat → ClassId} {zs : Nat → Nat} {w w0 : mh_w} {k i a : Nat}
theorem mh_addN (hx : p.tables.exec = Jvm.exec) (hb : c.code = cc) {x y : Nat} (hdg : decode cc pc = .ok (.iadd, 1)) (kk : W p l e R s m args below meth c H locs cells slots Q (F0 m (pc + 1) ls (.int (nI (x + y)) :: rest))) : W p l e R s m args below meth c H locs cells slots Q (F0 m pc ls (.int (nI y) :: .int (nI x) :: rest)) :=
  lv_iadd hx hb hdg (by rw [nI_add]; exact kk)
theorem mh_subN (hx : p.tables.exec = Jvm.exec) (hb : c.code = cc) {x y : Nat} (h : y ≤ x) (hdg : decode cc pc = .ok (.isub, 1)) (kk : W p l e R s m args below meth c H locs cells slots Q (F0 m (pc + 1) ls (.int (nI (x - y)) :: rest))) : W p l e R s m args below meth c H locs cells slots Q (F0 m pc ls (.int (nI y) :: .int (nI x) :: rest)) :=
  lv_isub hx hb hdg (by rw [pk_sub h]; exact kk)
theorem mh_divN (hx : p.tables.exec = Jvm.exec) (hb : c.code = cc) {x y : Nat} (h : x < 2 ^ 31) (h0 : 0 < y) (h2 : y < 2 ^ 31) (hdg : decode cc pc = .ok (.idiv, 1)) (kk : W p l e R s m args below meth c H locs cells slots Q (F0 m (pc + 1) ls (.int (nI (x / y)) :: rest))) : W p l e R s m args below meth c H locs cells slots Q (F0 m pc ls (.int (nI y) :: .int (nI x) :: rest)) :=
  lv_idiv hx hb hdg (nI_ne0 h0 h2) (by rw [pk_div h h0 h2]; exact kk)
theorem mh_remN (hx : p.tables.exec = Jvm.exec) (hb : c.code = cc) {x y : Nat} (h : x < 2 ^ 31) (h0 : 0 < y) (h2 : y < 2 ^ 31) (hdg : decode cc pc = .ok (.irem, 1)) (kk : W p l e R s m args below meth c H locs cells slots Q (F0 m (pc + 1) ls (.int (nI (x % y)) :: rest))) : W p l e R s m args below meth c H locs cells slots Q (F0 m pc ls (.int (nI y) :: .int (nI x) :: rest)) :=
  lv_irem hx hb hdg (nI_ne0 h0 h2) (by rw [pk_rem h h0 h2]; exact kk)
theorem mh_ialdN (K0 : mh_K0 p s m args c own cc dC dI dA) (hX : mh_P (dC, dI) b w H) {n : Nat} {f : Nat → Int32} (h : w k i = some (a, .inl (dA 0, n, .inl f))) {j : Nat} (hj : j < n) (hn : n < 2 ^ 31) (hdg : decode cc pc = .ok (.iaload, 1))
    (kk : W p l e R s m args below meth c H locs cells slots Q (F0 m (pc + 1) ls (.int (f j) :: rest))) : W p l e R s m args below meth c H locs cells slots Q (F0 m pc ls (.int (nI j) :: .ref a :: rest)) :=
  mh_iald K0 hX h (vp_in_nI hj hn) hdg (by rw [nI_clamp (by omega)]; exact kk)
theorem mh_laldN (K0 : mh_K0 p s m args c own cc dC dI dA) (hX : mh_P (dC, dI) b w H) {n : Nat} {f : Nat → Int64} (h : w k i = some (a, .inl (dA 1, n, .inr (.inl f)))) {j : Nat} (hj : j < n) (hn : n < 2 ^ 31) (hdg : decode cc pc = .ok (.laload, 1))
    (kk : W p l e R s m args below meth c H locs cells slots Q (F0 m (pc + 1) ls (.long (f j) :: rest))) : W p l e R s m args below meth c H locs cells slots Q (F0 m pc ls (.int (nI j) :: .ref a :: rest)) :=
  mh_lald K0 hX h (vp_in_nI hj hn) hdg (by rw [nI_clamp (by omega)]; exact kk)
theorem mh_zaldN (K0 : mh_K0 p s m args c own cc dC dI dA) (hX : mh_P (dC, dI) b w H) {n : Nat} {f : Nat → Int32} (h : w k i = some (a, .inl (dA 2, n, .inl f))) {j : Nat} (hj : j < n) (hn : n < 2 ^ 31) (hdg : decode cc pc = .ok (.baload, 1))
    (kk : W p l e R s m args below meth c H locs cells slots Q (F0 m (pc + 1) ls (.int (f j) :: rest))) : W p l e R s m args below meth c H locs cells slots Q (F0 m pc ls (.int (nI j) :: .ref a :: rest)) :=
  mh_zald K0 hX h (vp_in_nI hj hn) hdg (by rw [nI_clamp (by omega)]; exact kk)
theorem mh_aaldN (t : Nat) {C : String} (ht : (mh_tys dA)[t]? = some (dA t, .object C)) (K0 : mh_K0 p s m args c own cc dC dI dA) (hX : mh_P (dC, dI) b w H) {n : Nat} {f : Nat → Option Nat} (h : w k i = some (a, .inl (dA t, n, .inr (.inr (.inr (.inr f)))))) {j : Nat} (hj : j < n) (hn : n < 2 ^ 31) {r : Option Nat} (hr : f j = r) (hdg : decode cc pc = .ok (.aaload, 1))
    (kk : W p l e R s m args below meth c H locs cells slots Q (F0 m (pc + 1) ls (va_rf r :: rest))) : W p l e R s m args below meth c H locs cells slots Q (F0 m pc ls (.int (nI j) :: .ref a :: rest)) :=
  mh_aald t ht K0 hX h (vp_in_nI hj hn) (by rw [nI_clamp (by omega)]; exact hr) hdg kk
theorem mh_iastN (K0 : mh_K0 p s m args c own cc dC dI dA) (hX : mh_P (dC, dI) b w H) (hS : va_S (mh_A b) s.heap H locs) {n : Nat} {f : Nat → Int32} (h : w k i = some (a, .inl (dA 0, n, .inl f))) {j : Nat} {v : Int32} (hj : j < n) (hn : n < 2 ^ 31) (hdg : decode cc pc = .ok (.iastore, 1))
    (kk : ∀ (H1 : Heap) (locs1 : List Loc), mh_P (dC, dI) b (mh_set w k i (some (a, .inl (dA 0, n, .inl (upd f j v))))) H1 → va_S (mh_A b) s.heap H1 locs1 → W p l e R s m args below meth c H1 locs1 cells slots Q (F0 m (pc + 1) ls rest)) : W p l e R s m args below meth c H locs cells slots Q (F0 m pc ls (.int v :: .int (nI j) :: .ref a :: rest)) :=
  mh_iast K0 hX hS h (vp_in_nI hj hn) hdg (by rw [nI_clamp (by omega)]; exact kk)
theorem mh_zastN (K0 : mh_K0 p s m args c own cc dC dI dA) (hX : mh_P (dC, dI) b w H) (hS : va_S (mh_A b) s.heap H locs) {n : Nat} {f : Nat → Int32} (h : w k i = some (a, .inl (dA 2, n, .inl f))) {j : Nat} {v : Int32} (hv : vp_nar .boolean v = v) (hj : j < n) (hn : n < 2 ^ 31) (hdg : decode cc pc = .ok (.bastore, 1))
    (kk : ∀ (H1 : Heap) (locs1 : List Loc), mh_P (dC, dI) b (mh_set w k i (some (a, .inl (dA 2, n, .inl (upd f j v))))) H1 → va_S (mh_A b) s.heap H1 locs1 → W p l e R s m args below meth c H1 locs1 cells slots Q (F0 m (pc + 1) ls rest)) : W p l e R s m args below meth c H locs cells slots Q (F0 m pc ls (.int v :: .int (nI j) :: .ref a :: rest)) :=
  mh_zast K0 hX hS h hv (vp_in_nI hj hn) hdg (by rw [nI_clamp (by omega)]; exact kk)
theorem mh_lastN (K0 : mh_K0 p s m args c own cc dC dI dA) (hX : mh_P (dC, dI) b w H) (hS : va_S (mh_A b) s.heap H locs) {n : Nat} {f : Nat → Int64} (h : w k i = some (a, .inl (dA 1, n, .inr (.inl f)))) {j : Nat} {v : Int64} (hj : j < n) (hn : n < 2 ^ 31) (hdg : decode cc pc = .ok (.lastore, 1))
    (kk : ∀ (H1 : Heap) (locs1 : List Loc), mh_P (dC, dI) b (mh_set w k i (some (a, .inl (dA 1, n, .inr (.inl (vp_updL f j v)))))) H1 → va_S (mh_A b) s.heap H1 locs1 → W p l e R s m args below meth c H1 locs1 cells slots Q (F0 m (pc + 1) ls rest)) : W p l e R s m args below meth c H locs cells slots Q (F0 m pc ls (.long v :: .int (nI j) :: .ref a :: rest)) :=
  mh_last K0 hX hS h (vp_in_nI hj hn) hdg (by rw [nI_clamp (by omega)]; exact kk)
theorem mh_aastNN (t : Nat) {C : String} (ht : (mh_tys dA)[t]? = some (dA t, .object C)) (K0 : mh_K0 p s m args c own cc dC dI dA) (hX : mh_P (dC, dI) b w H) (hS : va_S (mh_A b) s.heap H locs) {n : Nat} {f : Nat → Option Nat} (h : w k i = some (a, .inl (dA t, n, .inr (.inr (.inr (.inr f)))))) {j : Nat} (hj : j < n) (hn : n < 2 ^ 31) (hdg : decode cc pc = .ok (.aastore, 1))
    (kk : ∀ (H1 : Heap) (locs1 : List Loc), mh_P (dC, dI) b (mh_set w k i (some (a, .inl (dA t, n, .inr (.inr (.inr (.inr (va_up f j none)))))))) H1 → va_S (mh_A b) s.heap H1 locs1 → W p l e R s m args below meth c H1 locs1 cells slots Q (F0 m (pc + 1) ls rest)) : W p l e R s m args below meth c H locs cells slots Q (F0 m pc ls (.null :: .int (nI j) :: .ref a :: rest)) :=
  mh_aastN t ht K0 hX hS h (vp_in_nI hj hn) hdg (by rw [nI_clamp (by omega)]; exact kk)
theorem mh_aastX (t : Nat) {k2 i2 v ci : Nat} {vs : List Value} {r : vw_C} (ht : (mh_tys dA)[t]? = some (dA t, .object r.1)) (hc : classes[ci]? = some r) (K0 : mh_K0 p s m args c own cc dC dI dA) (hX : mh_P (dC, dI) b w H) (hS : va_S (mh_A b) s.heap H locs) {n : Nat} {f : Nat → Option Nat} (h : w k i = some (a, .inl (dA t, n, .inr (.inr (.inr (.inr f)))))) (hv : w k2 i2 = some (v, .inr (ci, vs))) {j : Nat} (hj : j < n) (hn : n < 2 ^ 31) (hdg : decode cc pc = .ok (.aastore, 1))
    (kk : ∀ (H1 : Heap) (locs1 : List Loc), mh_P (dC, dI) b (mh_set w k i (some (a, .inl (dA t, n, .inr (.inr (.inr (.inr (va_up f j (some v))))))))) H1 → va_S (mh_A b) s.heap H1 locs1 → W p l e R s m args below meth c H1 locs1 cells slots Q (F0 m (pc + 1) ls rest)) : W p l e R s m args below meth c H locs cells slots Q (F0 m pc ls (.ref v :: .int (nI j) :: .ref a :: rest)) :=
  mh_aast t ht hc K0 hX hS h hv (vp_in_nI hj hn) hdg (by rw [nI_clamp (by omega)]; exact kk)
/-- branches on truth values -/
theorem mh_ifeqB (hx : p.tables.exec = Jvm.exec) (hb : c.code = cc) {x : Bool} {off : Int} {tgt : Nat} (hdg : decode cc pc = .ok (.ifCond .eq off, 3)) (ht : (pc : Int) + off = (tgt : Int)) (kt : x = false → W p l e R s m args below meth c H locs cells slots Q (F0 m tgt ls rest)) (kf : x = true → W p l e R s m args below meth c H locs cells slots Q (F0 m (pc + 3) ls rest)) : W p l e R s m args below meth c H locs cells slots Q (F0 m pc ls (.int (mh_b x) :: rest)) :=
  lv_if_eq hx hb hdg ht (fun z => kt (mh_b_eq0.mp z)) (fun z => kf (mh_b_ne0.mp z))
theorem mh_ifneB (hx : p.tables.exec = Jvm.exec) (hb : c.code = cc) {x : Bool} {off : Int} {tgt : Nat} (hdg : decode cc pc = .ok (.ifCond .ne off, 3)) (ht : (pc : Int) + off = (tgt : Int)) (kt : x = true → W p l e R s m args below meth c H locs cells slots Q (F0 m tgt ls rest)) (kf : x = false → W p l e R s m args below meth c H locs cells slots Q (F0 m (pc + 3) ls rest)) : W p l e R s m args below meth c H locs cells slots Q (F0 m pc ls (.int (mh_b x) :: rest)) :=
  lv_if_ne hx hb hdg ht (fun z => kt (mh_b_ne0.mp z)) (fun z => kf (mh_b_eq0.mp z))
/-- a call that returns v -/
theorem mh_callV {y : MethodName} {rm : Room} {av st0 : List Value} {v : Option Value} {Φ : mh_w → Prop} (site : mh_Site p l e R s m args below meth c H locs cells slots (F0 m pc ls st0) rest y av) (hM : mh_Met l b dC dI dA zs y rm av w (mh_V v Φ)) (K0 : mh_K0 p s m args c own cc dC dI dA) (hOK : mh_OK b dC dI dA zs w0 s)
    {nL : Nat} (hml : c.maxLocals = nL) (hsz : ls.size = nL) {cY : ByteArray} {nY : Nat} {rY : Option FieldType} {hsY : List (Nat × Nat × Nat × Nat)} {n : Nat} (C0 : mh_cee y cY nY rY hsY n) (hX : mh_P (dC, dI) b w H) (hS : va_S (mh_A b) s.heap H locs) {ig : Instr} (hdg : decode cc pc = .ok (ig, 3))
    (hfr : rm.frames + 1 ≤ R.frames) (hW9 : (rest.map fun v => v.category).sum ≤ 8) (hlo : 8 + (nY + 11) + rm.locals ≤ R.locals) (h4 : cells + rm.cells ≤ R.cells) (h5 : slots + rm.slots ≤ R.slots)
    (kk : ∀ (w' : mh_w) (H1 : Heap) (locs1 : List Loc), Φ w' → mh_P (dC, dI) b w' H1 → va_S (mh_A b) s.heap H1 locs1 → W p l e R s m args below meth c H1 locs1 (cells + rm.cells) (slots + rm.slots) Q (F0 m (pc + 3) ls (v.toList ++ rest))) :
    W p l e R s m args below meth c H locs cells slots Q (F0 m pc ls st0) := by
  refine mh_call site hM K0 hOK hml hsz C0 hX hS hdg hfr hW9 hlo h4 h5 (fun q w' H1 locs1 hP => ?_) (fun v' w' H1 locs1 hP hX' hS' => ?_)
  · cases hP.1
  · have e := hP.1
    cases e
    exact kk w' H1 locs1 hP.2 hX' hS'
/-- .. and leaves the world as it is -/
theorem mh_callR {y : MethodName} {rm : Room} {av st0 : List Value} {v : Option Value} (site : mh_Site p l e R s m args below meth c H locs cells slots (F0 m pc ls st0) rest y av) (hM : mh_Met l b dC dI dA zs y rm av w (mh_V v (fun w' => w' = w))) (K0 : mh_K0 p s m args c own cc dC dI dA) (hOK : mh_OK b dC dI dA zs w0 s)
    {nL : Nat} (hml : c.maxLocals = nL) (hsz : ls.size = nL) {cY : ByteArray} {nY : Nat} {rY : Option FieldType} {hsY : List (Nat × Nat × Nat × Nat)} {n : Nat} (C0 : mh_cee y cY nY rY hsY n) (hX : mh_P (dC, dI) b w H) (hS : va_S (mh_A b) s.heap H locs) {ig : Instr} (hdg : decode cc pc = .ok (ig, 3))
    (hfr : rm.frames + 1 ≤ R.frames) (hW9 : (rest.map fun v => v.category).sum ≤ 8) (hlo : 8 + (nY + 11) + rm.locals ≤ R.locals) (h4 : cells + rm.cells ≤ R.cells) (h5 : slots + rm.slots ≤ R.slots)
    (kk : ∀ (H1 : Heap) (locs1 : List Loc), mh_P (dC, dI) b w H1 → va_S (mh_A b) s.heap H1 locs1 → W p l e R s m args below meth c H1 locs1 (cells + rm.cells) (slots + rm.slots) Q (F0 m (pc + 3) ls (v.toList ++ rest))) :
    W p l e R s m args below meth c H locs cells slots Q (F0 m pc ls st0) :=
  mh_callV site hM K0 hOK hml hsz C0 hX hS hdg hfr hW9 hlo h4 h5 (fun w' H1 locs1 hw hX' hS' => by subst hw; exact kk H1 locs1 hX' hS')
/-- a call that throws -/
theorem mh_callT {y : MethodName} {rm : Room} {av st0 : List Value} {ci : Nat} {Φ : mh_w → Prop} (site : mh_Site p l e R s m args below meth c H locs cells slots (F0 m pc ls st0) rest y av) (hM : mh_Met l b dC dI dA zs y rm av w (mh_T ci Φ)) (K0 : mh_K0 p s m args c own cc dC dI dA) (hOK : mh_OK b dC dI dA zs w0 s)
    {nL : Nat} (hml : c.maxLocals = nL) (hsz : ls.size = nL) {cY : ByteArray} {nY : Nat} {rY : Option FieldType} {hsY : List (Nat × Nat × Nat × Nat)} {n : Nat} (C0 : mh_cee y cY nY rY hsY n) (hX : mh_P (dC, dI) b w H) (hS : va_S (mh_A b) s.heap H locs) {ig : Instr} (hdg : decode cc pc = .ok (ig, 3))
    (hfr : rm.frames + 1 ≤ R.frames) (hW9 : (rest.map fun v => v.category).sum ≤ 8) (hlo : 8 + (nY + 11) + rm.locals ≤ R.locals) (h4 : cells + rm.cells ≤ R.cells) (h5 : slots + rm.slots ≤ R.slots)
    (kx : ∀ (q : Nat) (w' : mh_w) (H1 : Heap) (locs1 : List Loc), w' 99 0 = some (q, .inr (ci, [])) → Φ w' → mh_P (dC, dI) b w' H1 → va_S (mh_A b) s.heap H1 locs1 → mh_X p l e R s m args below meth c H1 locs1 (cells + rm.cells) (slots + rm.slots) Q (F0 m pc ls rest) q) :
    W p l e R s m args below meth c H locs cells slots Q (F0 m pc ls st0) := by
  refine mh_call site hM K0 hOK hml hsz C0 hX hS hdg hfr hW9 hlo h4 h5 (fun q w' H1 locs1 hP hX' hS' => ?_) (fun v' w' H1 locs1 hP hX' hS' => ?_)
  · obtain ⟨q', e1, e2, e3⟩ := hP
    cases e1
    exact kx q w' H1 locs1 e2 e3 hX' hS'
  · obtain ⟨q', e1, -⟩ := hP
    cases e1
end MHN
section MHB
variable {p : Program} {l : Launch} {e : Env} {R : Room} {s : State} {m : MethodId} {args : Array Value} {below : List Frame} {meth : Method} {c : Code} {H : Heap} {locs : List Loc} {cells slots : Nat} {Q : State → Prop}
variable {cc : ByteArray} {pc : Nat} {ls : Array Slot} {rest : List Value}
theorem mh_icmp_eq (hx : p.tables.exec = Jvm.exec) (hb : c.code = cc) {x y : Nat} (hxx : x < 2 ^ 31) (hyy : y < 2 ^ 31) {off : Int} {tgt : Nat} (hdg : decode cc pc = .ok (.if_icmp .eq off, 3)) (ht : (pc : Int) + off = (tgt : Int)) (kt : x = y → W p l e R s m args below meth c H locs cells slots Q (F0 m tgt ls rest)) (kf : ¬ x = y → W p l e R s m args below meth c H locs cells slots Q (F0 m (pc + 3) ls rest)) : W p l e R s m args below meth c H locs cells slots Q (F0 m pc ls (.int (nI y) :: .int (nI x) :: rest)) :=
  lv_icmp_eq hx hb hdg ht (fun z => kt ((nI_eq hxx hyy).mp z)) (fun z => kf (fun q => z ((nI_eq hxx hyy).mpr q)))
theorem mh_if_eq (hx : p.tables.exec = Jvm.exec) (hb : c.code = cc) {x : Nat} (hxx : x < 2 ^ 31) {off : Int} {tgt : Nat} (hdg : decode cc pc = .ok (.ifCond .eq off, 3)) (ht : (pc : Int) + off = (tgt : Int)) (kt : x = 0 → W p l e R s m args below meth c H locs cells slots Q (F0 m tgt ls rest)) (kf : ¬ x = 0 → W p l e R s m args below meth c H locs cells slots Q (F0 m (pc + 3) ls rest)) : W p l e R s m args below meth c H locs cells slots Q (F0 m pc ls (.int (nI x) :: rest)) :=
  lv_if_eq hx hb hdg ht (fun z => kt ((nI_eq hxx (by decide)).mp z)) (fun z => kf (fun q => z (by rw [q]; rfl)))
theorem mh_icmp_ne (hx : p.tables.exec = Jvm.exec) (hb : c.code = cc) {x y : Nat} (hxx : x < 2 ^ 31) (hyy : y < 2 ^ 31) {off : Int} {tgt : Nat} (hdg : decode cc pc = .ok (.if_icmp .ne off, 3)) (ht : (pc : Int) + off = (tgt : Int)) (kt : ¬ x = y → W p l e R s m args below meth c H locs cells slots Q (F0 m tgt ls rest)) (kf : x = y → W p l e R s m args below meth c H locs cells slots Q (F0 m (pc + 3) ls rest)) : W p l e R s m args below meth c H locs cells slots Q (F0 m pc ls (.int (nI y) :: .int (nI x) :: rest)) :=
  lv_icmp_ne hx hb hdg ht (fun z => kt (fun q => z ((nI_eq hxx hyy).mpr q))) (fun z => kf ((nI_eq hxx hyy).mp z))
theorem mh_if_ne (hx : p.tables.exec = Jvm.exec) (hb : c.code = cc) {x : Nat} (hxx : x < 2 ^ 31) {off : Int} {tgt : Nat} (hdg : decode cc pc = .ok (.ifCond .ne off, 3)) (ht : (pc : Int) + off = (tgt : Int)) (kt : ¬ x = 0 → W p l e R s m args below meth c H locs cells slots Q (F0 m tgt ls rest)) (kf : x = 0 → W p l e R s m args below meth c H locs cells slots Q (F0 m (pc + 3) ls rest)) : W p l e R s m args below meth c H locs cells slots Q (F0 m pc ls (.int (nI x) :: rest)) :=
  lv_if_ne hx hb hdg ht (fun z => kt (fun q => z (by rw [q]; rfl))) (fun z => kf ((nI_eq hxx (by decide)).mp z))
theorem mh_icmp_lt (hx : p.tables.exec = Jvm.exec) (hb : c.code = cc) {x y : Nat} (hxx : x < 2 ^ 31) (hyy : y < 2 ^ 31) {off : Int} {tgt : Nat} (hdg : decode cc pc = .ok (.if_icmp .lt off, 3)) (ht : (pc : Int) + off = (tgt : Int)) (kt : x < y → W p l e R s m args below meth c H locs cells slots Q (F0 m tgt ls rest)) (kf : y ≤ x → W p l e R s m args below meth c H locs cells slots Q (F0 m (pc + 3) ls rest)) : W p l e R s m args below meth c H locs cells slots Q (F0 m pc ls (.int (nI y) :: .int (nI x) :: rest)) :=
  lv_icmp_lt hx hb hdg ht (fun z => kt ((nI_ltI hxx hyy).mp z)) (fun z => kf (Nat.not_lt.mp (fun u => z ((nI_ltI hxx hyy).mpr u))))
theorem mh_if_lt (hx : p.tables.exec = Jvm.exec) (hb : c.code = cc) {x : Nat} (hxx : x < 2 ^ 31) {off : Int} {tgt : Nat} (hdg : decode cc pc = .ok (.ifCond .lt off, 3)) (ht : (pc : Int) + off = (tgt : Int)) (kt : x < 0 → W p l e R s m args below meth c H locs cells slots Q (F0 m tgt ls rest)) (kf : 0 ≤ x → W p l e R s m args below meth c H locs cells slots Q (F0 m (pc + 3) ls rest)) : W p l e R s m args below meth c H locs cells slots Q (F0 m pc ls (.int (nI x) :: rest)) :=
  lv_if_lt hx hb hdg ht (fun z => kt ((nI_ltI hxx (b := 0) (by decide)).mp z)) (fun z => kf (Nat.not_lt.mp (fun u => z ((nI_ltI hxx (b := 0) (by decide)).mpr u))))
theorem mh_icmp_ge (hx : p.tables.exec = Jvm.exec) (hb : c.code = cc) {x y : Nat} (hxx : x < 2 ^ 31) (hyy : y < 2 ^ 31) {off : Int} {tgt : Nat} (hdg : decode cc pc = .ok (.if_icmp .ge off, 3)) (ht : (pc : Int) + off = (tgt : Int)) (kt : y ≤ x → W p l e R s m args below meth c H locs cells slots Q (F0 m tgt ls rest)) (kf : x < y → W p l e R s m args below meth c H locs cells slots Q (F0 m (pc + 3) ls rest)) : W p l e R s m args below meth c H locs cells slots Q (F0 m pc ls (.int (nI y) :: .int (nI x) :: rest)) :=
  lv_icmp_ge hx hb hdg ht (fun z => kt ((nI_leI hyy hxx).mp z)) (fun z => kf (Nat.not_le.mp (fun u => z ((nI_leI hyy hxx).mpr u))))
theorem mh_if_ge (hx : p.tables.exec = Jvm.exec) (hb : c.code = cc) {x : Nat} (hxx : x < 2 ^ 31) {off : Int} {tgt : Nat} (hdg : decode cc pc = .ok (.ifCond .ge off, 3)) (ht : (pc : Int) + off = (tgt : Int)) (kt : 0 ≤ x → W p l e R s m args below meth c H locs cells slots Q (F0 m tgt ls rest)) (kf : x < 0 → W p l e R s m args below meth c H locs cells slots Q (F0 m (pc + 3) ls rest)) : W p l e R s m args below meth c H locs cells slots Q (F0 m pc ls (.int (nI x) :: rest)) :=
  lv_if_ge hx hb hdg ht (fun z => kt ((nI_leI (a := 0) (by decide) hxx).mp z)) (fun z => kf (Nat.not_le.mp (fun u => z ((nI_leI (a := 0) (by decide) hxx).mpr u))))
theorem mh_icmp_gt (hx : p.tables.exec = Jvm.exec) (hb : c.code = cc) {x y : Nat} (hxx : x < 2 ^ 31) (hyy : y < 2 ^ 31) {off : Int} {tgt : Nat} (hdg : decode cc pc = .ok (.if_icmp .gt off, 3)) (ht : (pc : Int) + off = (tgt : Int)) (kt : y < x → W p l e R s m args below meth c H locs cells slots Q (F0 m tgt ls rest)) (kf : x ≤ y → W p l e R s m args below meth c H locs cells slots Q (F0 m (pc + 3) ls rest)) : W p l e R s m args below meth c H locs cells slots Q (F0 m pc ls (.int (nI y) :: .int (nI x) :: rest)) :=
  lv_icmp_gt hx hb hdg ht (fun z => kt ((nI_ltI hyy hxx).mp z)) (fun z => kf (Nat.not_lt.mp (fun u => z ((nI_ltI hyy hxx).mpr u))))
theorem mh_if_gt (hx : p.tables.exec = Jvm.exec) (hb : c.code = cc) {x : Nat} (hxx : x < 2 ^ 31) {off : Int} {tgt : Nat} (hdg : decode cc pc = .ok (.ifCond .gt off, 3)) (ht : (pc : Int) + off = (tgt : Int)) (kt : 0 < x → W p l e R s m args below meth c H locs cells slots Q (F0 m tgt ls rest)) (kf : x ≤ 0 → W p l e R s m args below meth c H locs cells slots Q (F0 m (pc + 3) ls rest)) : W p l e R s m args below meth c H locs cells slots Q (F0 m pc ls (.int (nI x) :: rest)) :=
  lv_if_gt hx hb hdg ht (fun z => kt ((nI_ltI (a := 0) (by decide) hxx).mp z)) (fun z => kf (Nat.not_lt.mp (fun u => z ((nI_ltI (a := 0) (by decide) hxx).mpr u))))
theorem mh_icmp_le (hx : p.tables.exec = Jvm.exec) (hb : c.code = cc) {x y : Nat} (hxx : x < 2 ^ 31) (hyy : y < 2 ^ 31) {off : Int} {tgt : Nat} (hdg : decode cc pc = .ok (.if_icmp .le off, 3)) (ht : (pc : Int) + off = (tgt : Int)) (kt : x ≤ y → W p l e R s m args below meth c H locs cells slots Q (F0 m tgt ls rest)) (kf : y < x → W p l e R s m args below meth c H locs cells slots Q (F0 m (pc + 3) ls rest)) : W p l e R s m args below meth c H locs cells slots Q (F0 m pc ls (.int (nI y) :: .int (nI x) :: rest)) :=
  lv_icmp_le hx hb hdg ht (fun z => kt ((nI_leI hxx hyy).mp z)) (fun z => kf (Nat.not_le.mp (fun u => z ((nI_leI hxx hyy).mpr u))))
theorem mh_if_le (hx : p.tables.exec = Jvm.exec) (hb : c.code = cc) {x : Nat} (hxx : x < 2 ^ 31) {off : Int} {tgt : Nat} (hdg : decode cc pc = .ok (.ifCond .le off, 3)) (ht : (pc : Int) + off = (tgt : Int)) (kt : x ≤ 0 → W p l e R s m args below meth c H locs cells slots Q (F0 m tgt ls rest)) (kf : 0 < x → W p l e R s m args below meth c H locs cells slots Q (F0 m (pc + 3) ls rest)) : W p l e R s m args below meth c H locs cells slots Q (F0 m pc ls (.int (nI x) :: rest)) :=
  lv_if_le hx hb hdg ht (fun z => kt ((nI_leI hxx (b := 0) (by decide)).mp z)) (fun z => kf (Nat.not_le.mp (fun u => z ((nI_leI hxx (b := 0) (by decide)).mpr u))))
end MHB
/-! WHAT THE CELLS SAY: sets of keys, numbers, intentions -/
/-- outside the kinds k, .., k + n - 1 at i nothing has changed -/
def mh_F (w w' : mh_w) (k n i : Nat) : Prop := ∀ k' i', ¬ (k ≤ k' ∧ k' < k + n ∧ i' = i) → w' k' i' = w k' i'
theorem mh_F.rf {w : mh_w} {k n i : Nat} : mh_F w w k n i := fun _ _ _ => rfl
theorem mh_F.tr {w w1 w2 : mh_w} {k n i k1 n1 k2 n2 : Nat} (h1 : mh_F w w1 k1 n1 i) (h2 : mh_F w1 w2 k2 n2 i) (e1 : k ≤ k1) (e2 : k1 + n1 ≤ k + n) (e3 : k ≤ k2) (e4 : k2 + n2 ≤ k + n) : mh_F w w2 k n i :=
  fun k' i' h => (h2 k' i' (fun z => h (by omega))).trans (h1 k' i' (fun z => h (by omega)))
theorem mh_F.set {w w1 : mh_w} {k n i k1 : Nat} {q : Option (Nat × va_E)} (h1 : mh_F w w1 k n i) (e1 : k ≤ k1) (e2 : k1 < k + n) : mh_F w (mh_set w1 k1 i q) k n i :=
  fun k' i' h => (mh_set_ne w1 k1 i q (fun z => h (by omega))).trans (h1 k' i' h)
def rK (dA : Nat → ClassId) (w : mh_w) (k i a : Nat) (rd : Nat → Bool) : Prop := ∃ (a1 : Nat) (f : Nat → Int64), w k i = some (a, .inr (0, [.ref a1])) ∧ w (k + 1) i = some (a1, .inl (dA 1, 4, .inr (.inl f))) ∧ ∀ j, j < 256 → pb_b f j = rd j
theorem rK.to {dA : Nat → ClassId} {w w' : mh_w} {k i a : Nat} {rd rd' : Nat → Bool} (h : rK dA w k i a rd) (h1 : ∀ z, z < 2 → w' (k + z) i = w (k + z) i) (h2 : ∀ j, j < 256 → rd j = rd' j) : rK dA w' k i a rd' := by
  obtain ⟨a1, f, e1, e2, e3⟩ := h
  exact ⟨a1, f, (h1 0 (by omega)).trans e1, (h1 1 (by omega)).trans e2, fun j hj => (e3 j hj).trans (h2 j hj)⟩
def rN (dA : Nat → ClassId) (w : mh_w) (k i a : Nat) (st : Nat → Option Int64) : Prop := ∃ (a1 a3 : Nat) (f : Nat → Int64), w k i = some (a, .inr (1, [.ref a1, .ref a3])) ∧ rK dA w (k + 1) i a1 (fun j => (st j).isSome) ∧ w (k + 3) i = some (a3, .inl (dA 1, 256, .inr (.inl f))) ∧ ∀ j v, j < 256 → st j = some v → f j = v
theorem rN.to {dA : Nat → ClassId} {w w' : mh_w} {k i a : Nat} {st st' : Nat → Option Int64} (h : rN dA w k i a st) (h1 : ∀ z, z < 4 → w' (k + z) i = w (k + z) i) (h2 : ∀ j, j < 256 → st j = st' j) : rN dA w' k i a st' := by
  obtain ⟨a1, a3, f, e1, e2, e3, e4⟩ := h
  exact ⟨a1, a3, f, (h1 0 (by omega)).trans e1, e2.to (fun z hz => by have := h1 (1 + z) (by omega); rwa [← Nat.add_assoc] at this) (fun j hj => by rw [h2 j hj]), (h1 3 (by omega)).trans e3, fun j v hj hv => e4 j v hj ((h2 j hj).trans hv)⟩
def rI (dA : Nat → ClassId) (w : mh_w) (k i a : Nat) (x : st_I) : Prop := ∃ (a1 a3 a4 a5 a6 a7 : Nat) (lo hi wk hn : Nat → Int32) (nn : Nat → Int64),
  w k i = some (a, .inr (2, [.int (nI (iv_sv x)), .int (nI (iv_sn x)), .int (nI (iv_lv x)), .ref a1, .ref a3, .ref a4, .ref a5, .ref a6, .ref a7, .int (nI (iv_np x)), .int (nI (iv_nw x)), .int (mh_b (iv_gd x))])) ∧ rK dA w (k + 1) i a1 (iv_rd x) ∧
  w (k + 3) i = some (a3, .inl (dA 0, 8, .inl lo)) ∧ w (k + 4) i = some (a4, .inl (dA 0, 8, .inl hi)) ∧ w (k + 5) i = some (a5, .inl (dA 0, 8, .inl wk)) ∧ w (k + 6) i = some (a6, .inl (dA 2, 8, .inl hn)) ∧ w (k + 7) i = some (a7, .inl (dA 1, 8, .inr (.inl nn))) ∧
  (∀ j, j < iv_np x → lo j = nI (iv_lo x j) ∧ hi j = nI (iv_hi x j)) ∧ ∀ j, j < iv_nw x → wk j = nI (iv_wk x j) ∧ hn j = mh_b (iv_wv x j).isSome ∧ ∀ v, iv_wv x j = some v → nn j = v
theorem rI.to {dA : Nat → ClassId} {w w' : mh_w} {k i k' i' a : Nat} {x : st_I} (h : rI dA w k i a x) (h1 : ∀ z, z < 8 → w' (k' + z) i' = w (k + z) i) : rI dA w' k' i' a x := by
  obtain ⟨a1, a3, a4, a5, a6, a7, lo, hi, wk, hn, nn, e0, ⟨b1, f, e1, e2, g⟩, e3, e4, e5, e6, e7, e8, e9⟩ := h
  exact ⟨a1, a3, a4, a5, a6, a7, lo, hi, wk, hn, nn, (h1 0 (by omega)).trans e0, ⟨b1, f, (h1 1 (by omega)).trans e1, (h1 2 (by omega)).trans e2, g⟩, (h1 3 (by omega)).trans e3, (h1 4 (by omega)).trans e4, (h1 5 (by omega)).trans e5, (h1 6 (by omega)).trans e6, (h1 7 (by omega)).trans e7, e8, e9⟩
