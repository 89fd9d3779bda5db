/-! a static field that holds a reference, below b, which nobody writes -/
def mh_zl (C n d : String) (b : Nat) (U : State) (H : Heap) : Prop := ∃ (c : ClassId) (k : Class) (i : Nat) (f : Field) (a : Nat) (cell : Cell) (v : Value), U.vm.findClass C = some c ∧ U.fieldFound? C n d = some (c, k, i, f) ∧ f.isStatic = true ∧ k.statics = some a ∧ H[a]? = some cell ∧ cell.vm.isStatics = true ∧ cell.cls = c ∧ f.slot < cell.slots.size ∧ k.staticTypes[f.slot]? = some f.type ∧ a < b ∧ cell.slots[f.slot]? = some v ∧ v.isRef = true
theorem mh_zl.to {C n d : String} {b : Nat} {u U : State} {H H1 : Heap} (h : mh_zl C n d b u H) (hvm : u.vm.Alike U.vm) (hq : ∀ a : Nat, a < H.size → a < b → H1[a]? = H[a]?) : mh_zl C n d b U H1 := by
  obtain ⟨c, k, i, f, a, cell, v, h1, h2, h3, h4, h5, h6, h7, h8, h9, h10, h11, h12⟩ := h
  obtain ⟨k', hi', he⟩ := State.fieldFound?_setVm hvm h2
  exact ⟨c, k', i, f, a, cell, v, by rw [hvm.findClass]; exact h1, hi', h3, by rw [he]; exact h4, by rw [hq a (Array.getElem?_eq_some_iff.mp h5).1 h10]; exact h5, h6, h7, h8, by rw [he]; exact h9, h10, h11, h12⟩
theorem mh_zl.lay {C n d : String} {b : Nat} {s : State} {args : Array Value} (h : mh_zl C n d b s s.heap) : (Cond.laysStatic C n d).before args s = true := by
  obtain ⟨c, k, i, f, a, cell, v, h1, h2, h3, h4, h5, h6, h7, h8, h9, h10, h11, h12⟩ := h
  show (Cond.laysStatic C n d).holds args s none s [] = true
  exact Cond.laysStatic_of h1 h2 h3 h4 h5 h6 h7 h8 h9
theorem mh_zl.isRef {C n d : String} {b : Nat} {s : State} {args : Array Value} (h : mh_zl C n d b s s.heap) : (Cond.isRef (.static C n d)).before args s = true := by
  obtain ⟨c, k, i, f, a, cell, v, h1, h2, h3, h4, h5, h6, h7, h8, h9, h10, h11, h12⟩ := h
  have he : (Term.static C n d).eval args s none [] s = some v := by
    simp [Term.eval, State.fieldNamed?, h2, h3, h4, h5, h6, h11]
  simp only [Cond.before, Cond.holds, Cond.value, he]
  cases v <;> simp_all [Value.isRef]
theorem mh_zl.of {args : Array Value} {s : State} {C n d : String} {b : Nat} (hl : (Cond.laysStatic C n d).before args s = true) (h : (Cond.isRef (.static C n d)).before args s = true) (hb : s.heap.size ≤ b) : mh_zl C n d b s s.heap := by
  obtain ⟨c, k, i, f, a, cell, h1, h2, h3, h4, h5, h6, h7, h8, h9⟩ := Cond.laysStatic_spec hl
  obtain ⟨u, hu⟩ := Cond.staticRefV h2 h3 h4 h5 h6 (args := args) (first := s) (o := none) (idx := []) h
  exact ⟨c, k, i, f, a, cell, u.v, h1, h2, h3, h4, h5, h6, h7, h8, h9, Nat.lt_of_lt_of_le (Array.getElem?_eq_some_iff.mp h5).1 hb, hu, u.2⟩
/-- the four words of Throwable's statics; the others of a list -/
def mh_xo (w : Cond) : Bool := !(decide (w = .isRef (.static Bundle.tN "UNASSIGNED_STACK" Bundle.steD))) && !(decide (w = .isRef (.static Bundle.tN "SUPPRESSED_SENTINEL" Bundle.listD))) && !(decide (w = .laysStatic Bundle.tN "UNASSIGNED_STACK" Bundle.steD)) && !(decide (w = .laysStatic Bundle.tN "SUPPRESSED_SENTINEL" Bundle.listD))
theorem mh_own {args : Array Value} {s : State} {b : Nat} {L : List Cond} (h1 : ∀ w ∈ L.filter mh_xo, w.before args s = true) (hU : mh_zl Bundle.tN "UNASSIGNED_STACK" Bundle.steD b s s.heap) (hN : mh_zl Bundle.tN "SUPPRESSED_SENTINEL" Bundle.listD b s s.heap) : ∀ w ∈ L, w.before args s = true := by
  intro w hw
  by_cases e1 : w = .isRef (.static Bundle.tN "UNASSIGNED_STACK" Bundle.steD)
  · rw [e1]; exact hU.isRef
  · by_cases e2 : w = .isRef (.static Bundle.tN "SUPPRESSED_SENTINEL" Bundle.listD)
    · rw [e2]; exact hN.isRef
    · by_cases e3 : w = .laysStatic Bundle.tN "UNASSIGNED_STACK" Bundle.steD
      · rw [e3]; exact hU.lay
      · by_cases e4 : w = .laysStatic Bundle.tN "SUPPRESSED_SENTINEL" Bundle.listD
        · rw [e4]; exact hN.lay
        · exact h1 w (List.mem_filter.mpr ⟨hw, by simp [mh_xo, e1, e2, e3, e4]⟩)
section MHT
variable {p : Program} {l : Launch} {e : Env} {R : Room} {s : State} {m₀ : MethodId} {args : Array Value} {below : List Frame} {meth : Method} {c : Code} {V : State} {locs : List Loc} {cells slots : Nat}
set_option maxHeartbeats 1000000 in
/-- an exception's constructor with a message, stack traces off: nothing but the new cell changes -/
theorem mh_ctorS (X : Stand p l e R s m₀ args below meth c V locs cells slots) (hexec : p.tables.exec = Jvm.exec) (htr : e.platform.stackTraces = false) {own cls : String} {names : List String} {ic b : Nat}
    (hown : s.vm.findClass own = some m₀.cls) (hcls : Bundle.fit cls = true) (hnames : ∀ n ∈ names, Bundle.fit n = true)
    (h : ∀ a ∈ Bundle.ownAtoms own ic cls names, a.before args s = true) (hU : mh_zl Bundle.tN "UNASSIGNED_STACK" Bundle.steD b s s.heap) (hlocs : ∀ x ∈ locs, b ≤ x.base)
    {a : Addr} {cX : ClassId} {kX : Class} (hfoundX : s.vm.findClass cls = some cX) (hkX : s.vm.classes[cX]? = some kX) (hcell : V.heap[a]? = some (freshCell cX kX)) (hnew : s.heap.size ≤ a)
    {msg : Value} (hmsg : msg.isRef = true)
    {g : JFrame} (hg : g.method = m₀) (hsize : g.locals.size = c.maxLocals) {rest : List Value} (hstack : g.stack = msg :: .ref a :: .ref a :: rest)
    (hd6 : decode c.code g.pc = .ok (.invokespecial ic, 3))
    (hRframes : names.length + 3 < R.frames) (hRlocals : 2 * g.monitorRoom + ((Value.ref a :: rest).map fun v => v.category).sum + (13 * (names.length + 1) + 42) ≤ R.locals) :
    ∃ (vm' : Vm) (ce : Cell) (L : List Loc), Stand p l e R s m₀ args below meth c ((V.setVm vm').setCell a ce) (locs ++ L) cells slots ∧ (∀ y ∈ L, y.base = a) ∧ ce.cls = cX ∧ ce.vm = .none ∧
      ∀ target, Steps p.tables e below (((V.setVm vm').setCell a ce).setTop { g with stack := .ref a :: rest, pc := g.pc + 3 }) target → Steps p.tables e below (V.setTop g) target := by
  have howns : e.platform.frameOwnsMonitors = true := by rw [X.admits.platform]
  have hfin : e.platform.finalization = false := by rw [X.admits.platform]
  have hpl : e.platform.magicAccessors = ({} : Platform).magicAccessors := by rw [X.admits.platform]
  have a' : ∀ x, x ∈ Bundle.ownAtoms own ic cls names → x.holds args s none s [] = true := fun x hx => h x hx
  obtain ⟨T, Z0, L, -, Y⟩ := ThrowableC.of_atoms (args := args) howns hfin hpl (fun x hx => h x (by simp [Bundle.ownAtoms, hx]))
  obtain ⟨Z, M, LZ, LM, hnZ⟩ := Init0T.ofS_atoms (args := args) hpl L Y (fun x hx => h x (by simp [Bundle.ownAtoms, hx]))
  obtain ⟨P1, Ps, hlen, L1, hL, hP1m, hlink1, hlink⟩ := Bundle.chainS (args := args) hpl hnZ names cls hcls hnames (fun x hx => h x (by simp [Bundle.ownAtoms, hx]))
  have hfound : s.vm.findClass cls = some P1.m.cls := findClass_of_methodNamed hP1m
  cases Option.some.inj (hfoundX.symm.trans hfound)
  obtain ⟨c1, kX', hc1, hk, hord, -, -, hn6⟩ := Cond.instantiable_spec (a' (.instantiable cls 6) (by simp [Bundle.ownAtoms]))
  cases Option.some.inj (hc1.symm.trans hfound)
  cases Option.some.inj (hkX.symm.trans hk)
  have hsel0 : selectMethod e.platform s.vm P1.m.cls T.fill0 = .method T.fill0 := by
    obtain ⟨c2, r2, m2, q1, q2, q3, q4, -⟩ := Cond.selects_spec (a' (.selects cls Bundle.tFill0 Bundle.tFill0) (by simp [Bundle.ownAtoms]))
    cases Option.some.inj (q1.symm.trans hfound)
    cases Option.some.inj (q2.symm.trans (State.methodFound?_of_named Y.fill0 (by decide)))
    cases Option.some.inj (q3.symm.trans Y.fill0)
    rw [Launch.admits_selectMethod X.admits]; exact q4
  have hselF : selectMethod e.platform s.vm P1.m.cls T.fill = .method T.fill := by
    obtain ⟨c2, r2, m2, q1, q2, q3, q4, -⟩ := Cond.selects_spec (a' (.selects cls Bundle.tFill Bundle.tFill) (by simp [Bundle.ownAtoms]))
    cases Option.some.inj (q1.symm.trans hfound)
    cases Option.some.inj (q2.symm.trans (State.methodFound?_of_named Y.fill (by decide)))
    cases Option.some.inj (q3.symm.trans Y.fill)
    rw [Launch.admits_selectMethod X.admits]; exact q4
  obtain ⟨cellS0, hcS0, hiss⟩ := Y.statics
  have hlow : T.aS < b := by
    obtain ⟨c9, k9, i9, f9, a9, cell9, v9, -, g2, -, g4, -, -, -, -, -, g10, -, -⟩ := hU
    have e9 := Option.some.inj (g2.symm.trans Y.unassigned)
    have e10 : k9 = T.kT := congrArg (fun z => z.2.1) e9
    rw [e10, L.statics] at g4
    rw [Option.some.inj g4]; exact g10
  obtain ⟨u0, hu0⟩ := Cond.staticRefV Y.unassigned L.unassignedStatic L.statics hcS0 hiss (a' (.isRef (.static Bundle.tN "UNASSIGNED_STACK" Bundle.steD)) (by simp [Bundle.ownAtoms]))
  obtain ⟨sen, hsen⟩ := Cond.staticRefV Y.sentinel L.sentinelStatic L.statics hcS0 hiss (a' (.isRef (.static Bundle.tN "SUPPRESSED_SENTINEL" Bundle.listD)) (by simp [Bundle.ownAtoms]))
  obtain ⟨ci198, i198, fB, hk198, hg198, ha198, hsB, -, hnB, htB, hffB⟩ := Cond.ownField (t := .object "java/lang/Object") Y.found L.cls (by decide +kernel) (a' (.fieldLink Bundle.tN 198 Bundle.tN "backtrace" "Ljava/lang/Object;") (by simp [Bundle.ownAtoms])) (a' (.lays Bundle.tN Bundle.tN "backtrace" "Ljava/lang/Object;") (by simp [Bundle.ownAtoms])) e.platform hpl
  obtain ⟨cellS, hcS', heS, -, hkeep⟩ := X.same.2.2.2.2.2 T.aS cellS0 hcS0
  have hcellS : V.heap[T.aS]? = some cellS := hcS'
  have hout' : ∀ i, (⟨T.aS, i⟩ : Loc) ∉ locs := fun i hmem => absurd (hlocs _ hmem) (Nat.not_le.mpr hlow)
  have hknownS : cellS.vm ≠ .unknown := by
    rw [heS]; intro hu
    rw [show cellS0.vm = .unknown from hu] at hiss
    cases hiss
  have hneS : T.aS ≠ a := Nat.ne_of_lt (Nat.lt_of_lt_of_le (Array.getElem?_eq_some_iff.mp hcS0).1 hnew)
  obtain ⟨iM, hffM⟩ := Y.msg
  obtain ⟨tyC, dC, hdC, hdnC⟩ := Cond.laysAt hfound hk Y.cause (a' (.lays cls Bundle.tN "cause" "Ljava/lang/Throwable;") (by simp [Bundle.ownAtoms]))
  obtain ⟨tyS, dS, hdS, hdnS⟩ := Cond.laysAt hfound hk Y.stack (a' (.lays cls Bundle.tN "stackTrace" Bundle.steD) (by simp [Bundle.ownAtoms]))
  obtain ⟨tyP, dP, hdP, hdnP⟩ := Cond.laysAt hfound hk Y.supp (a' (.lays cls Bundle.tN "suppressedExceptions" Bundle.listD) (by simp [Bundle.ownAtoms]))
  obtain ⟨tyM, dM, hdM, hdnM⟩ := Cond.laysAt hfound hk hffM (a' (.lays cls Bundle.tN "detailMessage" "Ljava/lang/String;") (by simp [Bundle.ownAtoms]))
  obtain ⟨tyB, dB, hdB, hdnB⟩ := Cond.laysAt hfound hk hffB (a' (.lays cls Bundle.tN "backtrace" "Ljava/lang/Object;") (by simp [Bundle.ownAtoms]))
  have bC := Cond.laysApart hdB hdC hdnB hdnC (by rw [hnB, Y.causeName]; decide)
  have bS := Cond.laysApart hdB hdS hdnB hdnS (by rw [hnB, Y.stackName]; decide)
  have bP := Cond.laysApart hdB hdP hdnB hdnP (by rw [hnB, Y.suppName]; decide)
  have hskip : SkipFacts T e.platform s (fun u => u) u0 ((preparedCellV T.toThrowableT (freshCell P1.m.cls kX) a u0 sen).withEntry V.cur) :=
    ⟨{ ci198 := ci198, i198 := i198, fBack := fB }, ⟨hk198, hg198, ha198, hsB⟩, by
      have := fresh_default (c := P1.m.cls) tyB
      rw [htB] at this
      simpa [preparedCellV, Cell.setSlot, Cell.withEntry, Array.getElem?_setIfInBounds, bC, bS, bP, bC.symm, bS.symm, bP.symm, defaultValue] using this, fun _ _ => rfl⟩
  obtain ⟨tm, methC, cdC, kC, vm₁, hnC, -, -, -, -, -, -, -, hW₁, st1⟩ := Steps.initColdS (tb := p.tables) (e := e) (below := below) (s := s) (U := V) X.here hexec X.warmed hpl hown (t := Bundle.initS cls) rfl rfl (Bundle.fit_spec hcls).2
    (a' (.methodLink own ic (Bundle.initS cls)) (by simp [Bundle.ownAtoms])) (h (.instanceMethod (Bundle.initS cls)) (by cases names <;> simp [Bundle.ownAtoms, Bundle.chainSAtoms, Bundle.passSAtoms])) (bytes := Bundle.six) (maxL := 2) (h (.code (Bundle.initS cls) Bundle.six 2 none) (by cases names <;> simp [Bundle.ownAtoms, Bundle.chainSAtoms, Bundle.passSAtoms]))
    (f := g) hg (a := a) (msg := msg) (rest := .ref a :: rest) hstack hd6
  cases Option.some.inj (hnC.symm.trans hP1m)
  have X₁ := X.noted hW₁
  obtain ⟨vm₂, X₂, st2⟩ := X₁.ctorMessageOffV hexec (g := { g with stack := .ref a :: rest }) hg hsize T L Z LZ M LM (P1 :: Ps)
    (fun P hP => by rcases List.mem_cons.mp hP with rfl | hP; exact L1; exact hL P hP) ⟨hlink1, hlink⟩ (u0 := u0) (sen := sen) (self := a) hmsg (cell := freshCell P1.m.cls kX) (cellS := cellS)
    hcell (fun _ => by simp) (by simp) rfl rfl hsel0 hselF hcellS hneS hknownS (by rw [hkeep _ (hout' _)]; exact hu0) (by rw [hkeep _ (hout' _)]; exact hsen)
    (Takes.of_laid hk hord tyC (by rw [Y.causeType]; rfl)) (Takes.of_laid hk hord tyS (by rw [Y.stackType]; exact fits_refV_array _ u0)) (Takes.of_laid hk hord tyP (by rw [Y.suppType]; exact fits_refV_object _ sen))
    (Takes.of_laid hk hord tyM (by rw [Y.msgType]; exact fits_refV_object _ ⟨msg, hmsg⟩)) Y.objLocals hskip htr [] hd6
    (by simp only [List.length_cons, hlen]; omega) (by simp only [List.length_cons, hlen]; exact hRlocals)
  refine ⟨vm₂, _, _, X₂, fun y hy => ?_, rfl, rfl, fun target hwalk => st1 _ (fun acts => ?_)⟩
  · simp only [List.mem_cons, List.not_mem_nil, or_false] at hy
    rcases hy with rfl | rfl | rfl | rfl | rfl <;> rfl
  · rw [doInvoke_state]
    exact st2 _ hwalk
/-- a handler of the method's own table takes it: the rows ahead pass it, cold or warm -/
def mh_hp (pl : Platform) (s₀ : State) (d : ClassId) (pc : Nat) (thrown : ClassId) (y : ExceptionTableEntry) : Prop :=
  covers y pc = false ∨ (y.catchType ≠ 0 ∧ ∃ c, s₀.vm.ClassLinks pl d y.catchType c ∧ s₀.vm.assignable thrown c = false)
theorem mh_goLink {Q : Handler → Pre} {E : CtlPost} {e : Env} {d : Bool} {acts : List Action} {s : State} {f : JFrame} {a : Addr} {x : ExceptionTableEntry} {t : List ExceptionTableEntry} {c : ClassId} {cell : Cell} (hx : covers x f.pc = true) (h0 : x.catchType ≠ 0)
    (hl : s.vm.ClassLinks e.platform f.method.cls x.catchType c) (hcell : s.heap[a]? = some cell) (hobj : ∀ k, cell.vm ≠ .statics k)
    (hk : ∃ k, s.vm.classes[cell.cls]? = some k) (hc : ∃ k, s.vm.classes[c]? = some k) :
    wp (findHandler.go f a (x :: t)) Q E e d acts s ↔ if s.vm.assignable cell.cls c = true then Q (.found x.handlerPc) d acts (s.setVm (s.vm.noted f.method.cls x.catchType (.cls c))) else wp (findHandler.go f a t) Q E e d acts (s.setVm (s.vm.noted f.method.cls x.catchType (.cls c))) := by
  simp only [covers] at hx
  obtain ⟨ha, ht⟩ := (resolveClass_links e.toSetting hl).op (op := VmOp.resolveClass f.method.cls x.catchType) rfl
  have hal : s.vm.Alike (s.vm.noted f.method.cls x.catchType (.cls c)) := (Vm.Alike.refl s.vm).noted _ _ _
  obtain ⟨k1, hk1⟩ := hk
  obtain ⟨k2, hk2⟩ := hc
  obtain ⟨k1', hk1', -⟩ := hal.2.2 _ _ hk1
  obtain ⟨k2', hk2', -⟩ := hal.2.2 _ _ hk2
  cases hf : s.vm.assignable cell.cls c with
  | true =>
    have hf' : (s.vm.noted f.method.cls x.catchType (.cls c)).assignable cell.cls c = true := by rw [hal.assignable]; exact hf
    simp [findHandler.go, hx, h0, ha, ht, hcell, hobj, hk1', hk2', hf', VmOp.dirties, VmOp.acts]
  | false =>
    have hf' : (s.vm.noted f.method.cls x.catchType (.cls c)).assignable cell.cls c = false := by rw [hal.assignable]; exact hf
    simp [findHandler.go, hx, h0, ha, ht, hcell, hobj, hk1', hk2', hf', VmOp.dirties, VmOp.acts]
theorem mh_goRows {e : Env} {s₀ : State} {f : JFrame} {a : Addr} {cell : Cell} (hobj : ∀ k, cell.vm ≠ .statics k) (hk0 : ∃ k, s₀.vm.classes[cell.cls]? = some k)
    (x : ExceptionTableEntry) (rest : List ExceptionTableEntry) (hx : covers x f.pc = true) (h0 : x.catchType ≠ 0) {cT : ClassId} (hlT : s₀.vm.ClassLinks e.platform f.method.cls x.catchType cT) (hfit : s₀.vm.assignable cell.cls cT = true) :
    ∀ (pre : List ExceptionTableEntry) (S : State), s₀.WarmedH S.vm → S.heap[a]? = some cell → (∀ y ∈ pre, mh_hp e.platform s₀ f.method.cls f.pc cell.cls y) →
      ∃ vm', s₀.WarmedH vm' ∧ ∀ (Q : Handler → Pre) (E : CtlPost) (d : Bool) (acts : List Action), wp (findHandler.go f a (pre ++ x :: rest)) Q E e d acts S ↔ Q (.found x.handlerPc) d acts (S.setVm vm') := by
  obtain ⟨k0, hk0⟩ := hk0
  intro pre
  induction pre with
  | nil =>
    intro S hW hcell _
    obtain ⟨k0', hk0', -⟩ := hW.alike.2.2 _ _ hk0
    obtain ⟨dk, _, _, kt, hd, _, _, _, _, hkt, _, hopen⟩ := hlT.here
    obtain ⟨kt', hkt', -⟩ := hW.alike.2.2 _ _ hkt
    refine ⟨_, hW.noted hd hopen (State.rightAt_cls hlT), fun Q E d acts => ?_⟩
    rw [List.nil_append, mh_goLink hx h0 (hW.classLinks hlT) hcell hobj ⟨k0', hk0'⟩ ⟨kt', hkt'⟩, if_pos (by rw [hW.alike.assignable]; exact hfit)]
  | cons y ys ih =>
    intro S hW hcell hpass
    obtain ⟨k0', hk0', -⟩ := hW.alike.2.2 _ _ hk0
    have hrest : ∀ z ∈ ys, mh_hp e.platform s₀ f.method.cls f.pc cell.cls z := fun z hz => hpass z (List.mem_cons_of_mem _ hz)
    by_cases hcov : covers y f.pc = true
    · rcases hpass y (List.mem_cons_self ..) with h | ⟨hy0, c, hl, hno⟩
      · rw [h] at hcov; cases hcov
      · obtain ⟨dk, _, _, kt, hd, _, _, _, _, hkt, _, hopen⟩ := hl.here
        obtain ⟨kt', hkt', -⟩ := hW.alike.2.2 _ _ hkt
        obtain ⟨vm', hW', hq⟩ := ih (S.setVm (S.vm.noted f.method.cls y.catchType (.cls c))) (hW.noted hd hopen (State.rightAt_cls hl)) hcell hrest
        refine ⟨vm', hW', fun Q E d acts => ?_⟩
        rw [List.cons_append, mh_goLink hcov hy0 (hW.classLinks hl) hcell hobj ⟨k0', hk0'⟩ ⟨kt', hkt'⟩, if_neg (by rw [hW.alike.assignable, hno]; decide)]
        exact hq Q E d acts
    · obtain ⟨vm', hW', hq⟩ := ih S hW hcell hrest
      refine ⟨vm', hW', fun Q E d acts => ?_⟩
      rw [List.cons_append, W.findHandler_go_skip (by simpa using hcov)]
      exact hq Q E d acts
theorem mh_caught (X : Stand p l e R s m₀ args below meth c V locs cells slots) (a : Addr) {g : JFrame} (hg : g.method = m₀) {cell : Cell} (hcell : V.heap[a]? = some cell) (hobj : cell.vm = .none)
    (pre : List ExceptionTableEntry) (x : ExceptionTableEntry) (rest : List ExceptionTableEntry) (hsplit : c.exceptionTable.toList = pre ++ x :: rest)
    (hpass : ∀ y ∈ pre, mh_hp e.platform s m₀.cls g.pc cell.cls y) (hx : covers x g.pc = true) (h0 : x.catchType ≠ 0) {cT : ClassId} (hlT : s.vm.ClassLinks e.platform m₀.cls x.catchType cT) (hk0 : ∃ k, s.vm.classes[cell.cls]? = some k) (hfit : s.vm.assignable cell.cls cT = true) :
    ∃ vm', Stand p l e R s m₀ args below meth c (V.setVm vm') locs cells slots ∧
      ∀ target, Steps p.tables e below ((V.setVm vm').setTop { g with pc := x.handlerPc, stack := [.ref a] }) target → Steps p.tables e below ((V.setTop g).pushFrame (.throwing a)) target := by
  subst hg
  have hob : ∀ k, cell.vm ≠ .statics k := fun k h => by rw [hobj] at h; cases h
  obtain ⟨vm', hW', hq⟩ := mh_goRows (e := e) (s₀ := s) (f := g) (a := a) (cell := cell) hob hk0 x rest hx h0 hlT hfit pre ((V.setTop g).pushFrame (.throwing a)) X.warmed hcell hpass
  have hfind : ∀ (Q : Handler → Pre) (E : CtlPost) (d : Bool) (acts : List Action), wp (findHandler g a) Q E e d acts ((V.setTop g).pushFrame (.throwing a)) ↔ Q (.found x.handlerPc) d acts (((V.setTop g).pushFrame (.throwing a)).setVm vm') := by
    intro Q E d acts
    have h9 := W.findHandler_eq (s := (V.setTop g).pushFrame (.throwing a)) (f := g) (a := a) (Q := Q) (E := E) (e := e) (d := d) (acts := acts) (meth := meth) (code := c) X.method' X.code
    rw [hsplit] at h9
    exact h9.trans (hq Q E d acts)
  refine ⟨vm', X.noted hW', fun target hrest => ?_⟩
  obtain ⟨hgo, hw⟩ := X.here.throwing a
  have hstep : (stepThrowing e ((V.setTop g).pushFrame (.throwing a)) a (.java g :: V.frames.tail)).Is ((((V.setTop g).pushFrame (.throwing a)).setVm vm').setFrames (.java { g with pc := x.handlerPc, stack := [.ref a] } :: V.frames.tail)) [] := by
    simp only [stepThrowing, searchFrame, vmDo]
    generalize hr : Sem.go _ e false [] ((V.setTop g).pushFrame (.throwing a)) = res
    obtain ⟨as, rfl, ha⟩ := Sem.eq_ok_of hr (a := Handler.found x.handlerPc) (s' := ((V.setTop g).pushFrame (.throwing a)).setVm vm') (acts' := []) (by simp [hfind _ _ _ _])
    exact ⟨rfl, ha⟩
  refine Steps.head hgo hw ?_
  rw [stepThread_throwing (frames_entered X.here.top _), hstep.1]
  obtain ⟨g₀, hg0⟩ := Option.isSome_iff_exists.mp X.here.top
  obtain ⟨r, hr⟩ := State.topJava?_eq_some.mp hg0
  have hr' : (V.setVm vm').frames = .java g₀ :: r := hr
  have hsf : ∀ (u : State) (F G : List Frame), ((u.setFrames F).setVm vm').setFrames G = (u.setVm vm').setFrames G := fun u F G => by
    have h1 : (u.setFrames F).setVm vm' = (u.setVm vm').setFrames F := rfl
    rw [h1, State.setFrames_setFrames]
  rw [State.setTop_of_frames _ hr'] at hrest
  rw [hr, List.tail_cons, State.pushFrame, hsf, State.setTop_of_frames _ hr, hsf]
  exact hrest
end MHT
/-! the classes whose objects the worlds hold -/
def F_KS : u_T := fun k => match k with
  | _ => ("MeldHost$KeySet", "words", "[J", true)
def ty_KS : Nat → FieldType := fun k => match k with
  | _ => .array .long
def F_NU : u_T := fun k => match k with
  | 0 => ("MeldHost$Numbers", "present", "LMeldHost$KeySet;", true)
  | _ => ("MeldHost$Numbers", "numbers", "[J", true)
def ty_NU : Nat → FieldType := fun k => match k with
  | 0 => .object "MeldHost$KeySet"
  | _ => .array .long
def F_IN : u_T := fun k => match k with
  | 0 => ("MeldHost$Intention", "server", "I", true)
  | 1 => ("MeldHost$Intention", "snapshot", "I", true)
  | 2 => ("MeldHost$Intention", "level", "I", true)
  | 3 => ("MeldHost$Intention", "readKeys", "LMeldHost$KeySet;", true)
  | 4 => ("MeldHost$Intention", "lows", "[I", true)
  | 5 => ("MeldHost$Intention", "highs", "[I", true)
  | 6 => ("MeldHost$Intention", "writtenKeys", "[I", true)
  | 7 => ("MeldHost$Intention", "hasNumber", "[Z", true)
  | 8 => ("MeldHost$Intention", "newNumbers", "[J", true)
  | 9 => ("MeldHost$Intention", "parts", "I", false)
  | 10 => ("MeldHost$Intention", "writes", "I", false)
  | _ => ("MeldHost$Intention", "good", "Z", false)
def ty_IN : Nat → FieldType := fun k => match k with
  | 0 => .int
  | 1 => .int
  | 2 => .int
  | 3 => .object "MeldHost$KeySet"
  | 4 => .array .int
  | 5 => .array .int
  | 6 => .array .int
  | 7 => .array .boolean
  | 8 => .array .long
  | 9 => .int
  | 10 => .int
  | _ => .boolean
def F_SV : u_T := fun k => match k with
  | 0 => ("MeldHost$Server", "numbers", "LMeldHost$Numbers;", true)
  | 1 => ("MeldHost$Server", "lastWriter", "[I", true)
  | 2 => ("MeldHost$Server", "gone", "I", false)
  | _ => ("MeldHost$Server", "goodGone", "I", false)
def ty_SV : Nat → FieldType := fun k => match k with
  | 0 => .object "MeldHost$Numbers"
  | 1 => .array .int
  | 2 => .int
  | _ => .int
def F_MH : u_T := fun k => match k with
  | 0 => ("MeldHost", "log", "Ljava/util/ArrayList;", true)
  | 1 => ("MeldHost", "servers", "[LMeldHost$Server;", true)
  | 2 => ("MeldHost", "drafts", "[LMeldHost$Intention;", true)
  | 3 => ("MeldHost", "views", "[LMeldHost$Numbers;", true)
  | _ => ("MeldHost", "restarts", "I", false)
def ty_MH : Nat → FieldType := fun k => match k with
  | 0 => .object "java/util/ArrayList"
  | 1 => .array (.object "MeldHost$Server")
  | 2 => .array (.object "MeldHost$Intention")
  | 3 => .array (.object "MeldHost$Numbers")
  | _ => .int
def F_AL : u_T := fun k => match k with
  | 0 => ("java/util/AbstractList", "modCount", "I", false)
  | 1 => ("java/util/ArrayList", "elementData", "[Ljava/lang/Object;", false)
  | _ => ("java/util/ArrayList", "size", "I", false)
def ty_AL : Nat → FieldType := fun k => match k with
  | 0 => .int
  | 1 => .array (.object "java/lang/Object")
  | _ => .int
def F_WK : u_T := fun k => match k with
  | 0 => ("MeldHostModel$Work", "snapshot", "I", false)
  | 1 => ("MeldHostModel$Work", "level", "I", false)
  | 2 => ("MeldHostModel$Work", "server", "I", false)
  | 3 => ("MeldHostModel$Work", "parts", "I", false)
  | 4 => ("MeldHostModel$Work", "writes", "I", false)
  | 5 => ("MeldHostModel$Work", "reads", "I", false)
  | 6 => ("MeldHostModel$Work", "open", "Z", false)
  | 7 => ("MeldHostModel$Work", "good", "Z", false)
  | 8 => ("MeldHostModel$Work", "read", "[Z", true)
  | 9 => ("MeldHostModel$Work", "low", "[I", true)
  | 10 => ("MeldHostModel$Work", "high", "[I", true)
  | 11 => ("MeldHostModel$Work", "key", "[I", true)
  | 12 => ("MeldHostModel$Work", "value", "[J", true)
  | _ => ("MeldHostModel$Work", "none", "[Z", true)
def ty_WK : Nat → FieldType := fun k => match k with
  | 0 => .int
  | 1 => .int
  | 2 => .int
  | 3 => .int
  | 4 => .int
  | 5 => .int
  | 6 => .boolean
  | 7 => .boolean
  | 8 => .array .boolean
  | 9 => .array .int
  | 10 => .array .int
  | 11 => .array .int
  | 12 => .array .long
  | _ => .array .boolean
def F_MM : u_T := fun k => match k with
  | 0 => ("MeldHostModel", "err", "I", false)
  | 1 => ("MeldHostModel", "log", "[LMeldHostModel$Work;", true)
  | 2 => ("MeldHostModel", "open", "[LMeldHostModel$Work;", true)
  | 3 => ("MeldHostModel", "at", "[I", true)
  | 4 => ("MeldHostModel", "value", "[J", true)
  | 5 => ("MeldHostModel", "has", "[Z", true)
  | 6 => ("MeldHostModel", "many", "I", false)
  | _ => ("MeldHostModel", "restarts", "I", false)
def ty_MM : Nat → FieldType := fun k => match k with
  | 0 => .int
  | 1 => .array (.object "MeldHostModel$Work")
  | 2 => .array (.object "MeldHostModel$Work")
  | 3 => .array .int
  | 4 => .array .long
  | 5 => .array .boolean
  | 6 => .int
  | _ => .int
def F_IA : u_T := fun _ => ("", "", "", false)
def ty_IA : Nat → FieldType := fun _ => .int
def F_IS : u_T := fun _ => ("", "", "", false)
def ty_IS : Nat → FieldType := fun _ => .int
def F_IO : u_T := fun _ => ("", "", "", false)
def ty_IO : Nat → FieldType := fun _ => .int
def F_UO : u_T := fun _ => ("", "", "", false)
def ty_UO : Nat → FieldType := fun _ => .int
abbrev classes : List vw_C := [("MeldHost$KeySet", F_KS, 1), ("MeldHost$Numbers", F_NU, 2), ("MeldHost$Intention", F_IN, 12), ("MeldHost$Server", F_SV, 4), ("MeldHost", F_MH, 5), ("java/util/ArrayList", F_AL, 3), ("MeldHostModel$Work", F_WK, 14), ("MeldHostModel", F_MM, 8), ("java/lang/IllegalArgumentException", F_IA, 0), ("java/lang/IllegalStateException", F_IS, 0), ("java/lang/IndexOutOfBoundsException", F_IO, 0), ("java/lang/UnsupportedOperationException", F_UO, 0)]
theorem ty_KS_ok : ∀ k, k < 1 → parseFieldDescriptor (F_KS k).2.2.1 = some (ty_KS k) := by decide +kernel
theorem n_KS : ∀ a, a < 1 → ∀ b, b < 1 → a ≠ b → (F_KS a).2.1 ≠ (F_KS b).2.1 := by decide +kernel
theorem i_KS : ∀ x ∈ u_ws "MeldHost$KeySet" F_KS 1, x ∈ mh_TB := by
  have h : u_ws "MeldHost$KeySet" F_KS 1 = [Cond.laysFinal "MeldHost$KeySet" "MeldHost$KeySet" "words" "[J"] := rfl
  rw [h]
  exact List.forall_mem_cons.mpr ⟨k79, fun _ h => absurd h List.not_mem_nil⟩
theorem ty_NU_ok : ∀ k, k < 2 → parseFieldDescriptor (F_NU k).2.2.1 = some (ty_NU k) := by decide +kernel
theorem n_NU : ∀ a, a < 2 → ∀ b, b < 2 → a ≠ b → (F_NU a).2.1 ≠ (F_NU b).2.1 := by decide +kernel
theorem i_NU : ∀ x ∈ u_ws "MeldHost$Numbers" F_NU 2, x ∈ mh_TB := by
  have h : u_ws "MeldHost$Numbers" F_NU 2 = [Cond.laysFinal "MeldHost$Numbers" "MeldHost$Numbers" "present" "LMeldHost$KeySet;", Cond.laysFinal "MeldHost$Numbers" "MeldHost$Numbers" "numbers" "[J"] := rfl
  rw [h]
  exact List.forall_mem_cons.mpr ⟨k87, List.forall_mem_cons.mpr ⟨k89, fun _ h => absurd h List.not_mem_nil⟩⟩
theorem ty_IN_ok : ∀ k, k < 12 → parseFieldDescriptor (F_IN k).2.2.1 = some (ty_IN k) := by decide +kernel
theorem n_IN : ∀ a, a < 12 → ∀ b, b < 12 → a ≠ b → (F_IN a).2.1 ≠ (F_IN b).2.1 := by decide +kernel
theorem i_IN : ∀ x ∈ u_ws "MeldHost$Intention" F_IN 12, x ∈ mh_TB := by
  have h : u_ws "MeldHost$Intention" F_IN 12 = [Cond.laysFinal "MeldHost$Intention" "MeldHost$Intention" "server" "I", Cond.laysFinal "MeldHost$Intention" "MeldHost$Intention" "snapshot" "I", Cond.laysFinal "MeldHost$Intention" "MeldHost$Intention" "level" "I", Cond.laysFinal "MeldHost$Intention" "MeldHost$Intention" "readKeys" "LMeldHost$KeySet;", Cond.laysFinal "MeldHost$Intention" "MeldHost$Intention" "lows" "[I", Cond.laysFinal "MeldHost$Intention" "MeldHost$Intention" "highs" "[I", Cond.laysFinal "MeldHost$Intention" "MeldHost$Intention" "writtenKeys" "[I", Cond.laysFinal "MeldHost$Intention" "MeldHost$Intention" "hasNumber" "[Z", Cond.laysFinal "MeldHost$Intention" "MeldHost$Intention" "newNumbers" "[J", Cond.lays "MeldHost$Intention" "MeldHost$Intention" "parts" "I", Cond.lays "MeldHost$Intention" "MeldHost$Intention" "writes" "I", Cond.lays "MeldHost$Intention" "MeldHost$Intention" "good" "Z"] := rfl
  rw [h]
  exact List.forall_mem_cons.mpr ⟨k255, List.forall_mem_cons.mpr ⟨k257, List.forall_mem_cons.mpr ⟨k259, List.forall_mem_cons.mpr ⟨k261, List.forall_mem_cons.mpr ⟨k263, List.forall_mem_cons.mpr ⟨k265, List.forall_mem_cons.mpr ⟨k267, List.forall_mem_cons.mpr ⟨k269, List.forall_mem_cons.mpr ⟨k271, List.forall_mem_cons.mpr ⟨k273, List.forall_mem_cons.mpr ⟨k275, List.forall_mem_cons.mpr ⟨k277, fun _ h => absurd h List.not_mem_nil⟩⟩⟩⟩⟩⟩⟩⟩⟩⟩⟩⟩
theorem ty_SV_ok : ∀ k, k < 4 → parseFieldDescriptor (F_SV k).2.2.1 = some (ty_SV k) := by decide +kernel
theorem n_SV : ∀ a, a < 4 → ∀ b, b < 4 → a ≠ b → (F_SV a).2.1 ≠ (F_SV b).2.1 := by decide +kernel
theorem i_SV : ∀ x ∈ u_ws "MeldHost$Server" F_SV 4, x ∈ mh_TB := by
  have h : u_ws "MeldHost$Server" F_SV 4 = [Cond.laysFinal "MeldHost$Server" "MeldHost$Server" "numbers" "LMeldHost$Numbers;", Cond.laysFinal "MeldHost$Server" "MeldHost$Server" "lastWriter" "[I", Cond.lays "MeldHost$Server" "MeldHost$Server" "gone" "I", Cond.lays "MeldHost$Server" "MeldHost$Server" "goodGone" "I"] := rfl
  rw [h]
  exact List.forall_mem_cons.mpr ⟨k103, List.forall_mem_cons.mpr ⟨k105, List.forall_mem_cons.mpr ⟨k107, List.forall_mem_cons.mpr ⟨k109, fun _ h => absurd h List.not_mem_nil⟩⟩⟩⟩
theorem ty_MH_ok : ∀ k, k < 5 → parseFieldDescriptor (F_MH k).2.2.1 = some (ty_MH k) := by decide +kernel
theorem n_MH : ∀ a, a < 5 → ∀ b, b < 5 → a ≠ b → (F_MH a).2.1 ≠ (F_MH b).2.1 := by decide +kernel
theorem i_MH : ∀ x ∈ u_ws "MeldHost" F_MH 5, x ∈ mh_TB := by
  have h : u_ws "MeldHost" F_MH 5 = [Cond.laysFinal "MeldHost" "MeldHost" "log" "Ljava/util/ArrayList;", Cond.laysFinal "MeldHost" "MeldHost" "servers" "[LMeldHost$Server;", Cond.laysFinal "MeldHost" "MeldHost" "drafts" "[LMeldHost$Intention;", Cond.laysFinal "MeldHost" "MeldHost" "views" "[LMeldHost$Numbers;", Cond.lays "MeldHost" "MeldHost" "restarts" "I"] := rfl
  rw [h]
  exact List.forall_mem_cons.mpr ⟨k123, List.forall_mem_cons.mpr ⟨k125, List.forall_mem_cons.mpr ⟨k127, List.forall_mem_cons.mpr ⟨k129, List.forall_mem_cons.mpr ⟨k131, fun _ h => absurd h List.not_mem_nil⟩⟩⟩⟩⟩
theorem ty_AL_ok : ∀ k, k < 3 → parseFieldDescriptor (F_AL k).2.2.1 = some (ty_AL k) := by decide +kernel
theorem n_AL : ∀ a, a < 3 → ∀ b, b < 3 → a ≠ b → (F_AL a).2.1 ≠ (F_AL b).2.1 := by decide +kernel
theorem i_AL : ∀ x ∈ u_ws "java/util/ArrayList" F_AL 3, x ∈ mh_TB := by
  have h : u_ws "java/util/ArrayList" F_AL 3 = [Cond.lays "java/util/ArrayList" "java/util/AbstractList" "modCount" "I", Cond.lays "java/util/ArrayList" "java/util/ArrayList" "elementData" "[Ljava/lang/Object;", Cond.lays "java/util/ArrayList" "java/util/ArrayList" "size" "I"] := rfl
  rw [h]
  exact List.forall_mem_cons.mpr ⟨k56, List.forall_mem_cons.mpr ⟨k52, List.forall_mem_cons.mpr ⟨k54, fun _ h => absurd h List.not_mem_nil⟩⟩⟩
theorem ty_WK_ok : ∀ k, k < 14 → parseFieldDescriptor (F_WK k).2.2.1 = some (ty_WK k) := by decide +kernel
theorem n_WK : ∀ a, a < 14 → ∀ b, b < 14 → a ≠ b → (F_WK a).2.1 ≠ (F_WK b).2.1 := by decide +kernel
theorem i_WK : ∀ x ∈ u_ws "MeldHostModel$Work" F_WK 14, x ∈ mh_TB := by
  have h : u_ws "MeldHostModel$Work" F_WK 14 = [Cond.lays "MeldHostModel$Work" "MeldHostModel$Work" "snapshot" "I", Cond.lays "MeldHostModel$Work" "MeldHostModel$Work" "level" "I", Cond.lays "MeldHostModel$Work" "MeldHostModel$Work" "server" "I", Cond.lays "MeldHostModel$Work" "MeldHostModel$Work" "parts" "I", Cond.lays "MeldHostModel$Work" "MeldHostModel$Work" "writes" "I", Cond.lays "MeldHostModel$Work" "MeldHostModel$Work" "reads" "I", Cond.lays "MeldHostModel$Work" "MeldHostModel$Work" "open" "Z", Cond.lays "MeldHostModel$Work" "MeldHostModel$Work" "good" "Z", Cond.laysFinal "MeldHostModel$Work" "MeldHostModel$Work" "read" "[Z", Cond.laysFinal "MeldHostModel$Work" "MeldHostModel$Work" "low" "[I", Cond.laysFinal "MeldHostModel$Work" "MeldHostModel$Work" "high" "[I", Cond.laysFinal "MeldHostModel$Work" "MeldHostModel$Work" "key" "[I", Cond.laysFinal "MeldHostModel$Work" "MeldHostModel$Work" "value" "[J", Cond.laysFinal "MeldHostModel$Work" "MeldHostModel$Work" "none" "[Z"] := rfl
  rw [h]
  exact List.forall_mem_cons.mpr ⟨k681, List.forall_mem_cons.mpr ⟨k683, List.forall_mem_cons.mpr ⟨k685, List.forall_mem_cons.mpr ⟨k687, List.forall_mem_cons.mpr ⟨k689, List.forall_mem_cons.mpr ⟨k691, List.forall_mem_cons.mpr ⟨k693, List.forall_mem_cons.mpr ⟨k695, List.forall_mem_cons.mpr ⟨k697, List.forall_mem_cons.mpr ⟨k699, List.forall_mem_cons.mpr ⟨k701, List.forall_mem_cons.mpr ⟨k703, List.forall_mem_cons.mpr ⟨k705, List.forall_mem_cons.mpr ⟨k707, fun _ h => absurd h List.not_mem_nil⟩⟩⟩⟩⟩⟩⟩⟩⟩⟩⟩⟩⟩⟩
theorem ty_MM_ok : ∀ k, k < 8 → parseFieldDescriptor (F_MM k).2.2.1 = some (ty_MM k) := by decide +kernel
theorem n_MM : ∀ a, a < 8 → ∀ b, b < 8 → a ≠ b → (F_MM a).2.1 ≠ (F_MM b).2.1 := by decide +kernel
theorem i_MM : ∀ x ∈ u_ws "MeldHostModel" F_MM 8, x ∈ mh_TB := by
  have h : u_ws "MeldHostModel" F_MM 8 = [Cond.lays "MeldHostModel" "MeldHostModel" "err" "I", Cond.laysFinal "MeldHostModel" "MeldHostModel" "log" "[LMeldHostModel$Work;", Cond.laysFinal "MeldHostModel" "MeldHostModel" "open" "[LMeldHostModel$Work;", Cond.laysFinal "MeldHostModel" "MeldHostModel" "at" "[I", Cond.laysFinal "MeldHostModel" "MeldHostModel" "value" "[J", Cond.laysFinal "MeldHostModel" "MeldHostModel" "has" "[Z", Cond.lays "MeldHostModel" "MeldHostModel" "many" "I", Cond.lays "MeldHostModel" "MeldHostModel" "restarts" "I"] := rfl
  rw [h]
  exact List.forall_mem_cons.mpr ⟨k718, List.forall_mem_cons.mpr ⟨k720, List.forall_mem_cons.mpr ⟨k722, List.forall_mem_cons.mpr ⟨k724, List.forall_mem_cons.mpr ⟨k726, List.forall_mem_cons.mpr ⟨k728, List.forall_mem_cons.mpr ⟨k730, List.forall_mem_cons.mpr ⟨k732, fun _ h => absurd h List.not_mem_nil⟩⟩⟩⟩⟩⟩⟩⟩
theorem ty_IA_ok : ∀ k, k < 0 → parseFieldDescriptor (F_IA k).2.2.1 = some (ty_IA k) := by decide +kernel
theorem n_IA : ∀ a, a < 0 → ∀ b, b < 0 → a ≠ b → (F_IA a).2.1 ≠ (F_IA b).2.1 := by decide +kernel
theorem i_IA : ∀ x ∈ u_ws "java/lang/IllegalArgumentException" F_IA 0, x ∈ mh_TB := fun x h => by cases h
theorem ty_IS_ok : ∀ k, k < 0 → parseFieldDescriptor (F_IS k).2.2.1 = some (ty_IS k) := by decide +kernel
theorem n_IS : ∀ a, a < 0 → ∀ b, b < 0 → a ≠ b → (F_IS a).2.1 ≠ (F_IS b).2.1 := by decide +kernel
theorem i_IS : ∀ x ∈ u_ws "java/lang/IllegalStateException" F_IS 0, x ∈ mh_TB := fun x h => by cases h
theorem ty_IO_ok : ∀ k, k < 0 → parseFieldDescriptor (F_IO k).2.2.1 = some (ty_IO k) := by decide +kernel
theorem n_IO : ∀ a, a < 0 → ∀ b, b < 0 → a ≠ b → (F_IO a).2.1 ≠ (F_IO b).2.1 := by decide +kernel
theorem i_IO : ∀ x ∈ u_ws "java/lang/IndexOutOfBoundsException" F_IO 0, x ∈ mh_TB := fun x h => by cases h
theorem ty_UO_ok : ∀ k, k < 0 → parseFieldDescriptor (F_UO k).2.2.1 = some (ty_UO k) := by decide +kernel
theorem n_UO : ∀ a, a < 0 → ∀ b, b < 0 → a ≠ b → (F_UO a).2.1 ≠ (F_UO b).2.1 := by decide +kernel
theorem i_UO : ∀ x ∈ u_ws "java/lang/UnsupportedOperationException" F_UO 0, x ∈ mh_TB := fun x h => by cases h
def mh_tys (dA : Nat → ClassId) : List (ClassId × FieldType) := [(dA 0, .int), (dA 1, .long), (dA 2, .boolean), (dA 3, .object "java/lang/Object"), (dA 4, .object "MeldHost$Server"), (dA 5, .object "MeldHost$Intention"), (dA 6, .object "MeldHost$Numbers"), (dA 7, .object "MeldHostModel$Work")]
abbrev mh_A (b : Nat) : Nat → Prop := fun q => b ≤ q
/-- the class's String constants -/
def mh_str : List (Nat × String) := [(167, "an argument is out of its bounds"), (46, "the transaction is open"), (170, "the transaction is not open"), (186, "the key has no number"), (195, "there would be nine keys"), (96, "there would be nine parts"), (113, "the log is full"), (141, "there were four restarts"), (172, "there is no such intention")]
/-- which exception is none of which class -/
def mh_nc : List (String × String) := [("java/lang/IllegalArgumentException", "java/lang/IllegalStateException"), ("java/lang/IllegalArgumentException", "java/lang/IndexOutOfBoundsException"), ("java/lang/IllegalArgumentException", "java/lang/UnsupportedOperationException"), ("java/lang/IllegalStateException", "java/lang/IllegalArgumentException"), ("java/lang/IllegalStateException", "java/lang/IndexOutOfBoundsException"), ("java/lang/IllegalStateException", "java/lang/UnsupportedOperationException"), ("java/lang/IndexOutOfBoundsException", "java/lang/IllegalArgumentException"), ("java/lang/IndexOutOfBoundsException", "java/lang/IllegalStateException"), ("java/lang/IndexOutOfBoundsException", "java/lang/UnsupportedOperationException"), ("java/lang/UnsupportedOperationException", "java/lang/IllegalArgumentException"), ("java/lang/UnsupportedOperationException", "java/lang/IllegalStateException"), ("java/lang/UnsupportedOperationException", "java/lang/IndexOutOfBoundsException")]
/-- what is given of the heap below b, and of the tables beside their words: zs 0 is ArrayList's empty array, zs 1 the class object of Object[], zs of a String constant's place the String -/
def mh_Z (b : Nat) (zs : Nat → Nat) (U : State) (H : Heap) : Prop :=
  (va_AO "java/lang/Object" U ∧ va_AO "MeldHost$Server" U ∧ va_AO "MeldHost$Intention" U ∧ va_AO "MeldHost$Numbers" U ∧ va_AO "MeldHostModel$Work" U) ∧ (∀ q ∈ mh_str, vk_R "MeldHost" q.1 q.2 (zs q.1) U) ∧ (∀ q ∈ mh_nc, va_Nc q.1 q.2 U) ∧ va_Mi "[Ljava/lang/Object;" (zs 1) U ∧
  mh_zl Bundle.tN "UNASSIGNED_STACK" Bundle.steD b U H ∧ mh_zl Bundle.tN "SUPPRESSED_SENTINEL" Bundle.listD b U H ∧ va_Z "java/util/ArrayList" "DEFAULTCAPACITY_EMPTY_ELEMENTDATA" "[Ljava/lang/Object;" (.ref (zs 0)) (mh_A b) U H ∧ va_T (.object "java/lang/Object") (zs 0) 0 (fun _ => .null) (mh_A b) U H ∧
  ∃ cell : Cell, H[zs 0]? = some cell ∧ cell.vm.isStatics = false ∧ U.vm.findClass "[Ljava/lang/Object;" = some cell.cls
theorem mh_Z_to {b : Nat} {zs : Nat → Nat} {s U : State} {H H1 : Heap} (h : mh_Z b zs s H) (hW : s.WarmedH U.vm) (hq : ∀ a : Nat, a < H.size → a < b → H1[a]? = H[a]?) : mh_Z b zs U H1 := by
  obtain ⟨⟨a1, a2, a3, a4, a5⟩, h2, h3, h4, h5, h6, h7, h8, cell, g1, g2, g3⟩ := h
  have hal := hW.alike
  have hq' : ∀ a : Nat, a < H.size → ¬ mh_A b a → H1[a]? = H[a]? := fun a h1 h2 => hq a h1 (Nat.not_le.mp h2)
  have hz : ¬ mh_A b (zs 0) := by
    obtain ⟨_, _, _, _, _, _, _, h⟩ := h8
    exact h
  exact ⟨⟨a1.moved hal, a2.moved hal, a3.moved hal, a4.moved hal, a5.moved hal⟩, fun q hq => vk_R.warm hW (h2 q hq), fun q hq => (h3 q hq).moved hal, h4.moved hal, h5.to hal hq, h6.to hal hq, (va_Z.moved hal h7).kept hq', (va_T.moved hal h8).kept hq', cell,
    by rw [hq' _ (Array.getElem?_eq_some_iff.mp g1).1 hz]; exact g1, g2, by rw [hal.findClass]; exact g3⟩
theorem mh_Z_at {b : Nat} {zs : Nat → Nat} {s U : State} {locs : List Loc} (h : mh_Z b zs s s.heap) (hW : s.WarmedH U.vm) (hS : va_S (mh_A b) s.heap U.heap locs) : mh_Z b zs U U.heap := mh_Z_to h hW fun a h1 h2 => hS.2.1 a h1 (Nat.not_le.mpr h2)
theorem mh_Z_calling {b : Nat} {zs : Nat → Nat} {U : State} {g : JFrame} {mk : MethodId} {a : Array Value} (h : mh_Z b zs U U.heap) : mh_Z b zs (U.calling g mk a) (U.calling g mk a).heap := mh_Z_to (U := U.calling g mk a) (H1 := U.heap) h (State.WarmedH.refl U) fun _ _ _ => rfl
