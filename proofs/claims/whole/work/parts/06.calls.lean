theorem mh_OK_calling {b : Nat} {dC : Nat → ClassId} {dI : Nat → Nat → Nat} {dA : Nat → ClassId} {zs : Nat → Nat} {w : mh_w} {U : State} {g : JFrame} {mk : MethodId} {a : Array Value} (h : mh_OK b dC dI dA zs w U) : mh_OK b dC dI dA zs w (U.calling g mk a) := by
  obtain ⟨h1, h2, h3, h4, h5⟩ := h
  exact ⟨fun x hx => va_Nw.same (mh_NW_on x hx) (u := U) (U := U.calling g mk a) rfl (h1 x hx), va_K.moved (u := U) (U := U.calling g mk a) (Vm.Alike.refl U.vm) h2, mh_Z_calling h3, h4, h5⟩
theorem mh_OK_at {b : Nat} {dC : Nat → ClassId} {dI : Nat → Nat → Nat} {dA : Nat → ClassId} {zs : Nat → Nat} {w0 w : mh_w} {s U : State} {locs : List Loc} (h : mh_OK b dC dI dA zs w0 s) (hW : s.WarmedH U.vm) (hS : va_S (mh_A b) s.heap U.heap locs) (hX : mh_P (dC, dI) b w U.heap) : mh_OK b dC dI dA zs w U := by
  obtain ⟨h1, h2, h3, h4, h5⟩ := h
  exact ⟨fun x hx => mh_NW_warm x hx hW (h1 x hx), va_K.moved hW.alike h2, mh_Z_at h3 hW hS, Nat.le_trans h4 hS.1, hX⟩
section MHE
variable {p : Program} {l : Launch} {e : Env} {R : Room} {s : State} {m : MethodId} {args : Array Value} {below : List Frame} {meth : Method} {c : Code} {H : Heap} {locs : List Loc} {cells slots : Nat} {Q : State → Prop}
variable {cc : ByteArray} {pc : Nat} {ls : Array Slot} {rest : List Value} {own : String} {b : Nat} {dC : Nat → ClassId} {dI : Nat → Nat → Nat} {dA : Nat → ClassId} {zs : Nat → Nat} {w : mh_w} {P : Outcome → mh_w → Prop} {mc ms : Nat}
theorem mh_mono {Q' : State → Prop} {g : JFrame} (h : ∀ t, Q t → Q' t) (k : W p l e R s m args below meth c H locs cells slots Q g) : W p l e R s m args below meth c H locs cells slots Q' g := by
  intro T hT X
  obtain ⟨t, a1, b1⟩ := k T hT X
  exact ⟨t, a1, h t b1⟩
def mh_Qc (b : Nat) (dC : Nat → ClassId) (dI : Nat → Nat → Nat) (P : Outcome → mh_w → Prop) : Array Value → State → Outcome → State → Prop := fun _ st o t => ∃ w' : mh_w, P o w' ∧ mh_P (dC, dI) b w' t.heap ∧ va_F (mh_A b) st t
theorem mh_end {g : JFrame} (k : W p l e R s m args below meth c H locs mc ms (MQ below (mh_Qc b dC dI P) args s mc ms (mh_A b)) g) (h1 : cells ≤ mc) (h2 : slots ≤ ms) : W p l e R s m args below meth c H locs cells slots (mh_MQ below b dC dI P args s mc ms) g := by
  refine W.widen h1 h2 (mh_mono ?_ k)
  rintro t ⟨o, r1, r2, ⟨w', p1, p2, p3⟩, L, ⟨⟨v, rfl⟩, hW, hsm⟩, hL⟩
  exact ⟨_, r1, r2, w', p1, p2, p3, L, hW, hsm, hL⟩
theorem mh_iret {v : Int32} {ty : FieldType} (K0 : mh_K0 p s m args c own cc dC dI dA) (hr : meth.sig.returnType = some ty) (hn : narrow ty (.int v) = .int v) (hlocks : meth.locks = false) (hX : mh_P (dC, dI) b w H) (hS : va_S (mh_A b) s.heap H locs) (hP : P (.returned (some (.int v))) w) (h1 : cells ≤ mc) (h2 : slots ≤ ms) (hdg : decode cc pc = .ok (.ireturn, 1)) : W p l e R s m args below meth c H locs cells slots (mh_MQ below b dC dI P args s mc ms) (F0 m pc ls [.int v]) :=
  mh_end (W.zret K0.1 K0.2.1 hr hn (fun t ht _ => ⟨w, hP, by rw [ht]; exact hX, hS.F ht⟩) hS.2.2 hdg hlocks) h1 h2
theorem mh_lret {v : Int64} (K0 : mh_K0 p s m args c own cc dC dI dA) (hr : meth.sig.returnType = some .long) (hlocks : meth.locks = false) (hX : mh_P (dC, dI) b w H) (hS : va_S (mh_A b) s.heap H locs) (hP : P (.returned (some (.long v))) w) (h1 : cells ≤ mc) (h2 : slots ≤ ms) (hdg : decode cc pc = .ok (.lreturn, 1)) : W p l e R s m args below meth c H locs cells slots (mh_MQ below b dC dI P args s mc ms) (F0 m pc ls [.long v]) :=
  mh_end (W.lret K0.1 K0.2.1 hr (fun t ht _ => ⟨w, hP, by rw [ht]; exact hX, hS.F ht⟩) hS.2.2 hdg hlocks) h1 h2
theorem mh_vret (K0 : mh_K0 p s m args c own cc dC dI dA) (hr : meth.sig.returnType = none) (hlocks : meth.locks = false) (hX : mh_P (dC, dI) b w H) (hS : va_S (mh_A b) s.heap H locs) (hP : P (.returned none) w) (h1 : cells ≤ mc) (h2 : slots ≤ ms) (hdg : decode cc pc = .ok (.return_, 1)) : W p l e R s m args below meth c H locs cells slots (mh_MQ below b dC dI P args s mc ms) (F0 m pc ls []) :=
  mh_end (W.vret K0.1 K0.2.1 hr (fun t ht _ => ⟨w, hP, by rw [ht]; exact hX, hS.F ht⟩) hS.2.2 hdg hlocks) h1 h2
theorem mh_aret {v : Value} {rt : FieldType} (K0 : mh_K0 p s m args c own cc dC dI dA) (hr : meth.sig.returnType = some rt) (hrt : (∃ n, rt = .object n) ∨ ∃ t, rt = .array t) (hv : v = .null ∨ ∃ a, v = .ref a) (hlocks : meth.locks = false) (hX : mh_P (dC, dI) b w H) (hS : va_S (mh_A b) s.heap H locs) (hP : P (.returned (some v)) w) (h1 : cells ≤ mc) (h2 : slots ≤ ms) (hdg : decode cc pc = .ok (.areturn, 1)) : W p l e R s m args below meth c H locs cells slots (mh_MQ below b dC dI P args s mc ms) (F0 m pc ls [v]) :=
  mh_end (W.aret K0.1 K0.2.1 hr hrt hv (fun t ht _ => ⟨w, hP, by rw [ht]; exact hX, hS.F ht⟩) hS.2.2 hdg hlocks) h1 h2
/-- the machine with the exception q on its way through the frame g -/
def mh_X (p : Program) (l : Launch) (e : Env) (R : Room) (s : State) (m : MethodId) (args : Array Value) (below : List Frame) (meth : Method) (c : Code) (H : Heap) (locs : List Loc) (cells slots : Nat) (Q : State → Prop) (g : JFrame) (q : Addr) : Prop :=
  ∀ T : State, T.heap = H → Stand p l e R s m args below meth c T locs cells slots → ∃ t, Steps p.tables e below ((T.setTop g).pushFrame (.throwing q)) t ∧ Q t
/-- no row of the method's table covers the place: the method throws it on -/
theorem mh_leave {q : Addr} (hlocks : meth.locks = false) (hT : c.exceptionTable.toList.map (fun h => (h.startPc, h.endPc, h.handlerPc, h.catchType)) = []) (hX : mh_P (dC, dI) b w H) (hS : va_S (mh_A b) s.heap H locs) (hP : P (.threw q) w) (h1 : cells ≤ mc) (h2 : slots ≤ ms) : mh_X p l e R s m args below meth c H locs cells slots (mh_MQ below b dC dI P args s mc ms) (F0 m pc ls rest) q := by
  intro T hTh X
  have hn : c.exceptionTable.toList = [] := List.map_eq_nil_iff.mp hT
  obtain ⟨st, r1, r2, hW, hsm⟩ := (stand_widen X h1 h2).leaveThrown q (g := F0 m pc ls rest) rfl rfl rfl (fun x hx => by rw [hn] at hx; cases hx) hlocks
  exact ⟨_, st, .threw q, r1, r2, w, hP, by rw [show (T.setFrames (.throwing q :: below)).heap = T.heap from rfl, hTh]; exact hX, hS.F hTh, locs, hW, hsm, hS.2.2⟩
end MHE
section MHC
variable {p : Program} {l : Launch} {e : Env} {R : Room} {s : State} {m : MethodId} {args : Array Value} {below : List Frame} {meth : Method} {c : Code} {T U : State} {locs : List Loc} {cells slots : Nat}
/-- a callee, by its contract: it comes back, or throws -/
theorem mh_inv {b : Nat} {dC : Nat → ClassId} {dI : Nat → Nat → Nat} {dA : Nat → ClassId} {zs : Nat → Nat} {y : MethodName} {rm : Room} {av : List Value} {w : mh_w} {P : Outcome → mh_w → Prop} (hM : mh_Met l b dC dI dA zs y rm av w P)
    (X : Stand p l e R s m args below meth c U locs cells slots) (hts : ∀ x ∈ mh_TB, x.before args s = true) {cY : ByteArray} {nY : Nat} {rY : Option FieldType} {hsY : List (Nat × Nat × Nat × Nat)} (hcd : mh_cw y cY nY rY hsY ∈ mh_TB) (hini : Cond.initialized y.cls ∈ mh_TB)
    {g : JFrame} (hg : g.method = m) (hsize : g.locals.size = c.maxLocals) {ig : Instr} {len : Nat} (hdg : decode c.code g.pc = .ok (ig, len)) {mk : MethodId} (hn : U.methodNamed? y = some mk)
    (hfr : rm.frames + 1 ≤ R.frames) {W9 : Nat} (hW9 : 2 * g.monitorRoom + (g.stack.map fun v => v.category).sum ≤ W9) (hlo : W9 + (nY + 11) + rm.locals ≤ R.locals) (h4 : cells + rm.cells ≤ R.cells) (h5 : slots + rm.slots ≤ R.slots)
    (hOK : mh_OK b dC dI dA zs w U) :
    ∃ (T' : State) (L : List Loc) (w' : mh_w), Stand p l e R s m args below meth c T' (locs ++ L) (cells + rm.cells) (slots + rm.slots) ∧ (∀ q ∈ L, b ≤ q.base) ∧ mh_P (dC, dI) b w' T'.heap ∧ va_F (mh_A b) U T' ∧
      ((∃ v, P (.returned v) w' ∧ Steps p.tables e below (doInvoke e (U.setTop g) [] mk av.toArray).1 (T'.setTop { g with pc := g.pc + len, stack := v.toList ++ g.stack })) ∨
       (∃ q, P (.threw q) w' ∧ Steps p.tables e below (doInvoke e (U.setTop g) [] mk av.toArray).1 ((T'.setTop g).pushFrame (.throwing q)))) := by
  have h1 : (headSpec mh_TB rm).pre.before av.toArray U = true := atoms_intro fun x hx => mh_pay hts x hx _ _ X.warmed
  obtain ⟨mk', methY, codeY, hn', hmY, hcY, -, hlY, -, -, -, -⟩ := mh_cd_of (mh_pay hts _ hcd av.toArray U X.warmed)
  cases Option.some.inj (hn.symm.trans hn')
  obtain ⟨kY, hkY, -⟩ := className_of_methodNamed hn
  have hinitY : kY.init = .initialized := Cond.initialized_spec (findClass_of_methodNamed hn) hkY (mh_pay hts _ hini av.toArray U X.warmed)
  have h : At U g.method c below := by rw [hg]; exact X.here
  have happ : (headSpec mh_TB rm).appliesLoose y e.platform (U.calling g mk av.toArray) = true :=
    Spec.appliesLoose_calling (g := g) h hdg hn hkY hinitY
      (X.room_calling (g := g) (R' := (headSpec mh_TB rm).room) hsize hmY hcY hfr (by rw [hlY]; exact Nat.le_trans (Nat.add_le_add_right (Nat.add_le_add_right hW9 _) _) hlo) h4 h5) h1
  obtain ⟨mid, hmid⟩ := h.above
  have hfrm : (U.setTop g).frames = (.java g :: mid) ++ below := by rw [State.frames_setTop' g h.top, hmid]; rfl
  have hPc : va_Pc av (mh_OK b dC dI dA zs w) av.toArray (U.calling g mk av.toArray) := ⟨rfl, mh_OK_calling hOK⟩
  obtain ⟨o, s₂, hsteps, -, hend, hq⟩ := Steps.callFree hM p X.admits X.cas X.clock (acts := []) hfrm happ hPc trivial
  have hend' : Ended s₂ (.java g :: below) o := by
    rw [State.frames_setTop' g h.top, X.tail] at hend
    exact hend
  obtain ⟨w', hP, hXw, hF, L, hW₂, hsm, hL⟩ := hq
  cases o with
  | returned v =>
    obtain ⟨T', X', -, -, ht⟩ := X.outOf hg hdg hend' hW₂ hsm
    have hh : s₂.heap = T'.heap := by rw [ht]; rfl
    exact ⟨T', L, w', X', hL, by rw [← hh]; exact hXw, ⟨by rw [← hh]; exact hF.1, fun q h1 h2 => by rw [← hh]; exact hF.2 q h1 h2⟩, Or.inl ⟨v, hP, by rw [← ht]; exact hsteps⟩⟩
  | threw q =>
    obtain ⟨T', X', -, -, ht⟩ := X.outOfThrown hg hend' hW₂ hsm
    have hh : s₂.heap = T'.heap := by rw [ht]; rfl
    exact ⟨T', L, w', X', hL, by rw [← hh]; exact hXw, ⟨by rw [← hh]; exact hF.1, fun q h1 h2 => by rw [← hh]; exact hF.2 q h1 h2⟩, Or.inr ⟨q, hP, by rw [← ht]; exact hsteps⟩⟩
/-- what the callee's name stands for in the tables -/
def mh_cee (y : MethodName) (cY : ByteArray) (nY : Nat) (rY : Option FieldType) (hsY : List (Nat × Nat × Nat × Nat)) (n : Nat) : Prop :=
  mh_cw y cY nY rY hsY ∈ mh_TB ∧ Cond.initialized y.cls ∈ mh_TB ∧ (y.cls ≠ "java/lang/invoke/MethodHandle" ∧ y.cls ≠ "java/lang/invoke/VarHandle") ∧ (parseMethodDescriptor y.desc).map (fun d => d.parameters.length) = some n
theorem mh_cee_len {y : MethodName} {n : Nat} (h : (parseMethodDescriptor y.desc).map (fun d => d.parameters.length) = some n) : ∀ sig, parseMethodDescriptor y.desc = some sig → n = sig.parameters.length := by
  intro sig hs
  rw [hs] at h
  exact (Option.some.inj h).symm
/-- the way to a callee: by which instruction, which words -/
def mh_lk (own : String) (index : Nat) (y : MethodName) : Prop := Cond.methodLink own index y ∈ mh_TB ∨ ∃ host, Cond.methodLinkNest own index y host ∈ mh_NW
theorem mh_siteS {cc : ByteArray} {own : String} {dC : Nat → ClassId} {dI : Nat → Nat → Nat} {dA : Nat → ClassId} (X : Stand p l e R s m args below meth c T locs cells slots) (K0 : mh_K0 p s m args c own cc dC dI dA) {index : Nat} {y : MethodName} {cY : ByteArray} {nY : Nat} {rY : Option FieldType} {hsY : List (Nat × Nat × Nat × Nat)} {n : Nat} (C0 : mh_cee y cY nY rY hsY n) (hlk : mh_lk own index y) (hst : Cond.static y ∈ mh_TB)
    {g : JFrame} (hg : g.method = m) {argsL rest : List Value} (hn : argsL.length = n) (hstack : g.stack = argsL.reverse ++ rest) (hdg : decode cc g.pc = .ok (.invokestatic index, 3)) :
    ∃ (mk : MethodId) (vm₁ : Vm), Stand p l e R s m args below meth c (T.setVm vm₁) locs cells slots ∧ (T.setVm vm₁).methodNamed? y = some mk ∧
      ∀ target, (∀ acts, Steps p.tables e below (doInvoke e ((T.setVm vm₁).setTop { g with stack := rest }) acts mk argsL.toArray).1 target) → Steps p.tables e below (T.setTop g) target := by
  obtain ⟨hx, hb, hown, hts, hN, hK⟩ := K0
  obtain ⟨hcd, hini, hy, hlen⟩ := C0
  have hlen := mh_cee_len hlen
  obtain ⟨mk, methM, cM, hnamed, hmethM, -, -, -, -, -, -, hsigM⟩ := mh_cd_of (hts _ hcd)
  have hstatic : methM.isStatic = true := Cond.static_spec hnamed hmethM (hts _ hst)
  obtain ⟨kP, hkP, -⟩ := className_of_methodNamed hnamed
  have hinitP : kP.init = .initialized := Cond.initialized_spec (findClass_of_methodNamed hnamed) hkP (hts _ hini)
  have hln : argsL.length = methM.sig.parameters.length := hn.trans (hlen _ hsigM)
  rcases hlk with hlk | ⟨host, hlk⟩
  · obtain ⟨vm₁, X₁, hstep₁⟩ := X.invokestatic hx hown (hts _ hlk) hnamed hmethM hstatic hkP hinitP hy (g := g) hg (argsL := argsL) (rest := rest) hln hstack (by rw [hb]; exact hdg)
    exact ⟨mk, vm₁, X₁, X₁.named hnamed, fun target h => hstep₁ _ h⟩
  · obtain ⟨vm₁, X₁, hstep₁⟩ := X.invokestaticNest hx hown (va_Nw.use rfl (hN _ hlk)) hnamed hmethM hstatic hkP hinitP hy (g := g) hg (argsL := argsL) (rest := rest) hln hstack (by rw [hb]; exact hdg)
    exact ⟨mk, vm₁, X₁, X₁.named hnamed, fun target h => hstep₁ _ h⟩
theorem mh_siteV {cc : ByteArray} {own : String} {dC : Nat → ClassId} {dI : Nat → Nat → Nat} {dA : Nat → ClassId} (X : Stand p l e R s m args below meth c T locs cells slots) (K0 : mh_K0 p s m args c own cc dC dI dA) {index : Nat} {y : MethodName} {cY : ByteArray} {nY : Nat} {rY : Option FieldType} {hsY : List (Nat × Nat × Nat × Nat)} {n : Nat} (C0 : mh_cee y cY nY rY hsY n) (hlk : mh_lk own index y) (hins : Cond.instanceMethod y ∈ mh_TB) {C : String} (hsel : Cond.selects C y y ∈ mh_TB)
    {q : Addr} {cellB : Cell} (hcell : T.heap[q]? = some cellB) (hobj : cellB.vm.isStatics = false) (hcls : s.vm.findClass C = some cellB.cls)
    {g : JFrame} (hg : g.method = m) {argsL rest : List Value} (hn : argsL.length = n) (hstack : g.stack = argsL.reverse ++ .ref q :: rest) (hdg : decode cc g.pc = .ok (.invokevirtual index, 3)) :
    ∃ (mk : MethodId) (vm₁ : Vm), Stand p l e R s m args below meth c (T.setVm vm₁) locs cells slots ∧ (T.setVm vm₁).methodNamed? y = some mk ∧
      ∀ target, (∀ acts, Steps p.tables e below (doInvoke e ((T.setVm vm₁).setTop { g with stack := rest }) acts mk (Value.ref q :: argsL).toArray).1 target) → Steps p.tables e below (T.setTop g) target := by
  obtain ⟨hx, hb, hown, hts, hN, hK⟩ := K0
  obtain ⟨hcd, hini, hy, hlen⟩ := C0
  have hlen := mh_cee_len hlen
  obtain ⟨mk, methM, hnamed, hmethM, hstM, habM⟩ := Cond.instanceMethod_spec (hts _ hins)
  obtain ⟨mk', methM', cM, hnamed', hmethM', -, -, -, -, -, -, hsigM⟩ := mh_cd_of (hts _ hcd)
  cases Option.some.inj (hnamed.symm.trans hnamed')
  cases Option.some.inj (hmethM.symm.trans hmethM')
  obtain ⟨c2, r2, m2, q1, q2, q3, q4, kP, hkP, hkPi⟩ := Cond.selects_spec (hts _ hsel)
  cases hcls.symm.trans q1
  cases (State.methodFound?_of_named hnamed hy).symm.trans q2
  cases hnamed.symm.trans q3
  have hselP : selectMethod e.platform s.vm cellB.cls mk = .method mk := by rw [Launch.admits_selectMethod X.admits]; exact q4
  have hln : argsL.length = methM.sig.parameters.length := hn.trans (hlen _ hsigM)
  rcases hlk with hlk | ⟨host, hlk⟩
  · obtain ⟨vm₁, X₁, hstep₁⟩ := X.invokevirtual hx hown (hts _ hlk) hnamed hmethM hstM hkP hkPi hy (a := q) (cell := cellB) hcell
      (fun z h => by rw [h] at hobj; cases hobj) hselP hmethM habM hkP hkPi (g := g) hg (argsL := argsL) (rest := rest) hln hstack (by rw [hb]; exact hdg)
    exact ⟨mk, vm₁, X₁, X₁.named hnamed, fun target h => hstep₁ _ h⟩
  · obtain ⟨vm₁, X₁, hstep₁⟩ := X.invokevirtualNest hx hown (va_Nw.use rfl (hN _ hlk)) hnamed hmethM hstM hkP hkPi hy (a := q) (cell := cellB) hcell
      (fun z h => by rw [h] at hobj; cases hobj) hselP hmethM habM hkP hkPi (g := g) hg (argsL := argsL) (rest := rest) hln hstack (by rw [hb]; exact hdg)
    exact ⟨mk, vm₁, X₁, X₁.named hnamed, fun target h => hstep₁ _ h⟩
theorem mh_siteI {cc : ByteArray} {own : String} {dC : Nat → ClassId} {dI : Nat → Nat → Nat} {dA : Nat → ClassId} (X : Stand p l e R s m args below meth c T locs cells slots) (K0 : mh_K0 p s m args c own cc dC dI dA) {index : Nat} {y : MethodName} {cY : ByteArray} {nY : Nat} {n : Nat} (C0 : mh_cee y cY nY none [] n) (hlk : mh_lk own index y) (hins : Cond.instanceMethod y ∈ mh_TB) (hy1 : y.name = "<init>")
    {q : Addr} {g : JFrame} (hg : g.method = m) {argsL rest : List Value} (hn : argsL.length = n) (hstack : g.stack = argsL.reverse ++ .ref q :: rest) (hdg : decode cc g.pc = .ok (.invokespecial index, 3)) :
    ∃ (mk : MethodId) (vm₁ : Vm), Stand p l e R s m args below meth c (T.setVm vm₁) locs cells slots ∧ (T.setVm vm₁).methodNamed? y = some mk ∧
      ∀ target, (∀ acts, Steps p.tables e below (doInvoke e ((T.setVm vm₁).setTop { g with stack := rest }) acts mk (Value.ref q :: argsL).toArray).1 target) → Steps p.tables e below (T.setTop g) target := by
  obtain ⟨hx, hb, hown, hts, hN, hK⟩ := K0
  obtain ⟨hcd, hini, hy, hlen⟩ := C0
  have hlen := mh_cee_len hlen
  subst hg
  have hpl : e.platform.magicAccessors = ({} : Platform).magicAccessors := by rw [X.admits.platform]
  have hcode : (Cond.code y cY nY none).before args s = true := hts _ hcd
  rcases hlk with hlk | ⟨host, hlk⟩
  · obtain ⟨mk, methM, cM, kP, vm₁, hnamed, hmethM, hcodeM, -, hlocalsM, -, hkP, -, hW₁, hstep₁⟩ := Steps.initColdArgs (e := e) X.here hx X.warmed hpl hown hy1 hy (hts _ hlk) (hts _ hins) hcode (f := g) rfl (fun sig h => hn.trans (hlen sig h)) hstack (by rw [hb]; exact hdg)
    exact ⟨mk, vm₁, X.noted hW₁, (X.noted hW₁).named hnamed, fun target h => hstep₁ _ h⟩
  · obtain ⟨mk, methM, cM, kP, vm₁, hnamed, hmethM, hcodeM, -, hlocalsM, -, hkP, -, hW₁, hstep₁⟩ := Steps.initColdArgsNest (e := e) X.here hx X.warmed hpl hown hy1 hy (va_Nw.use rfl (hN _ hlk)) (hts _ hins) hcode (f := g) rfl (fun sig h => hn.trans (hlen sig h)) hstack (by rw [hb]; exact hdg)
    exact ⟨mk, vm₁, X.noted hW₁, (X.noted hW₁).named hnamed, fun target h => hstep₁ _ h⟩
end MHC
section MHW
variable {p : Program} {l : Launch} {e : Env} {R : Room} {s : State} {m : MethodId} {args : Array Value} {below : List Frame} {meth : Method} {c : Code} {H : Heap} {locs : List Loc} {cells slots : Nat} {Q : State → Prop}
variable {cc : ByteArray} {pc : Nat} {ls : Array Slot} {rest st0 : List Value} {own : String} {b : Nat} {dC : Nat → ClassId} {dI : Nat → Nat → Nat} {dA : Nat → ClassId} {zs : Nat → Nat} {w w0 : mh_w} {P : Outcome → mh_w → Prop}
def mh_Site (p : Program) (l : Launch) (e : Env) (R : Room) (s : State) (m : MethodId) (args : Array Value) (below : List Frame) (meth : Method) (c : Code) (H : Heap) (locs : List Loc) (cells slots : Nat) (g : JFrame) (rest : List Value) (y : MethodName) (av : List Value) : Prop :=
  ∀ T : State, T.heap = H → Stand p l e R s m args below meth c T locs cells slots → ∃ (mk : MethodId) (vm₁ : Vm), Stand p l e R s m args below meth c (T.setVm vm₁) locs cells slots ∧ (T.setVm vm₁).methodNamed? y = some mk ∧
      ∀ target, (∀ acts, Steps p.tables e below (doInvoke e ((T.setVm vm₁).setTop { g with stack := rest }) acts mk av.toArray).1 target) → Steps p.tables e below (T.setTop g) target
theorem mh_call {y : MethodName} {rm : Room} {av : List Value} (site : mh_Site p l e R s m args below meth c H locs cells slots (F0 m pc ls st0) rest y av) (hM : mh_Met l b dC dI dA zs y rm av w P) (K0 : mh_K0 p s m args c own cc dC dI dA) (hOK : mh_OK b dC dI dA zs w0 s)
    {nL : Nat} (hml : c.maxLocals = nL) (hsz : ls.size = nL) {cY : ByteArray} {nY : Nat} {rY : Option FieldType} {hsY : List (Nat × Nat × Nat × Nat)} {n : Nat} (C0 : mh_cee y cY nY rY hsY n) (hX : mh_P (dC, dI) b w H) (hS : va_S (mh_A b) s.heap H locs) {ig : Instr} (hdg : decode cc pc = .ok (ig, 3))
    (hfr : rm.frames + 1 ≤ R.frames) (hW9 : (rest.map fun v => v.category).sum ≤ 8) (hlo : 8 + (nY + 11) + rm.locals ≤ R.locals) (h4 : cells + rm.cells ≤ R.cells) (h5 : slots + rm.slots ≤ R.slots)
    (kx : ∀ (q : Addr) (w' : mh_w) (H1 : Heap) (locs1 : List Loc), P (.threw q) w' → mh_P (dC, dI) b w' H1 → va_S (mh_A b) s.heap H1 locs1 → mh_X p l e R s m args below meth c H1 locs1 (cells + rm.cells) (slots + rm.slots) Q (F0 m pc ls rest) q)
    (kk : ∀ (v : Option Value) (w' : mh_w) (H1 : Heap) (locs1 : List Loc), P (.returned v) w' → mh_P (dC, dI) b w' H1 → va_S (mh_A b) s.heap H1 locs1 → W p l e R s m args below meth c H1 locs1 (cells + rm.cells) (slots + rm.slots) Q (F0 m (pc + 3) ls (v.toList ++ rest))) :
    W p l e R s m args below meth c H locs cells slots Q (F0 m pc ls st0) := by
  intro T hT X
  obtain ⟨mk, vm₁, X₁, hn, st⟩ := site T hT X
  have hS1 : va_S (mh_A b) s.heap (T.setVm vm₁).heap locs := by rw [show (T.setVm vm₁).heap = T.heap from rfl, hT]; exact hS
  have hX1 : mh_P (dC, dI) b w (T.setVm vm₁).heap := by rw [show (T.setVm vm₁).heap = T.heap from rfl, hT]; exact hX
  obtain ⟨T', L, w', X', hL, hXw, hF, hor⟩ := mh_inv hM X₁ K0.2.2.2.1 C0.1 C0.2.1 (g := { F0 m pc ls st0 with stack := rest }) rfl (by show ls.size = _; rw [hsz, hml]) (ig := ig) (len := 3) (by rw [K0.2.1]; exact hdg) hn hfr (W9 := 8) (by show 2 * 0 + (rest.map fun v => v.category).sum ≤ 8; omega) hlo h4 h5 (mh_OK_at hOK X₁.warmed hS1 hX1)
  have hS' : va_S (mh_A b) s.heap T'.heap (locs ++ L) := by
    have hz : H.size ≤ T'.heap.size := by have := hF.1; rw [show (T.setVm vm₁).heap = T.heap from rfl, hT] at this; exact this
    refine ⟨Nat.le_trans hS.1 hz, fun q h1 h2 => ?_, fun q hq => ?_⟩
    · have := hF.2 q (by rw [show (T.setVm vm₁).heap = T.heap from rfl, hT]; exact Nat.lt_of_lt_of_le h1 hS.1) h2
      rw [this, show (T.setVm vm₁).heap = T.heap from rfl, hT]
      exact hS.2.1 q h1 h2
    · rcases List.mem_append.mp hq with h | h
      · exact hS.2.2 q h
      · exact hL q h
  rcases hor with ⟨v, hP, hst⟩ | ⟨q, hP, hst⟩
  · obtain ⟨t2, a1, b1⟩ := kk v w' T'.heap (locs ++ L) hP hXw hS' T' rfl X'
    exact ⟨t2, st _ (fun acts => by rw [doInvoke_state]; exact hst.trans a1), b1⟩
  · obtain ⟨t2, a1, b1⟩ := kx q w' T'.heap (locs ++ L) hP hXw hS' T' rfl X'
    exact ⟨t2, st _ (fun acts => by rw [doInvoke_state]; exact hst.trans a1), b1⟩
theorem mh_sS (K0 : mh_K0 p s m args c own cc dC dI dA) {index : Nat} {y : MethodName} {cY : ByteArray} {nY : Nat} {rY : Option FieldType} {hsY : List (Nat × Nat × Nat × Nat)} {n : Nat} (C0 : mh_cee y cY nY rY hsY n) (hlk : mh_lk own index y) (hst : Cond.static y ∈ mh_TB) {av : List Value} (hn : av.length = n) (hstack : st0 = av.reverse ++ rest) (hdg : decode cc pc = .ok (.invokestatic index, 3)) :
    mh_Site p l e R s m args below meth c H locs cells slots (F0 m pc ls st0) rest y av := fun T hT X => mh_siteS X K0 C0 hlk hst (g := F0 m pc ls st0) rfl hn hstack hdg
theorem mh_sV (K0 : mh_K0 p s m args c own cc dC dI dA) (hX : mh_P (dC, dI) b w H) {k i q ci : Nat} {fs : List Value} {vc : vw_C} (h : w k i = some (q, .inr (ci, fs))) (hc : classes[ci]? = some vc) {index : Nat} {y : MethodName} {cY : ByteArray} {nY : Nat} {rY : Option FieldType} {hsY : List (Nat × Nat × Nat × Nat)} {n : Nat} (C0 : mh_cee y cY nY rY hsY n) (hlk : mh_lk own index y) (hins : Cond.instanceMethod y ∈ mh_TB) (hsel : Cond.selects vc.1 y y ∈ mh_TB) {av : List Value} (hn : av.length = n) (hstack : st0 = av.reverse ++ .ref q :: rest) (hdg : decode cc pc = .ok (.invokevirtual index, 3)) :
    mh_Site p l e R s m args below meth c H locs cells slots (F0 m pc ls st0) rest y (.ref q :: av) := fun T hT X => by
  obtain ⟨cell, h1, h2, h3⟩ := va_recv (K0.2.2.2.2.2) (hX.get h) hc (q0 := 0) rfl
  exact mh_siteV X K0 C0 hlk hins hsel (by rw [hT]; exact h1) h2 h3 (g := F0 m pc ls st0) rfl hn hstack hdg
theorem mh_sI (K0 : mh_K0 p s m args c own cc dC dI dA) {index q : Nat} {y : MethodName} {cY : ByteArray} {nY : Nat} {n : Nat} (C0 : mh_cee y cY nY none [] n) (hlk : mh_lk own index y) (hins : Cond.instanceMethod y ∈ mh_TB) (hy1 : y.name = "<init>") {av : List Value} (hn : av.length = n) (hstack : st0 = av.reverse ++ .ref q :: rest) (hdg : decode cc pc = .ok (.invokespecial index, 3)) :
    mh_Site p l e R s m args below meth c H locs cells slots (F0 m pc ls st0) rest y (.ref q :: av) := fun T hT X => mh_siteI X K0 C0 hlk hins hy1 (g := F0 m pc ls st0) rfl hn hstack hdg
end MHW
