/-! WORLDS BY NAMES: a cell has a name (k, i); what the world holds there is its address and its contents; all lie at b or above it -/
abbrev mh_w : Type := Nat → Nat → Option (Nat × va_E)
def mh_set (w : mh_w) (k i : Nat) (q : Option (Nat × va_E)) : mh_w := fun k' => if k' = k then (fun i' => if i' = i then q else w k' i') else w k'
theorem mh_set_eq (w : mh_w) (k i : Nat) (q : Option (Nat × va_E)) : mh_set w k i q k i = q := by simp [mh_set]
theorem mh_set_i (w : mh_w) (k i : Nat) (q : Option (Nat × va_E)) {j : Nat} (h : j ≠ i) : mh_set w k i q k j = w k j := by simp [mh_set, h]
theorem mh_set_k (w : mh_w) (k i : Nat) (q : Option (Nat × va_E)) {k' : Nat} (h : k' ≠ k) : mh_set w k i q k' = w k' := by simp [mh_set, h]
theorem mh_set_ne (w : mh_w) (k i : Nat) (q : Option (Nat × va_E)) {k' j : Nat} (h : ¬ (k' = k ∧ j = i)) : mh_set w k i q k' j = w k' j := by
  by_cases hk : k' = k
  · subst hk
    exact mh_set_i w k' i q (fun e => h ⟨rfl, e⟩)
  · rw [mh_set_k w k i q hk]
theorem mh_set_apply (w : mh_w) (k i : Nat) (q : Option (Nat × va_E)) (k' j : Nat) : mh_set w k i q k' j = if k' = k ∧ j = i then q else w k' j := by
  by_cases h : k' = k ∧ j = i
  · obtain ⟨rfl, rfl⟩ := h
    rw [mh_set_eq, if_pos ⟨rfl, rfl⟩]
  · rw [mh_set_ne w k i q h, if_neg h]
def mh_P (D : va_G) (b : Nat) (w : mh_w) (H : Heap) : Prop :=
  (∀ (k i : Nat) (q : Nat × va_E), w k i = some q → va_at D classes q H ∧ b ≤ q.1) ∧ ∀ (k i k' i' : Nat) (q q' : Nat × va_E), w k i = some q → w k' i' = some q' → q.1 = q'.1 → k = k' ∧ i = i'
theorem mh_P.at {D : va_G} {b : Nat} {w : mh_w} {H : Heap} (h : mh_P D b w H) {k i : Nat} {q : Nat × va_E} (hq : w k i = some q) : va_at D classes q H := (h.1 k i q hq).1
theorem mh_P.le {D : va_G} {b : Nat} {w : mh_w} {H : Heap} (h : mh_P D b w H) {k i : Nat} {q : Nat × va_E} (hq : w k i = some q) : b ≤ q.1 := (h.1 k i q hq).2
theorem mh_P.get {D : va_G} {b : Nat} {w : mh_w} {H : Heap} (h : mh_P D b w H) {k i : Nat} {q : Nat × va_E} (hq : w k i = some q) : va_P D classes [q] H := by
  intro j x hx
  have hz : j < 1 := (List.getElem?_eq_some_iff.mp hx).1
  rw [show j = 0 by omega] at hx
  cases hx
  exact h.at hq
theorem mh_P.put {D : va_G} {b : Nat} {w : mh_w} {H H1 : Heap} {k i a : Nat} {e0 e : va_E} (h : mh_P D b w H) (h0 : w k i = some (a, e0)) (he : va_at D classes (a, e) H1) (oq : ∀ q : Nat, q ≠ a → H1[q]? = H[q]?) : mh_P D b (mh_set w k i (some (a, e))) H1 := by
  have key : ∀ (k' i' : Nat) (q : Nat × va_E), mh_set w k i (some (a, e)) k' i' = some q → (k' = k ∧ i' = i ∧ q = (a, e)) ∨ (¬ (k' = k ∧ i' = i) ∧ w k' i' = some q) := by
    intro k' i' q hq
    rw [mh_set_apply] at hq
    by_cases hc : k' = k ∧ i' = i
    · rw [if_pos hc] at hq
      exact Or.inl ⟨hc.1, hc.2, (Option.some.inj hq).symm⟩
    · rw [if_neg hc] at hq
      exact Or.inr ⟨hc, hq⟩
  refine ⟨fun k' i' q hq => ?_, fun k1 i1 k2 i2 q1 q2 h1 h2 hne => ?_⟩
  · rcases key k' i' q hq with ⟨rfl, rfl, rfl⟩ | ⟨hc, hq⟩
    · exact ⟨he, (show b ≤ a from h.le h0)⟩
    · exact ⟨(h.at hq).kept (oq q.1 (fun z => hc (h.2 k' i' k i q (a, e0) hq h0 z))), h.le hq⟩
  · rcases key k1 i1 q1 h1 with ⟨rfl, rfl, rfl⟩ | ⟨c1, g1⟩ <;> rcases key k2 i2 q2 h2 with ⟨rfl, rfl, rfl⟩ | ⟨c2, g2⟩
    · exact ⟨rfl, rfl⟩
    · exact h.2 _ _ _ _ _ _ h0 g2 hne
    · exact h.2 _ _ _ _ _ _ g1 h0 hne
    · exact h.2 _ _ _ _ _ _ g1 g2 hne
theorem mh_P.new {D : va_G} {b : Nat} {w : mh_w} {H H1 : Heap} {k i : Nat} {e : va_E} (h : mh_P D b w H) (hb : b ≤ H.size) (he : va_at D classes (H.size, e) H1) (oq : ∀ q : Nat, q < H.size → H1[q]? = H[q]?) : mh_P D b (mh_set w k i (some (H.size, e))) H1 := by
  have key : ∀ (k' i' : Nat) (q : Nat × va_E), mh_set w k i (some (H.size, e)) k' i' = some q → (k' = k ∧ i' = i ∧ q = (H.size, e)) ∨ (w k' i' = some q ∧ q.1 < H.size) := by
    intro k' i' q hq
    rw [mh_set_apply] at hq
    by_cases hc : k' = k ∧ i' = i
    · rw [if_pos hc] at hq
      exact Or.inl ⟨hc.1, hc.2, (Option.some.inj hq).symm⟩
    · rw [if_neg hc] at hq
      exact Or.inr ⟨hq, (h.at hq).lt⟩
  refine ⟨fun k' i' q hq => ?_, fun k1 i1 k2 i2 q1 q2 h1 h2 hne => ?_⟩
  · rcases key k' i' q hq with ⟨rfl, rfl, rfl⟩ | ⟨hq, hl⟩
    · exact ⟨he, hb⟩
    · exact ⟨(h.at hq).kept (oq q.1 hl), h.le hq⟩
  · rcases key k1 i1 q1 h1 with ⟨rfl, rfl, rfl⟩ | ⟨g1, l1⟩ <;> rcases key k2 i2 q2 h2 with ⟨rfl, rfl, rfl⟩ | ⟨g2, l2⟩
    · exact ⟨rfl, rfl⟩
    · exact absurd hne (Nat.ne_of_gt l2)
    · exact absurd hne (Nat.ne_of_lt l1)
    · exact h.2 _ _ _ _ _ _ g1 g2 hne
/-- a world whose names are some of another's, each name of its own -/
theorem mh_P.by {D : va_G} {b : Nat} {w w' : mh_w} {H : Heap} (h : mh_P D b w H) (r : Nat → Nat → Nat × Nat) (hr : ∀ (k i : Nat) (q : Nat × va_E), w' k i = some q → w (r k i).1 (r k i).2 = some q) (hi : ∀ (k i k' i' : Nat) (q q' : Nat × va_E), w' k i = some q → w' k' i' = some q' → r k i = r k' i' → k = k' ∧ i = i') : mh_P D b w' H := by
  refine ⟨fun k i q hq => h.1 _ _ q (hr k i q hq), fun k i k' i' q q' h1 h2 hne => ?_⟩
  obtain ⟨e1, e2⟩ := h.2 _ _ _ _ q q' (hr k i q h1) (hr k' i' q' h2) hne
  exact hi k i k' i' q q' h1 h2 (Prod.ext e1 e2)
theorem mh_P.drop {D : va_G} {b : Nat} {w : mh_w} {H : Heap} (h : mh_P D b w H) (k i : Nat) : mh_P D b (mh_set w k i none) H := by
  refine h.by (fun k i => (k, i)) (fun k' i' q hq => ?_) (fun k i k' i' q q' _ _ e => by cases e; exact ⟨rfl, rfl⟩)
  rw [mh_set_apply] at hq
  by_cases hc : k' = k ∧ i' = i
  · rw [if_pos hc] at hq; cases hq
  · rw [if_neg hc] at hq; exact hq
/-- two names that hold other things are two names -/
theorem mh_ne {w : mh_w} {k i k' i' : Nat} {q q' : Nat × va_E} (h : w k i = some q) (h' : w k' i' = some q') (hne : q.2 ≠ q'.2) : ¬ (k' = k ∧ i' = i) := by
  rintro ⟨rfl, rfl⟩
  exact hne (by rw [h] at h'; rw [Option.some.inj h'])
/-- the state at a method's start: what the tables say (mh_T), the statics (mh_Z), the world -/
def mh_OK (b : Nat) (dC : Nat → ClassId) (dI : Nat → Nat → Nat) (dA : Nat → ClassId) (zs : Nat → Nat) (w : mh_w) (U : State) : Prop :=
  (∀ x ∈ mh_NW, va_Nw x U) ∧ va_K (dC, dI) classes (mh_tys dA) U ∧ mh_Z b zs U U.heap ∧ b ≤ U.heap.size ∧ mh_P (dC, dI) b w U.heap
/-- a method's end -/
def mh_Q (b : Nat) (dC : Nat → ClassId) (dI : Nat → Nat → Nat) (P : Outcome → mh_w → Prop) (mc ms : Nat) : Array Value → State → Outcome → State → Prop := fun _ st o t =>
  ∃ w' : mh_w, P o w' ∧ mh_P (dC, dI) b w' t.heap ∧ va_F (mh_A b) st t ∧ ∃ L : List Loc, st.WarmedH t.vm ∧ st.sameButNew ({ t with vm := st.vm } : State) L mc ms ∧ ∀ q ∈ L, b ≤ q.base
/-- a method's contract: from the arguments av and the world w it comes to an end that P allows -/
def mh_Met (l : Launch) (b : Nat) (dC : Nat → ClassId) (dI : Nat → Nat → Nat) (dA : Nat → ClassId) (zs : Nat → Nat) (y : MethodName) (rm : Room) (av : List Value) (w : mh_w) (P : Outcome → mh_w → Prop) : Prop :=
  MetFree l y (headSpec mh_TB rm) (va_Pc av (mh_OK b dC dI dA zs w)) (fun _ _ _ _ _ => True) (mh_Q b dC dI P rm.cells rm.slots)
/-- what the body owes -/
def mh_MQ (below : List Frame) (b : Nat) (dC : Nat → ClassId) (dI : Nat → Nat → Nat) (P : Outcome → mh_w → Prop) (args : Array Value) (s : State) (mc ms : Nat) : State → Prop := fun t =>
  ∃ o, t.status = .running ∧ Ended t below o ∧ mh_Q b dC dI P mc ms args s o t
/-- the code of a method, with its table of handlers -/
def mh_cd (s : State) (y : MethodName) (cc : ByteArray) (n : Nat) (ret : Option FieldType) (hs : List (Nat × Nat × Nat × Nat)) : Prop :=
  ∃ m meth c, s.methodNamed? y = some m ∧ s.vm.method? m = some meth ∧ meth.code = some c ∧ c.code = cc ∧ c.maxLocals = n ∧
      c.exceptionTable.toList.map (fun h => (h.startPc, h.endPc, h.handlerPc, h.catchType)) = hs ∧ meth.sig.returnType = ret ∧ meth.locks = false ∧ parseMethodDescriptor y.desc = some meth.sig
def mh_cw (y : MethodName) (cc : ByteArray) (n : Nat) (ret : Option FieldType) (hs : List (Nat × Nat × Nat × Nat)) : Cond := match hs with
  | [] => .code y cc n ret
  | _ => .codeWith y cc n ret hs
theorem mh_cd_of {s : State} {args : Array Value} {y : MethodName} {cc : ByteArray} {n : Nat} {ret : Option FieldType} {hs : List (Nat × Nat × Nat × Nat)} (h : (mh_cw y cc n ret hs).before args s = true) : mh_cd s y cc n ret hs := by
  cases hs with
  | nil =>
    obtain ⟨m, hn⟩ := Cond.code_named (show (Cond.code y cc n ret).before args s = true from h)
    obtain ⟨meth, c, h1, h2, h3, h4, h5, h6, h7, h8⟩ := Cond.code_spec hn (show (Cond.code y cc n ret).before args s = true from h)
    have h9 : c.exceptionTable.size = 0 := by simpa [Array.isEmpty] using h7
    have h0 : c.exceptionTable.toList = [] := List.eq_nil_of_length_eq_zero (by simpa using h9)
    exact ⟨m, meth, c, hn, h1, h2, h3, h4, by rw [h0]; rfl, h5, h6, h8⟩
  | cons q l =>
    exact Cond.codeWith_spec (show (Cond.codeWith y cc n ret (q :: l)).holds args s none s [] = true from h)
theorem mh_pay {args : Array Value} {s : State} (hts : ∀ w ∈ mh_TB, w.before args s = true) : ∀ w ∈ mh_TB, ∀ (a' : Array Value) (U : State), s.WarmedH U.vm → w.before a' U = true :=
  fun w hw a' U hW => word_at hW (good_of_word (mh_TB_good w hw)) (hts w hw)
theorem mh_ofW {l : Launch} {b : Nat} {dC : Nat → ClassId} {dI : Nat → Nat → Nat} {dA : Nat → ClassId} {zs : Nat → Nat} {y : MethodName} {rm : Room} {av : List Value} {w : mh_w} {P : Outcome → mh_w → Prop}
    {cc : ByteArray} {n : Nat} {ret : Option FieldType} {hs : List (Nat × Nat × Nat × Nat)} (hy : plainFor y = true) (hc : mh_cw y cc n ret hs ∈ mh_TB)
    (body : ∀ (p : Program) (e : Env) (s : State) (m : MethodId) (below : List Frame) (meth : Method) (c : Code), p.tables.exec = Jvm.exec → c.code = cc → meth.sig.returnType = ret → c.maxLocals = n → s.vm.findClass y.cls = some m.cls →
      (∀ x ∈ mh_TB, x.before av.toArray s = true) → meth.locks = false → meth.name = y.name → c.exceptionTable.toList.map (fun h => (h.startPc, h.endPc, h.handlerPc, h.catchType)) = hs → mh_OK b dC dI dA zs w s → l.admits e →
      W p l e rm s m av.toArray below meth c s.heap [] 0 0 (mh_MQ below b dC dI P av.toArray s rm.cells rm.slots) (entryFrame m av.toArray n)) : mh_Met l b dC dI dA zs y rm av w P := by
  refine MetFree.of_bodySF (code := cc) (maxLocals := n) (ret := ret) hy ?_ ?_
  · intro args s m h hn
    obtain ⟨m', meth, c, h0, h1, h2, h3, h4, -, h5, h6, -⟩ := mh_cd_of (atoms_spec (ws := mh_TB) h _ hc)
    cases Option.some.inj (hn.symm.trans h0)
    exact ⟨meth, c, h1, h2, h3, h4, h5, h6⟩
  · intro p e s m args below meth c s₁ B hml hP _
    obtain ⟨rfl, hOK⟩ := hP
    have hh0 : s₁.heap = s.heap := by rw [B.state]; rfl
    have hts : ∀ x ∈ mh_TB, x.before av.toArray s = true := atoms_spec (ws := mh_TB) B.pre
    have X₀ := Stand.of_body B
    obtain ⟨m', meth', c', h0, h1, h2, -, -, h3, -, -, -⟩ := mh_cd_of (hts _ hc)
    cases Option.some.inj (B.named.symm.trans h0)
    cases Option.some.inj (B.method.symm.trans h1)
    cases Option.some.inj (X₀.code.symm.trans h2)
    obtain ⟨t, a1, o, b1, b2, b3⟩ := body p e s m below meth c B.exec B.bytes B.returns hml (findClass_of_methodNamed B.named) hts B.notSynchronized (name_of_methodNamed B.named B.method).1 h3 hOK X₀.admits s₁ hh0 X₀
    exact ⟨t, o, a1, b1, b2, b3⟩
