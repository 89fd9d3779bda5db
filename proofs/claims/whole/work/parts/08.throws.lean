section MHX
variable {p : Program} {l : Launch} {e : Env} {R : Room} {s : State} {m : MethodId} {args : Array Value} {below : List Frame} {meth : Method} {c : Code} {H : Heap} {locs : List Loc} {cells slots : Nat} {Q : State → Prop}
variable {cc : ByteArray} {pc : Nat} {ls : Array Slot} {rest : List Value} {own : String} {b : Nat} {dC : Nat → ClassId} {dI : Nat → Nat → Nat} {dA : Nat → ClassId} {zs : Nat → Nat} {w w0 : mh_w} {P : Outcome → mh_w → Prop} {mc ms : Nat}
/-- an exception class of the claim: its number, its words -/
def mh_ex (ci : Nat) (cls : String) (ic : Nat) : Prop := (∃ F, classes[ci]? = some (cls, F, 0)) ∧ Bundle.fit cls = true ∧ (∀ x ∈ (Bundle.ownAtoms "MeldHost" ic cls ["java/lang/RuntimeException", "java/lang/Exception"]).filter mh_xo, x ∈ mh_TB ∨ x ∈ mh_NW) ∧ Cond.instantiable cls 6 ∈ mh_TB ∧ Cond.initialized cls ∈ mh_TB
set_option maxHeartbeats 1000000 in
/-- throw new E("text"), at an empty operand stack, in a method of MeldHost without a table -/
theorem mh_throw (hl : l.stackTraces = false) {ie is ic ci : Nat} {cls tx : String} (K0 : mh_K0 p s m args c "MeldHost" cc dC dI dA) (hOK : mh_OK b dC dI dA zs w0 s) (E : mh_ex ci cls ic) (hst : (is, tx) ∈ mh_str) (hcl : Cond.classLink "MeldHost" ie cls ∈ mh_TB) (hlocks : meth.locks = false) (hT : c.exceptionTable.toList.map (fun h => (h.startPc, h.endPc, h.handlerPc, h.catchType)) = []) {nL : Nat} (hml : c.maxLocals = nL) (hsz : ls.size = nL)
    (hX : mh_P (dC, dI) b w H) (hS : va_S (mh_A b) s.heap H locs) (hP : ∀ q : Nat, P (.threw q) (mh_set w 99 0 (some (q, .inr (ci, []))))) (h1 : cells + 1 ≤ mc) (h2 : slots + 6 ≤ ms) (hRc : cells + 1 ≤ R.cells) (hRs : slots + 6 ≤ R.slots) (hfr : 5 < R.frames) (hlo : 83 ≤ R.locals)
    (d0 : decode cc pc = .ok (.new ie, 3)) (d3 : decode cc (pc + 3) = .ok (.dup, 1)) (d4 : decode cc (pc + 4) = .ok (.ldc is, 2)) (d6 : decode cc (pc + 6) = .ok (.invokespecial ic, 3)) (d9 : decode cc (pc + 9) = .ok (.athrow, 1)) :
    W p l e R s m args below meth c H locs cells slots (mh_MQ below b dC dI P args s mc ms) (F0 m pc ls []) := by
  obtain ⟨hx, hb, hown, hts, hN, hK⟩ := K0
  obtain ⟨⟨F, hc⟩, hfit, hat, hins, hini⟩ := E
  obtain ⟨hN0, hK0, hZ, hb0, hX0⟩ := hOK
  have hKn := hK.1 ci _ hc
  have hstr := hZ.2.1 _ hst
  have hat' : ∀ x ∈ Bundle.ownAtoms "MeldHost" ic cls ["java/lang/RuntimeException", "java/lang/Exception"], x.before args s = true := mh_own (fun x hx => (hat x hx).elim (hts x) (fun h => va_Nw.use (mh_NW_on x h) (hN x h))) hZ.2.2.2.2.1 hZ.2.2.2.2.2.1
  refine W.newcK hx hb hown (hts _ hcl) (hts _ hins) (hts _ hini) rfl d0 hRc hRs hKn.2.1 rfl fun H1 kC hkC e1 z1 o1 => ?_
  refine lv_dup hx hb d3 rfl ?_
  refine va_ldcS hx hb hown hstr d4 ?_
  intro T hTh X
  have htr : e.platform.stackTraces = false := by rw [X.admits.platform]; exact hl
  obtain ⟨vm', ce, L, X', hL, hcc, hcv, hgo⟩ := mh_ctorS X hx htr hown hfit (by decide) hat' hZ.2.2.2.2.1 hS.2.2 hKn.2.1 hkC (a := H.size) (by rw [hTh]; exact e1) hS.1 (msg := .ref (zs is)) rfl (g := F0 m (pc + 6) ls (.ref (zs is) :: .ref H.size :: .ref H.size :: [])) rfl (by show ls.size = _; rw [hsz, hml]) (rest := []) rfl (by rw [hb]; exact d6) hfr (by show 2 * 0 + 1 + 81 ≤ _; omega)
  have hn : c.exceptionTable.toList = [] := List.map_eq_nil_iff.mp hT
  obtain ⟨st, r1, r2, hW, hsm⟩ := (stand_widen X' h1 h2).athrowLeaves hx (g := F0 m (pc + 9) ls [.ref H.size]) rfl rfl rfl (fun x hx => by rw [hn] at hx; cases hx) (a := H.size) (rest := []) rfl (by rw [hb]; exact d9) hlocks
  have hlt : H.size < T.heap.size := by rw [hTh, z1]; exact Nat.lt_succ_self _
  have hh : ∀ q : Nat, q ≠ H.size → ((T.setVm vm').setCell H.size ce).heap[q]? = H1[q]? := fun q hq => by
    rw [heapAt_setCell_ne (s := T.setVm vm') _ (Ne.symm hq)]
    show T.heap[q]? = _
    rw [hTh]
  have hself : ((T.setVm vm').setCell H.size ce).heap[H.size]? = some ce := heapAt_setCell_self (s := T.setVm vm') _ hlt
  have hsz2 : ((T.setVm vm').setCell H.size ce).heap.size = H.size + 1 := by
    rw [size_setCell]
    show T.heap.size = _
    rw [hTh, z1]
  refine ⟨_, hgo _ st, .threw H.size, r1, r2, mh_set w 99 0 (some (H.size, .inr (ci, []))), hP _, ?_, ?_, locs ++ L, hW, hsm, ?_⟩
  · show mh_P (dC, dI) b _ ((T.setVm vm').setCell H.size ce).heap
    refine hX.new (Nat.le_trans hb0 hS.1) ⟨_, hc, ce, hself, hcc, hcv, fun k hk => absurd hk (Nat.not_lt_zero k)⟩ (fun q hq => ?_)
    rw [hh q (Nat.ne_of_lt hq)]
    exact o1 q hq
  · refine ⟨?_, fun q g1 g2 => ?_⟩
    · show s.heap.size ≤ ((T.setVm vm').setCell H.size ce).heap.size
      rw [hsz2]; have := hS.1; omega
    · show ((T.setVm vm').setCell H.size ce).heap[q]? = _
      have := hS.1
      rw [hh q (by omega), o1 q (by omega)]
      exact hS.2.1 q g1 g2
  · intro q hq
    rcases List.mem_append.mp hq with h | h
    · exact hS.2.2 q h
    · rw [hL q h]; exact Nat.le_trans hb0 hS.1
/-- a handler takes the exception: rows ahead that name other classes are passed -/
theorem mh_catch {ci k i : Nat} {E : String} {F : u_T} {n0 : Nat} (K0 : mh_K0 p s m args c own cc dC dI dA) (hOK : mh_OK b dC dI dA zs w0 s) (hX : mh_P (dC, dI) b w H) {q : Nat} {fs : List Value} (hq : w k i = some (q, .inr (ci, fs))) (hc : classes[ci]? = some (E, F, n0)) {hs pre suf : List (Nat × Nat × Nat × Nat)} {x : Nat × Nat × Nat × Nat} (hT : c.exceptionTable.toList.map (fun h => (h.startPc, h.endPc, h.handlerPc, h.catchType)) = hs) (hsp : hs = pre ++ x :: suf)
    (hpass : ∀ z ∈ pre, ∃ nm : String, z.2.2.2 ≠ 0 ∧ Cond.classLink own z.2.2.2 nm ∈ mh_TB ∧ (E, nm) ∈ mh_nc) (hx1 : x.1 ≤ pc) (hx2 : pc < x.2.1) (h0 : x.2.2.2 ≠ 0) (hlk : Cond.classLink own x.2.2.2 E ∈ mh_TB)
    (kk : W p l e R s m args below meth c H locs cells slots Q (F0 m x.2.2.1 ls [.ref q])) : mh_X p l e R s m args below meth c H locs cells slots Q (F0 m pc ls rest) q := by
  obtain ⟨hx, hb, hown, hts, hN, hK⟩ := K0
  obtain ⟨hN0, hK0, hZ, hb0, hX0⟩ := hOK
  intro T hTh X
  have hpl : e.platform.magicAccessors = ({} : Platform).magicAccessors := by rw [X.admits.platform]
  obtain ⟨r, hr, cell, q1, q2, q3, -⟩ := hX.at hq
  have hKn := hK.1 ci _ hc
  have hcl : s.vm.findClass E = some cell.cls := by rw [q2]; exact hKn.2.1
  obtain ⟨k9, hk9, -⟩ := Vm.findClass_spec hcl
  obtain ⟨c5, hc5, hcl5⟩ := Cond.classLink_spec hown (hts _ hlk) e.platform hpl
  cases Option.some.inj (hcl.symm.trans hc5)
  rw [hsp] at hT
  obtain ⟨pre', r1, e1, e2, e3⟩ := List.map_eq_append_iff.mp hT
  obtain ⟨x', suf', e4, e5, e6⟩ := List.map_eq_cons_iff.mp e3
  subst e4
  have hx' : (x'.startPc, x'.endPc, x'.handlerPc, x'.catchType) = x := e5
  subst hx'
  obtain ⟨vm', X', st⟩ := mh_caught X q (g := F0 m pc ls rest) rfl (by rw [hTh]; exact q1) q3 pre' x' suf' e1
    (fun z hz => by
      have hz' : (z.startPc, z.endPc, z.handlerPc, z.catchType) ∈ pre := by rw [← e2]; exact List.mem_map.mpr ⟨z, hz, rfl⟩
      obtain ⟨nm, g0, g1, g2⟩ := hpass _ hz'
      obtain ⟨c6, hc6, hcl6⟩ := Cond.classLink_spec hown (hts _ g1) e.platform hpl
      obtain ⟨a8, b8, f1, f2, f3⟩ := hZ.2.2.1 _ g2
      cases Option.some.inj (f1.symm.trans hcl)
      cases Option.some.inj (f2.symm.trans hc6)
      exact Or.inr ⟨g0, _, hcl6, f3⟩) (by simp [covers]; exact ⟨hx1, hx2⟩) h0 hcl5 ⟨k9, hk9⟩ (va_asg _ _)
  obtain ⟨t, a1, b1⟩ := kk (T.setVm vm') hTh X'
  exact ⟨t, st _ a1, b1⟩
end MHX
section MHV
variable {p : Program} {l : Launch} {e : Env} {R : Room} {s : State} {m : MethodId} {args : Array Value} {below : List Frame} {meth : Method} {c : Code} {H : Heap} {locs : List Loc} {cells slots : Nat} {Q : State → Prop} {pc : Nat} {ls : Array Slot} {rest : List Value}
/-- the number on top, written otherwise -/
theorem mh_ti {x y : Int32} (h : x = y) (k : W p l e R s m args below meth c H locs cells slots Q (F0 m pc ls (.int y :: rest))) : W p l e R s m args below meth c H locs cells slots Q (F0 m pc ls (.int x :: rest)) := h ▸ k
theorem mh_tl {x y : Int64} (h : x = y) (k : W p l e R s m args below meth c H locs cells slots Q (F0 m pc ls (.long y :: rest))) : W p l e R s m args below meth c H locs cells slots Q (F0 m pc ls (.long x :: rest)) := h ▸ k
theorem mh_tv {x y : Value} (h : x = y) (k : W p l e R s m args below meth c H locs cells slots Q (F0 m pc ls (y :: rest))) : W p l e R s m args below meth c H locs cells slots Q (F0 m pc ls (x :: rest)) := h ▸ k
/-- the heap's room, written otherwise -/
theorem mh_cs {c2 s2 : Nat} {g : JFrame} (h1 : cells = c2) (h2 : slots = s2) (k : W p l e R s m args below meth c H locs c2 s2 Q g) : W p l e R s m args below meth c H locs cells slots Q g := by subst h1; subst h2; exact k
end MHV
abbrev mh_rm (h mc ms : Nat) : Room := { frames := h, cells := mc, slots := ms, locals := 40 * h }
set_option maxRecDepth 100000 in
theorem ex_IA : mh_ex 8 "java/lang/IllegalArgumentException" 169 := ⟨⟨_, rfl⟩, by decide, by decide +kernel, k147, k14⟩
set_option maxRecDepth 100000 in
theorem ex_IS : mh_ex 9 "java/lang/IllegalStateException" 48 := ⟨⟨_, rfl⟩, by decide, by decide +kernel, k216, k15⟩
set_option maxRecDepth 100000 in
theorem ex_IO : mh_ex 10 "java/lang/IndexOutOfBoundsException" 98 := ⟨⟨_, rfl⟩, by decide, by decide +kernel, k361, k19⟩
set_option maxRecDepth 100000 in
theorem ex_UO : mh_ex 11 "java/lang/UnsupportedOperationException" 188 := ⟨⟨_, rfl⟩, by decide, by decide +kernel, k330, k18⟩
