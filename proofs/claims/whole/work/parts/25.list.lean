/-! ARRAYS OF OBJECTS THAT A LIST HOLDS -/
abbrev mh_E (Φ : Nat → mh_w → Prop) : Outcome → mh_w → Prop := fun o w' => ∃ q : Nat, o = .returned (some (.ref q)) ∧ Φ q w'
/-- each element is an intention that the world knows -/
def mh_el (w : mh_w) (n : Nat) (f : Nat → Option Nat) : Prop := ∀ j y : Nat, j < n → f j = some y → ∃ (k i : Nat) (fs : List Value), 10 ≤ k ∧ w k i = some (y, .inr (2, fs))
theorem mh_el.to {w w' : mh_w} {n : Nat} {f : Nat → Option Nat} (h : mh_el w n f) (hw : ∀ k i, 10 ≤ k → w' k i = w k i) : mh_el w' n f := fun j y hj hy => by
  obtain ⟨k, i, fs, h1, h2⟩ := h j y hj hy
  exact ⟨k, i, fs, h1, (hw k i h1).trans h2⟩
section MHL
variable {p : Program} {l : Launch} {e : Env} {R : Room} {s : State} {m : MethodId} {args : Array Value} {below : List Frame} {meth : Method} {c : Code} {H : Heap} {locs : List Loc} {cells slots : Nat} {Q : State → Prop}
variable {cc : ByteArray} {pc : Nat} {ls : Array Slot} {rest : List Value} {own : String} {b : Nat} {dC : Nat → ClassId} {dI : Nat → Nat → Nat} {dA : Nat → ClassId} {zs : Nat → Nat} {w w0 : mh_w} {k i a : Nat}
theorem mh_copyq (K0 : mh_K0 p s m args c own cc dC dI dA) {nL : Nat} (hml : c.maxLocals = nL) (hsz : ls.size = nL) {index : Nat} (hlink : Cond.methodLink own index arraycopyName ∈ mh_TB) (hnat : Cond.native arraycopyName ∈ mh_TB) (hstat : Cond.static arraycopyName ∈ mh_TB) (hini : Cond.initialized "java/lang/System" ∈ mh_TB) (hca : Cond.castable "MeldHost$Intention" "java/lang/Object" ∈ mh_NW) (hX : mh_P (dC, dI) b w H) (hS : va_S (mh_A b) s.heap H locs)
    {k0 i0 a0 n0 n1 : Nat} {f g : Nat → Option Nat} (h0 : w k0 i0 = some (a0, .inl (dA 3, n0, .inr (.inr (.inr (.inr f)))))) (h1 : w k i = some (a, .inl (dA 3, n1, .inr (.inr (.inr (.inr g)))))) (hel : mh_el w n0 f) {n : Nat} (hn0 : n ≤ n0) (hn1 : n ≤ n1) (hn : n < 2 ^ 31) (hframes : 1 ≤ R.frames) (hlocals : (rest.map fun v => v.category).sum + (nativeFrameWords "java/lang/System" "arraycopy" 5 + 11) ≤ R.locals) (hdg : decode cc pc = .ok (.invokestatic index, 3))
    (kk : ∀ (H1 : Heap) (locs1 : List Loc), mh_P (dC, dI) b (mh_set w k i (some (a, .inl (dA 3, n1, .inr (.inr (.inr (.inr (va_cpy f g 0 0 n)))))))) H1 → va_S (mh_A b) s.heap H1 locs1 → W p l e R s m args below meth c H1 locs1 cells slots Q (F0 m (pc + 3) ls rest)) : W p l e R s m args below meth c H locs cells slots Q (F0 m pc ls (.int (nI n) :: .int (nI 0) :: .ref a :: .int (nI 0) :: .ref a0 :: rest)) := by
  obtain ⟨hx, hb, hown, hts, hN, hK⟩ := K0
  intro T hT X
  have c0 : H[a0]? = some (vp_cell (dA 3) (n0, .inr (.inr (.inr (.inr f))))) := hX.at h0
  have c1 : H[a]? = some (vp_cell (dA 3) (n1, .inr (.inr (.inr (.inr g))))) := hX.at h1
  have z0 : (nI 0).toNatClampNeg = 0 := nI_clamp (by decide)
  have zn : (nI n).toNatClampNeg = n := nI_clamp hn
  have t0 : (nI 0).toInt = 0 := nI_toInt (n := 0) (by decide)
  have tn : (nI n).toInt = n := nI_toInt hn
  have hcls := (hK.1 2 _ rfl).2
  obtain ⟨kA, comp, r1, r2, r3, -⟩ := (hK.2 3 _ rfl).2
  obtain ⟨cI, tO, f1, f2, f3⟩ := Cond.castable_spec (va_Nw.use (A := args) rfl (hN _ hca))
  cases hcls.1.symm.trans f1
  cases r3.symm.trans f2
  obtain ⟨kE, hkE, -⟩ := Vm.findClass_spec r3
  obtain ⟨kC, hkC, -⟩ := hcls.2
  obtain ⟨-, q0, e0, cm0, g0⟩ := (hK.2 3 _ rfl).1 n0 (fun j => va_rf (f j))
  obtain ⟨-, q1, e1, cm1, g1⟩ := (hK.2 3 _ rfl).1 n1 (fun j => va_rf (g j))
  obtain ⟨vm', X', step⟩ := X.arraycopy hx hown (hts _ hlink) (hts _ hnat) (hts _ hstat) (hts _ hini) (src := a0) (dst := a) (cs := vp_cell (dA 3) (n0, .inr (.inr (.inr (.inr f))))) (cd := vp_cell (dA 3) (n1, .inr (.inr (.inr (.inr g))))) (srcPos := nI 0) (destPos := nI 0) (n := nI n) (by rw [hT]; exact c0) (by rw [hT]; exact c1)
    (fun _ h => by cases h) (fun _ h => by cases h) (fun h => by cases h) (fun h => by cases h) e0 e1 g0 g1 rfl (nI_pos (by decide)) (nI_pos (by decide)) (nI_pos hn)
    (by rw [t0, tn]; show ¬ _ > ((arrV (dA 3) n0 (fun j => va_rf (f j))).slots.size : Int); rw [arrV_size]; omega)
    (by rw [t0, tn]; show ¬ _ > ((arrV (dA 3) n1 (fun j => va_rf (g j))).slots.size : Int); rw [arrV_size]; omega)
    (fun vm₁ hal i hi => by
      rw [zn] at hi
      have e : (vp_cell (dA 3) (n0, .inr (.inr (.inr (.inr f))))).slots.getD ((nI 0).toNatClampNeg + i) .null = va_rf (f i) := by
        rw [z0, Nat.zero_add]
        show (arrV (dA 3) n0 (fun j => va_rf (f j))).slots.getD _ _ = _
        rw [Array.getD_eq_getD_getElem?, arrV_read _ _ (by omega)]
        rfl
      rw [e]
      cases hy : f i with
      | none => exact ⟨rfl, trivial⟩
      | some y =>
        obtain ⟨ke, ie, fse, -, hwe⟩ := hel i y (by omega) hy
        obtain ⟨r', hr', cellV, v1, v2, v3, -⟩ := hX.at hwe
        cases e1.symm.trans r1
        cases g1.symm.trans r2
        obtain ⟨kC', hkC', -⟩ := hal.2.2 _ _ hkC
        obtain ⟨kE', hkE', -⟩ := hal.2.2 _ _ hkE
        refine ⟨rfl, cellV, (show T.heap[y]? = some cellV by rw [hT]; exact v1), (fun q h => by rw [h] at v3; cases v3), ⟨kC', by rw [v2]; exact hkC'⟩, ⟨kE', hkE'⟩, ?_⟩
        show vm₁.assignable _ _ = true
        rw [hal.assignable, v2]
        exact f3)
    (g := F0 m pc ls (.int (nI n) :: .int (nI 0) :: .ref a :: .int (nI 0) :: .ref a0 :: rest)) rfl (by show ls.size = _; rw [hsz, hml]) (rest := rest) rfl (by rw [hb]; exact hdg) hframes (by show 2 * 0 + _ + _ ≤ _; omega)
  have ec : copied (vp_cell (dA 3) (n0, .inr (.inr (.inr (.inr f))))) (vp_cell (dA 3) (n1, .inr (.inr (.inr (.inr g))))) (nI 0) (nI 0) (nI n) = vp_cell (dA 3) (n1, .inr (.inr (.inr (.inr (va_cpy f g 0 0 n))))) := by
    have := va_copied (fun z => va_rf z) (dA 3) (dA 3) (n0 := n0) (n1 := n1) (sp := (nI 0).toNatClampNeg) (dp := (nI 0).toNatClampNeg) (n := (nI n).toNatClampNeg) f g (by rw [z0, zn]; omega)
    have e9 : va_cpy f g (nI 0).toNatClampNeg (nI 0).toNatClampNeg (nI n).toNatClampNeg = va_cpy f g 0 0 n := by rw [z0, zn]
    rw [← e9, vp_cell_q, vp_cell_q, vp_cell_q]
    exact this
  rw [ec] at X' step
  have hl : a < H.size := (Array.getElem?_eq_some_iff.mp c1).1
  have hheap : ((T.setVm vm').setCell a (vp_cell (dA 3) (n1, .inr (.inr (.inr (.inr (va_cpy f g 0 0 n))))))).heap = H.setIfInBounds a (vp_cell (dA 3) (n1, .inr (.inr (.inr (.inr (va_cpy f g 0 0 n)))))) := by rw [← hT]; rfl
  have oq : ∀ q : Nat, q ≠ a → (H.setIfInBounds a (vp_cell (dA 3) (n1, .inr (.inr (.inr (.inr (va_cpy f g 0 0 n)))))))[q]? = H[q]? := fun q hq => by simp [Array.getElem?_setIfInBounds, Ne.symm hq]
  obtain ⟨t, a1, b1⟩ := kk _ _ (hX.put h1 (show (H.setIfInBounds a _)[a]? = some _ by simp [Array.getElem?_setIfInBounds, hl]) oq) ⟨by simp; exact hS.1, fun q g1 g2 => by
      rw [oq q (fun e => g2 (by rw [e]; exact hX.le h1))]
      exact hS.2.1 q g1 g2, fun q hq => by
      rcases List.mem_append.mp hq with h | h
      · exact hS.2.2 q h
      · obtain ⟨z, -, hz⟩ := List.mem_map.mp h
        rw [← hz]
        exact hX.le h1⟩ _ hheap X'
  exact ⟨t, step t a1, b1⟩
/-- an intention goes into an array of objects -/
theorem mh_aastO (hca : Cond.castable "MeldHost$Intention" "java/lang/Object" ∈ mh_NW) {k2 i2 v : Nat} {vs : List Value} (K0 : mh_K0 p s m args c own cc dC dI dA) (hX : mh_P (dC, dI) b w H) (hS : va_S (mh_A b) s.heap H locs) {n : Nat} {f : Nat → Option Nat} (h : w k i = some (a, .inl (dA 3, n, .inr (.inr (.inr (.inr f)))))) (hv : w k2 i2 = some (v, .inr (2, vs))) {j : Nat} (hj : j < n) (hn : n < 2 ^ 31) (hdg : decode cc pc = .ok (.aastore, 1))
    (kk : ∀ (H1 : Heap) (locs1 : List Loc), mh_P (dC, dI) b (mh_set w k i (some (a, .inl (dA 3, n, .inr (.inr (.inr (.inr (va_up f j (some v))))))))) H1 → va_S (mh_A b) s.heap H1 locs1 → W p l e R s m args below meth c H1 locs1 cells slots Q (F0 m (pc + 1) ls rest)) : W p l e R s m args below meth c H locs cells slots Q (F0 m pc ls (.ref v :: .int (nI j) :: .ref a :: rest)) := by
  have hcl : (nI j).toNatClampNeg = j := nI_clamp (by omega)
  obtain ⟨r', hr', cellV, g1, g2, g3, -⟩ := hX.at hv
  have hcls := (K0.2.2.2.2.2.1 2 _ rfl).2
  obtain ⟨kA, comp, k1, k2, k3, -⟩ := (K0.2.2.2.2.2.2 3 _ rfl).2
  obtain ⟨kE, hkE, -⟩ := Vm.findClass_spec k3
  obtain ⟨c0, t1, f1, f2, f3⟩ := Cond.castable_spec (va_Nw.use (A := args) rfl (K0.2.2.2.2.1 _ hca))
  cases hcls.1.symm.trans f1
  cases k3.symm.trans f2
  obtain ⟨kC, hkC, -⟩ := hcls.2
  refine W.aast K0.1 K0.2.1 (hX.at h) (fun q h => by cases h) (fun h => by cases h) k1 k2 rfl hkE ⟨nI_pos (by omega), by show _ < (arrV _ _ _).slots.size; rw [arrV_size, hcl]; exact hj⟩ g1 (fun q h => by rw [g3] at h; cases h) (by rw [g2]; exact hkC) (by rw [g2]; exact f3) rfl rfl hdg fun H1 e z oq => ?_
  refine kk H1 _ (hX.put h ?_ oq) (hS.put z oq (hX.le h))
  show H1[a]? = some (vp_cell _ _)
  rw [e]
  rw [vp_cell_q, vp_cell_q, arrV_store, hcl]
  congr 2
  funext q
  by_cases hq : q = j
  · subst hq
    simp [updV, va_up, va_rf]
  · simp [updV, va_up, hq]
/-- checkcast to the object's own class -/
theorem mh_cast (K0 : mh_K0 p s m args c own cc dC dI dA) (hX : mh_P (dC, dI) b w H) {ci : Nat} {fs : List Value} (h : w k i = some (a, .inr (ci, fs))) {vc : vw_C} (hc : classes[ci]? = some vc) {index : Nat} (hlink : Cond.classLink own index vc.1 ∈ mh_TB) (hdg : decode cc pc = .ok (.checkcast index, 3))
    (kk : W p l e R s m args below meth c H locs cells slots Q (F0 m (pc + 3) ls (.ref a :: rest))) : W p l e R s m args below meth c H locs cells slots Q (F0 m pc ls (.ref a :: rest)) :=
  va_castE K0.1 K0.2.1 K0.2.2.1 (K0.2.2.2.1 _ hlink) (va_recv (K0.2.2.2.2.2) (hX.get h) hc (q0 := 0) rfl) hdg kk
/-- the class of an array of objects is a class, as its instructions find it -/
theorem mh_arrO (K0 : mh_K0 p s m args c own cc dC dI dA) (hX : mh_P (dC, dI) b w H) {n : Nat} {f : Nat → Option Nat} (h : w k i = some (a, .inl (dA 3, n, .inr (.inr (.inr (.inr f)))))) : ∃ cell : Cell, H[a]? = some cell ∧ cell.vm.isStatics = false ∧ s.vm.findClass "[Ljava/lang/Object;" = some cell.cls := by
  have c0 : H[a]? = some (vp_cell (dA 3) (n, .inr (.inr (.inr (.inr f))))) := hX.at h
  obtain ⟨kA, comp, r1, r2, r3, r4⟩ := (K0.2.2.2.2.2.2 3 _ rfl).2
  exact ⟨_, c0, rfl, r4⟩
/-- a call that returns an object -/
theorem mh_callE {y : MethodName} {rm : Room} {av st0 : List Value} {Φ : Nat → mh_w → Prop} (site : mh_Site p l e R s m args below meth c H locs cells slots (F0 m pc ls st0) rest y av) (hM : mh_Met l b dC dI dA zs y rm av w (mh_E Φ)) (K0 : mh_K0 p s m args c own cc dC dI dA) (hOK : mh_OK b dC dI dA zs w0 s)
    {nL : Nat} (hml : c.maxLocals = nL) (hsz : ls.size = nL) {cY : ByteArray} {nY : Nat} {rY : Option FieldType} {hsY : List (Nat × Nat × Nat × Nat)} {n : Nat} (C0 : mh_cee y cY nY rY hsY n) (hX : mh_P (dC, dI) b w H) (hS : va_S (mh_A b) s.heap H locs) {ig : Instr} (hdg : decode cc pc = .ok (ig, 3))
    (hfr : rm.frames + 1 ≤ R.frames) (hW9 : (rest.map fun v => v.category).sum ≤ 8) (hlo : 8 + (nY + 11) + rm.locals ≤ R.locals) (h4 : cells + rm.cells ≤ R.cells) (h5 : slots + rm.slots ≤ R.slots)
    (kk : ∀ (q : Nat) (w' : mh_w) (H1 : Heap) (locs1 : List Loc), Φ q w' → mh_P (dC, dI) b w' H1 → va_S (mh_A b) s.heap H1 locs1 → W p l e R s m args below meth c H1 locs1 (cells + rm.cells) (slots + rm.slots) Q (F0 m (pc + 3) ls (.ref q :: rest))) :
    W p l e R s m args below meth c H locs cells slots Q (F0 m pc ls st0) := by
  refine mh_call site hM K0 hOK hml hsz C0 hX hS hdg hfr hW9 hlo h4 h5 (fun q w' H1 locs1 hP => ?_) (fun v' w' H1 locs1 hP hX' hS' => ?_)
  · obtain ⟨q', e1, -⟩ := hP
    cases e1
  · obtain ⟨q', e1, e2⟩ := hP
    cases e1
    exact kk q' w' H1 locs1 e2 hX' hS'
end MHL
/-! THE LOG AS A LIST: ArrayList at (1, 0), its array somewhere in kind 2 -/
def rA (dA : Nat → ClassId) (zs : Nat → Nat) (w : mh_w) (ar n : Nat) (f : Nat → Option Nat) : Prop :=
  (n = 0 ∧ ar = zs 0) ∨ ∃ (ix cap : Nat) (g : Nat → Option Nat), n ≤ cap ∧ 0 < cap ∧ cap ≤ 600 ∧ w 2 ix = some (ar, .inl (dA 3, cap, .inr (.inr (.inr (.inr g))))) ∧ ∀ j, j < n → g j = f j
def rL (dA : Nat → ClassId) (zs : Nat → Nat) (w : mh_w) (a n : Nat) (f : Nat → Option Nat) : Prop :=
  ∃ (mc : Int32) (ar : Nat), w 1 0 = some (a, .inr (5, [.int mc, .ref ar, .int (nI n)])) ∧ rA dA zs w ar n f
theorem rL.to {dA : Nat → ClassId} {zs : Nat → Nat} {w w' : mh_w} {a n : Nat} {f f' : Nat → Option Nat} (h : rL dA zs w a n f) (h1 : w' 1 0 = w 1 0) (h2 : ∀ i, w' 2 i = w 2 i) (h3 : ∀ j, j < n → f j = f' j) : rL dA zs w' a n f' := by
  obtain ⟨mc, ar, e1, e2⟩ := h
  refine ⟨mc, ar, h1.trans e1, ?_⟩
  rcases e2 with e | ⟨ix, cap, g, g1, g2, g3, g4, g5⟩
  · exact Or.inl e
  · exact Or.inr ⟨ix, cap, g, g1, g2, g3, (h2 ix).trans g4, fun j hj => (g5 j hj).trans (h3 j hj)⟩
theorem nI_shr1 {n : Nat} (h : n < 2 ^ 31) : nI n >>> nI 1 = nI (n / 2) := pk_shrN h (nI 1) 1 (by decide)
theorem f_AB_7 : mh_fl "java/util/AbstractList" 7 5 0 := ⟨_, _, _, "java/util/AbstractList", rfl, by decide, i_AL, Or.inl k49, Or.inl rfl⟩
theorem d_AC_init_0 : decode b_AC_init 0 = .ok (.aload_n 0, 1) := by decide +kernel
theorem d_AC_init_1 : decode b_AC_init 1 = .ok (.invokespecial 1, 3) := by decide +kernel
theorem d_AC_init_4 : decode b_AC_init 4 = .ok (.return_, 1) := by decide +kernel
theorem d_AB_init_0 : decode b_AB_init 0 = .ok (.aload_n 0, 1) := by decide +kernel
theorem d_AB_init_1 : decode b_AB_init 1 = .ok (.invokespecial 1, 3) := by decide +kernel
theorem d_AB_init_4 : decode b_AB_init 4 = .ok (.aload_n 0, 1) := by decide +kernel
theorem d_AB_init_5 : decode b_AB_init 5 = .ok (.iconst 0, 1) := by decide +kernel
theorem d_AB_init_6 : decode b_AB_init 6 = .ok (.putfield 7, 3) := by decide +kernel
theorem d_AB_init_9 : decode b_AB_init 9 = .ok (.return_, 1) := by decide +kernel
theorem d_AL_init_0 : decode b_AL_init 0 = .ok (.aload_n 0, 1) := by decide +kernel
theorem d_AL_init_1 : decode b_AL_init 1 = .ok (.invokespecial 1, 3) := by decide +kernel
theorem d_AL_init_4 : decode b_AL_init 4 = .ok (.aload_n 0, 1) := by decide +kernel
theorem d_AL_init_5 : decode b_AL_init 5 = .ok (.getstatic 39, 3) := by decide +kernel
theorem d_AL_init_8 : decode b_AL_init 8 = .ok (.putfield 9, 3) := by decide +kernel
theorem d_AL_init_11 : decode b_AL_init 11 = .ok (.return_, 1) := by decide +kernel
theorem d_AL_size_0 : decode b_AL_size 0 = .ok (.aload_n 0, 1) := by decide +kernel
theorem d_AL_size_1 : decode b_AL_size 1 = .ok (.getfield 48, 3) := by decide +kernel
theorem d_AL_size_4 : decode b_AL_size 4 = .ok (.ireturn, 1) := by decide +kernel
theorem d_PR_checkIndex_0 : decode b_PR_checkIndex 0 = .ok (.iload_n 0, 1) := by decide +kernel
theorem d_PR_checkIndex_1 : decode b_PR_checkIndex 1 = .ok (.ifCond .lt 8, 3) := by decide +kernel
theorem d_PR_checkIndex_4 : decode b_PR_checkIndex 4 = .ok (.iload_n 0, 1) := by decide +kernel
theorem d_PR_checkIndex_5 : decode b_PR_checkIndex 5 = .ok (.iload_n 1, 1) := by decide +kernel
theorem d_PR_checkIndex_6 : decode b_PR_checkIndex 6 = .ok (.if_icmp .lt 10, 3) := by decide +kernel
theorem d_PR_checkIndex_16 : decode b_PR_checkIndex 16 = .ok (.iload_n 0, 1) := by decide +kernel
theorem d_PR_checkIndex_17 : decode b_PR_checkIndex 17 = .ok (.ireturn, 1) := by decide +kernel
theorem d_OB_checkIndex_0 : decode b_OB_checkIndex 0 = .ok (.iload_n 0, 1) := by decide +kernel
theorem d_OB_checkIndex_1 : decode b_OB_checkIndex 1 = .ok (.iload_n 1, 1) := by decide +kernel
theorem d_OB_checkIndex_2 : decode b_OB_checkIndex 2 = .ok (.aconst_null, 1) := by decide +kernel
theorem d_OB_checkIndex_3 : decode b_OB_checkIndex 3 = .ok (.invokestatic 105, 3) := by decide +kernel
theorem d_OB_checkIndex_6 : decode b_OB_checkIndex 6 = .ok (.ireturn, 1) := by decide +kernel
theorem d_AL_elementData_0 : decode b_AL_elementData 0 = .ok (.aload_n 0, 1) := by decide +kernel
theorem d_AL_elementData_1 : decode b_AL_elementData 1 = .ok (.getfield 9, 3) := by decide +kernel
theorem d_AL_elementData_4 : decode b_AL_elementData 4 = .ok (.iload_n 1, 1) := by decide +kernel
theorem d_AL_elementData_5 : decode b_AL_elementData 5 = .ok (.aaload, 1) := by decide +kernel
theorem d_AL_elementData_6 : decode b_AL_elementData 6 = .ok (.areturn, 1) := by decide +kernel
theorem d_AL_get_0 : decode b_AL_get 0 = .ok (.iload_n 1, 1) := by decide +kernel
theorem d_AL_get_1 : decode b_AL_get 1 = .ok (.aload_n 0, 1) := by decide +kernel
theorem d_AL_get_2 : decode b_AL_get 2 = .ok (.getfield 48, 3) := by decide +kernel
theorem d_AL_get_5 : decode b_AL_get 5 = .ok (.invokestatic 118, 3) := by decide +kernel
theorem d_AL_get_8 : decode b_AL_get 8 = .ok (.pop, 1) := by decide +kernel
theorem d_AL_get_9 : decode b_AL_get 9 = .ok (.aload_n 0, 1) := by decide +kernel
theorem d_AL_get_10 : decode b_AL_get 10 = .ok (.iload_n 1, 1) := by decide +kernel
theorem d_AL_get_11 : decode b_AL_get 11 = .ok (.invokevirtual 123, 3) := by decide +kernel
theorem d_AL_get_14 : decode b_AL_get 14 = .ok (.areturn, 1) := by decide +kernel
theorem d_AS_newLength_0 : decode b_AS_newLength 0 = .ok (.iload_n 0, 1) := by decide +kernel
theorem d_AS_newLength_1 : decode b_AS_newLength 1 = .ok (.iload_n 1, 1) := by decide +kernel
theorem d_AS_newLength_2 : decode b_AS_newLength 2 = .ok (.iload_n 2, 1) := by decide +kernel
theorem d_AS_newLength_3 : decode b_AS_newLength 3 = .ok (.invokestatic 194, 3) := by decide +kernel
theorem d_AS_newLength_6 : decode b_AS_newLength 6 = .ok (.iadd, 1) := by decide +kernel
theorem d_AS_newLength_7 : decode b_AS_newLength 7 = .ok (.istore_n 3, 1) := by decide +kernel
theorem d_AS_newLength_8 : decode b_AS_newLength 8 = .ok (.iconst 0, 1) := by decide +kernel
theorem d_AS_newLength_9 : decode b_AS_newLength 9 = .ok (.iload_n 3, 1) := by decide +kernel
theorem d_AS_newLength_10 : decode b_AS_newLength 10 = .ok (.if_icmp .ge 11, 3) := by decide +kernel
theorem d_AS_newLength_13 : decode b_AS_newLength 13 = .ok (.iload_n 3, 1) := by decide +kernel
theorem d_AS_newLength_14 : decode b_AS_newLength 14 = .ok (.ldc 200, 2) := by decide +kernel
theorem d_AS_newLength_16 : decode b_AS_newLength 16 = .ok (.if_icmp .gt 5, 3) := by decide +kernel
theorem d_AS_newLength_19 : decode b_AS_newLength 19 = .ok (.iload_n 3, 1) := by decide +kernel
theorem d_AS_newLength_20 : decode b_AS_newLength 20 = .ok (.ireturn, 1) := by decide +kernel
theorem d_AR_copyOf3_0 : decode b_AR_copyOf3 0 = .ok (.aload_n 2, 1) := by decide +kernel
theorem d_AR_copyOf3_1 : decode b_AR_copyOf3 1 = .ok (.ldc 110, 2) := by decide +kernel
theorem d_AR_copyOf3_3 : decode b_AR_copyOf3 3 = .ok (.if_acmp .ne 10, 3) := by decide +kernel
theorem d_AR_copyOf3_6 : decode b_AR_copyOf3 6 = .ok (.iload_n 1, 1) := by decide +kernel
theorem d_AR_copyOf3_7 : decode b_AR_copyOf3 7 = .ok (.anewarray 2, 3) := by decide +kernel
theorem d_AR_copyOf3_10 : decode b_AR_copyOf3 10 = .ok (.goto 14, 3) := by decide +kernel
theorem d_AR_copyOf3_24 : decode b_AR_copyOf3 24 = .ok (.astore_n 3, 1) := by decide +kernel
theorem d_AR_copyOf3_25 : decode b_AR_copyOf3 25 = .ok (.aload_n 0, 1) := by decide +kernel
theorem d_AR_copyOf3_26 : decode b_AR_copyOf3 26 = .ok (.iconst 0, 1) := by decide +kernel
theorem d_AR_copyOf3_27 : decode b_AR_copyOf3 27 = .ok (.aload_n 3, 1) := by decide +kernel
theorem d_AR_copyOf3_28 : decode b_AR_copyOf3 28 = .ok (.iconst 0, 1) := by decide +kernel
theorem d_AR_copyOf3_29 : decode b_AR_copyOf3 29 = .ok (.aload_n 0, 1) := by decide +kernel
theorem d_AR_copyOf3_30 : decode b_AR_copyOf3 30 = .ok (.arraylength, 1) := by decide +kernel
theorem d_AR_copyOf3_31 : decode b_AR_copyOf3 31 = .ok (.iload_n 1, 1) := by decide +kernel
theorem d_AR_copyOf3_32 : decode b_AR_copyOf3 32 = .ok (.invokestatic 304, 3) := by decide +kernel
theorem d_AR_copyOf3_35 : decode b_AR_copyOf3 35 = .ok (.invokestatic 150, 3) := by decide +kernel
theorem d_AR_copyOf3_38 : decode b_AR_copyOf3 38 = .ok (.aload_n 3, 1) := by decide +kernel
theorem d_AR_copyOf3_39 : decode b_AR_copyOf3 39 = .ok (.areturn, 1) := by decide +kernel
theorem d_AR_copyOf2_0 : decode b_AR_copyOf2 0 = .ok (.aload_n 0, 1) := by decide +kernel
theorem d_AR_copyOf2_1 : decode b_AR_copyOf2 1 = .ok (.iload_n 1, 1) := by decide +kernel
theorem d_AR_copyOf2_2 : decode b_AR_copyOf2 2 = .ok (.aload_n 0, 1) := by decide +kernel
theorem d_AR_copyOf2_3 : decode b_AR_copyOf2 3 = .ok (.invokevirtual 86, 3) := by decide +kernel
theorem d_AR_copyOf2_6 : decode b_AR_copyOf2 6 = .ok (.invokestatic 300, 3) := by decide +kernel
theorem d_AR_copyOf2_9 : decode b_AR_copyOf2 9 = .ok (.areturn, 1) := by decide +kernel
theorem d_AL_grow1_0 : decode b_AL_grow1 0 = .ok (.aload_n 0, 1) := by decide +kernel
theorem d_AL_grow1_1 : decode b_AL_grow1 1 = .ok (.getfield 9, 3) := by decide +kernel
theorem d_AL_grow1_4 : decode b_AL_grow1 4 = .ok (.arraylength, 1) := by decide +kernel
theorem d_AL_grow1_5 : decode b_AL_grow1 5 = .ok (.istore_n 2, 1) := by decide +kernel
theorem d_AL_grow1_6 : decode b_AL_grow1 6 = .ok (.iload_n 2, 1) := by decide +kernel
theorem d_AL_grow1_7 : decode b_AL_grow1 7 = .ok (.ifCond .gt 13, 3) := by decide +kernel
theorem d_AL_grow1_10 : decode b_AL_grow1 10 = .ok (.aload_n 0, 1) := by decide +kernel
theorem d_AL_grow1_11 : decode b_AL_grow1 11 = .ok (.getfield 9, 3) := by decide +kernel
theorem d_AL_grow1_14 : decode b_AL_grow1 14 = .ok (.getstatic 39, 3) := by decide +kernel
theorem d_AL_grow1_17 : decode b_AL_grow1 17 = .ok (.if_acmp .eq 28, 3) := by decide +kernel
theorem d_AL_grow1_45 : decode b_AL_grow1 45 = .ok (.aload_n 0, 1) := by decide +kernel
theorem d_AL_grow1_46 : decode b_AL_grow1 46 = .ok (.bipush 10, 2) := by decide +kernel
theorem d_AL_grow1_48 : decode b_AL_grow1 48 = .ok (.iload_n 1, 1) := by decide +kernel
theorem d_AL_grow1_49 : decode b_AL_grow1 49 = .ok (.invokestatic 79, 3) := by decide +kernel
theorem d_AL_grow1_52 : decode b_AL_grow1 52 = .ok (.anewarray 7, 3) := by decide +kernel
theorem d_AL_grow1_55 : decode b_AL_grow1 55 = .ok (.dup_x1, 1) := by decide +kernel
theorem d_AL_grow1_56 : decode b_AL_grow1 56 = .ok (.putfield 9, 3) := by decide +kernel
theorem d_AL_grow1_59 : decode b_AL_grow1 59 = .ok (.areturn, 1) := by decide +kernel
theorem d_AL_grow1_20 : decode b_AL_grow1 20 = .ok (.iload_n 2, 1) := by decide +kernel
theorem d_AL_grow1_21 : decode b_AL_grow1 21 = .ok (.iload_n 1, 1) := by decide +kernel
theorem d_AL_grow1_22 : decode b_AL_grow1 22 = .ok (.iload_n 2, 1) := by decide +kernel
theorem d_AL_grow1_23 : decode b_AL_grow1 23 = .ok (.isub, 1) := by decide +kernel
theorem d_AL_grow1_24 : decode b_AL_grow1 24 = .ok (.iload_n 2, 1) := by decide +kernel
theorem d_AL_grow1_25 : decode b_AL_grow1 25 = .ok (.iconst 1, 1) := by decide +kernel
theorem d_AL_grow1_26 : decode b_AL_grow1 26 = .ok (.ishr, 1) := by decide +kernel
theorem d_AL_grow1_27 : decode b_AL_grow1 27 = .ok (.invokestatic 73, 3) := by decide +kernel
theorem d_AL_grow1_30 : decode b_AL_grow1 30 = .ok (.istore_n 3, 1) := by decide +kernel
theorem d_AL_grow1_31 : decode b_AL_grow1 31 = .ok (.aload_n 0, 1) := by decide +kernel
theorem d_AL_grow1_32 : decode b_AL_grow1 32 = .ok (.aload_n 0, 1) := by decide +kernel
theorem d_AL_grow1_33 : decode b_AL_grow1 33 = .ok (.getfield 9, 3) := by decide +kernel
theorem d_AL_grow1_36 : decode b_AL_grow1 36 = .ok (.iload_n 3, 1) := by decide +kernel
theorem d_AL_grow1_37 : decode b_AL_grow1 37 = .ok (.invokestatic 66, 3) := by decide +kernel
theorem d_AL_grow1_40 : decode b_AL_grow1 40 = .ok (.dup_x1, 1) := by decide +kernel
theorem d_AL_grow1_41 : decode b_AL_grow1 41 = .ok (.putfield 9, 3) := by decide +kernel
theorem d_AL_grow1_44 : decode b_AL_grow1 44 = .ok (.areturn, 1) := by decide +kernel
theorem d_AL_grow0_0 : decode b_AL_grow0 0 = .ok (.aload_n 0, 1) := by decide +kernel
theorem d_AL_grow0_1 : decode b_AL_grow0 1 = .ok (.aload_n 0, 1) := by decide +kernel
theorem d_AL_grow0_2 : decode b_AL_grow0 2 = .ok (.getfield 48, 3) := by decide +kernel
theorem d_AL_grow0_5 : decode b_AL_grow0 5 = .ok (.iconst 1, 1) := by decide +kernel
theorem d_AL_grow0_6 : decode b_AL_grow0 6 = .ok (.iadd, 1) := by decide +kernel
theorem d_AL_grow0_7 : decode b_AL_grow0 7 = .ok (.invokevirtual 69, 3) := by decide +kernel
theorem d_AL_grow0_10 : decode b_AL_grow0 10 = .ok (.areturn, 1) := by decide +kernel
theorem d_AL_add3_0 : decode b_AL_add3 0 = .ok (.iload_n 3, 1) := by decide +kernel
theorem d_AL_add3_1 : decode b_AL_add3 1 = .ok (.aload_n 2, 1) := by decide +kernel
theorem d_AL_add3_2 : decode b_AL_add3 2 = .ok (.arraylength, 1) := by decide +kernel
theorem d_AL_add3_3 : decode b_AL_add3 3 = .ok (.if_icmp .ne 8, 3) := by decide +kernel
theorem d_AL_add3_6 : decode b_AL_add3 6 = .ok (.aload_n 0, 1) := by decide +kernel
theorem d_AL_add3_7 : decode b_AL_add3 7 = .ok (.invokevirtual 129, 3) := by decide +kernel
theorem d_AL_add3_10 : decode b_AL_add3 10 = .ok (.astore_n 2, 1) := by decide +kernel
theorem d_AL_add3_11 : decode b_AL_add3 11 = .ok (.aload_n 2, 1) := by decide +kernel
theorem d_AL_add3_12 : decode b_AL_add3 12 = .ok (.iload_n 3, 1) := by decide +kernel
theorem d_AL_add3_13 : decode b_AL_add3 13 = .ok (.aload_n 1, 1) := by decide +kernel
theorem d_AL_add3_14 : decode b_AL_add3 14 = .ok (.aastore, 1) := by decide +kernel
theorem d_AL_add3_15 : decode b_AL_add3 15 = .ok (.aload_n 0, 1) := by decide +kernel
theorem d_AL_add3_16 : decode b_AL_add3 16 = .ok (.iload_n 3, 1) := by decide +kernel
theorem d_AL_add3_17 : decode b_AL_add3 17 = .ok (.iconst 1, 1) := by decide +kernel
theorem d_AL_add3_18 : decode b_AL_add3 18 = .ok (.iadd, 1) := by decide +kernel
theorem d_AL_add3_19 : decode b_AL_add3 19 = .ok (.putfield 48, 3) := by decide +kernel
theorem d_AL_add3_22 : decode b_AL_add3 22 = .ok (.return_, 1) := by decide +kernel
theorem d_AL_add1_0 : decode b_AL_add1 0 = .ok (.aload_n 0, 1) := by decide +kernel
theorem d_AL_add1_1 : decode b_AL_add1 1 = .ok (.dup, 1) := by decide +kernel
theorem d_AL_add1_2 : decode b_AL_add1 2 = .ok (.getfield 63, 3) := by decide +kernel
theorem d_AL_add1_5 : decode b_AL_add1 5 = .ok (.iconst 1, 1) := by decide +kernel
theorem d_AL_add1_6 : decode b_AL_add1 6 = .ok (.iadd, 1) := by decide +kernel
theorem d_AL_add1_7 : decode b_AL_add1 7 = .ok (.putfield 63, 3) := by decide +kernel
theorem d_AL_add1_10 : decode b_AL_add1 10 = .ok (.aload_n 0, 1) := by decide +kernel
theorem d_AL_add1_11 : decode b_AL_add1 11 = .ok (.aload_n 1, 1) := by decide +kernel
theorem d_AL_add1_12 : decode b_AL_add1 12 = .ok (.aload_n 0, 1) := by decide +kernel
theorem d_AL_add1_13 : decode b_AL_add1 13 = .ok (.getfield 9, 3) := by decide +kernel
theorem d_AL_add1_16 : decode b_AL_add1 16 = .ok (.aload_n 0, 1) := by decide +kernel
theorem d_AL_add1_17 : decode b_AL_add1 17 = .ok (.getfield 48, 3) := by decide +kernel
theorem d_AL_add1_20 : decode b_AL_add1 20 = .ok (.invokevirtual 131, 3) := by decide +kernel
theorem d_AL_add1_23 : decode b_AL_add1 23 = .ok (.iconst 1, 1) := by decide +kernel
theorem d_AL_add1_24 : decode b_AL_add1 24 = .ok (.ireturn, 1) := by decide +kernel
set_option maxHeartbeats 4000000 in
set_option maxRecDepth 100000 in
theorem c_AC_init {l : Launch} {b : Nat} {dC : Nat → ClassId} {dI : Nat → Nat → Nat} {dA : Nat → ClassId} {zs : Nat → Nat} {w : mh_w} {a : Nat} : mh_Met l b dC dI dA zs y_AC_init (mh_rm 1 0 0) [.ref a] w (mh_V none (fun w' => w' = w)) := by
  refine mh_ofW (cc := b_AC_init) (n := 1) (ret := none) (hs := []) (by decide) k43 ?_
  intro p e s m below meth c hx hb hr hml hown hts hlocks hnm hT hOK hadm
  have K0 : mh_K0 p s m ([.ref a]).toArray c "java/util/AbstractCollection" b_AC_init dC dI dA := ⟨hx, hb, hown, hts, hOK.1, hOK.2.1⟩
  have hX := hOK.2.2.2.2
  have hb0 := hOK.2.2.2.1
  have hS : va_S (mh_A b) s.heap s.heap [] := va_S.rf
  have hl := lv_entry ([.ref a]) (n := 1) (Nat.le_of_ble_eq_true rfl)
  rw [lg_entry_eq]
  generalize (lg_sl ([.ref a]) ++ List.replicate (1 - (lg_sl ([.ref a])).length) Slot.unset).toArray = ls at hl ⊢
  have hl : lv_has ls 1 [(0, .ref a)] := hl
  refine lv_aload_n hx hb d_AC_init_0 rfl (lv_at hl 0 rfl) ?_
  refine W.objInit hx hb hown (hts _ k44) (hts _ k31) (hts _ k32) rfl (by rw [hml]; exact hl.1) rfl d_AC_init_1 (Nat.le_of_ble_eq_true rfl) (Nat.le_of_ble_eq_true rfl) ?_
  refine W.eq (g2 := F0 m 4 ls []) rfl ?_
  exact mh_vret K0 hr hlocks hX hS (⟨rfl, rfl⟩) (Nat.le_of_ble_eq_true rfl) (Nat.le_of_ble_eq_true rfl) d_AC_init_4
set_option maxHeartbeats 4000000 in
set_option maxRecDepth 100000 in
theorem c_AB_init {l : Launch} {b : Nat} {dC : Nat → ClassId} {dI : Nat → Nat → Nat} {dA : Nat → ClassId} {zs : Nat → Nat} {w : mh_w} {a : Nat} (h : w 1 0 = some (a, .inr (5, [.int (nI 0), .null, .int (nI 0)]))) : mh_Met l b dC dI dA zs y_AB_init (mh_rm 2 0 0) [.ref a] w (mh_V none (fun w' => w' 1 0 = some (a, .inr (5, [.int (nI 0), .null, .int (nI 0)])) ∧ mh_F w w' 1 1 0)) := by
  refine mh_ofW (cc := b_AB_init) (n := 1) (ret := none) (hs := []) (by decide) k40 ?_
  intro p e s m below meth c hx hb hr hml hown hts hlocks hnm hT hOK hadm
  have K0 : mh_K0 p s m ([.ref a]).toArray c "java/util/AbstractList" b_AB_init dC dI dA := ⟨hx, hb, hown, hts, hOK.1, hOK.2.1⟩
  have hX := hOK.2.2.2.2
  have hb0 := hOK.2.2.2.1
  have hS : va_S (mh_A b) s.heap s.heap [] := va_S.rf
  have hl := lv_entry ([.ref a]) (n := 1) (Nat.le_of_ble_eq_true rfl)
  rw [lg_entry_eq]
  generalize (lg_sl ([.ref a]) ++ List.replicate (1 - (lg_sl ([.ref a])).length) Slot.unset).toArray = ls at hl ⊢
  have hl : lv_has ls 1 [(0, .ref a)] := hl
  refine lv_aload_n hx hb d_AB_init_0 rfl (lv_at hl 0 rfl) ?_
  refine mh_callR (mh_sI (rest := []) (av := []) K0 e_AC_init l_AB_1 k42 rfl rfl rfl d_AB_init_1) (c_AC_init) K0 hOK hml hl.1 e_AC_init hX hS d_AB_init_1 (Nat.le_of_ble_eq_true rfl) (Nat.le_of_ble_eq_true rfl) (Nat.le_of_ble_eq_true rfl) (Nat.le_of_ble_eq_true rfl) (Nat.le_of_ble_eq_true rfl) (fun H locs hX hS => ?_)
  refine W.eq (g2 := F0 m 4 ls []) rfl ?_
  refine lv_aload_n hx hb d_AB_init_4 rfl (lv_at hl 0 rfl) ?_
  refine lv_iconst (v := nI 0) hx hb d_AB_init_5 (by decide) ?_
  refine mh_put K0 hX hS h f_AB_7 p_5_0 rfl rfl (Nat.le_of_ble_eq_true rfl) d_AB_init_6 (fun H locs hX hS => ?_)
  have hX : mh_P (dC, dI) b (mh_set _ 1 0 (some (a, .inr (5, [.int (nI 0), .null, .int (nI 0)])))) H := hX
  have fs46 := mh_self hX
  exact mh_vret K0 hr hlocks hX hS (⟨rfl, fs46, (mh_F.rf.set (by omega) (by omega))⟩) (Nat.le_of_ble_eq_true rfl) (Nat.le_of_ble_eq_true rfl) d_AB_init_9
set_option maxHeartbeats 4000000 in
set_option maxRecDepth 100000 in
theorem c_AL_init {l : Launch} {b : Nat} {dC : Nat → ClassId} {dI : Nat → Nat → Nat} {dA : Nat → ClassId} {zs : Nat → Nat} {w : mh_w} {a : Nat} (h : w 1 0 = some (a, .inr (5, [.int (nI 0), .null, .int (nI 0)]))) : mh_Met l b dC dI dA zs y_AL_init (mh_rm 3 0 0) [.ref a] w (mh_V none (fun w' => rL dA zs w' a 0 (fun _ => none) ∧ mh_F w w' 1 1 0)) := by
  refine mh_ofW (cc := b_AL_init) (n := 1) (ret := none) (hs := []) (by decide) k37 ?_
  intro p e s m below meth c hx hb hr hml hown hts hlocks hnm hT hOK hadm
  have K0 : mh_K0 p s m ([.ref a]).toArray c "java/util/ArrayList" b_AL_init dC dI dA := ⟨hx, hb, hown, hts, hOK.1, hOK.2.1⟩
  have hX := hOK.2.2.2.2
  have hb0 := hOK.2.2.2.1
  have hS : va_S (mh_A b) s.heap s.heap [] := va_S.rf
  have hl := lv_entry ([.ref a]) (n := 1) (Nat.le_of_ble_eq_true rfl)
  rw [lg_entry_eq]
  generalize (lg_sl ([.ref a]) ++ List.replicate (1 - (lg_sl ([.ref a])).length) Slot.unset).toArray = ls at hl ⊢
  have hl : lv_has ls 1 [(0, .ref a)] := hl
  refine lv_aload_n hx hb d_AL_init_0 rfl (lv_at hl 0 rfl) ?_
  refine mh_callV (mh_sI (rest := []) (av := []) K0 e_AB_init l_AL_1 k39 rfl rfl rfl d_AL_init_1) (c_AB_init h) K0 hOK hml hl.1 e_AB_init hX hS d_AL_init_1 (Nat.le_of_ble_eq_true rfl) (Nat.le_of_ble_eq_true rfl) (Nat.le_of_ble_eq_true rfl) (Nat.le_of_ble_eq_true rfl) (Nat.le_of_ble_eq_true rfl) (fun w1 H locs ⟨h1, hF⟩ hX hS => ?_)
  refine W.eq (g2 := F0 m 4 ls []) rfl ?_
  refine lv_aload_n hx hb d_AL_init_4 rfl (lv_at hl 0 rfl) ?_
  refine va_gets hx hb hOK.2.2.1.2.2.2.2.2.2.1 hS hown (hts _ k45) (fun x h => h) d_AL_init_5 ?_
  refine mh_put K0 hX hS h1 f_AL_9 p_5_1 rfl rfl (Nat.le_of_ble_eq_true rfl) d_AL_init_8 (fun H locs hX hS => ?_)
  have hX : mh_P (dC, dI) b (mh_set _ 1 0 (some (a, .inr (5, [.int (nI 0), .ref (zs 0), .int (nI 0)])))) H := hX
  have fs47 := mh_self hX
  exact mh_vret K0 hr hlocks hX hS (⟨rfl, ⟨_, _, fs47, Or.inl ⟨rfl, rfl⟩⟩, ((mh_F.tr (k := 1) (n := 1) (k1 := 1) (n1 := 1) mh_F.rf hF (by omega) (by omega) (by omega) (by omega)).set (by omega) (by omega))⟩) (Nat.le_of_ble_eq_true rfl) (Nat.le_of_ble_eq_true rfl) d_AL_init_11
set_option maxHeartbeats 4000000 in
set_option maxRecDepth 100000 in
theorem c_AL_size {l : Launch} {b : Nat} {dC : Nat → ClassId} {dI : Nat → Nat → Nat} {dA : Nat → ClassId} {zs : Nat → Nat} {w : mh_w} {a n0 ar : Nat} {mc : Int32} (h : w 1 0 = some (a, .inr (5, [.int mc, .ref ar, .int (nI n0)]))) : mh_Met l b dC dI dA zs y_AL_size (mh_rm 0 0 0) [.ref a] w (mh_V (some (.int (nI n0))) (fun w' => w' = w)) := by
  refine mh_ofW (cc := b_AL_size) (n := 1) (ret := (some .int)) (hs := []) (by decide) k450 ?_
  intro p e s m below meth c hx hb hr hml hown hts hlocks hnm hT hOK hadm
  have K0 : mh_K0 p s m ([.ref a]).toArray c "java/util/ArrayList" b_AL_size dC dI dA := ⟨hx, hb, hown, hts, hOK.1, hOK.2.1⟩
  have hX := hOK.2.2.2.2
  have hb0 := hOK.2.2.2.1
  have hS : va_S (mh_A b) s.heap s.heap [] := va_S.rf
  have hl := lv_entry ([.ref a]) (n := 1) (Nat.le_of_ble_eq_true rfl)
  rw [lg_entry_eq]
  generalize (lg_sl ([.ref a]) ++ List.replicate (1 - (lg_sl ([.ref a])).length) Slot.unset).toArray = ls at hl ⊢
  have hl : lv_has ls 1 [(0, .ref a)] := hl
  refine lv_aload_n hx hb d_AL_size_0 rfl (lv_at hl 0 rfl) ?_
  refine mh_get K0 hX h f_AL_48 rfl d_AL_size_1 ?_
  exact mh_iret K0 hr rfl hlocks hX hS (⟨rfl, rfl⟩) (Nat.le_of_ble_eq_true rfl) (Nat.le_of_ble_eq_true rfl) d_AL_size_4
set_option maxHeartbeats 4000000 in
set_option maxRecDepth 100000 in
theorem c_PR_checkIndex {l : Launch} {b : Nat} {dC : Nat → ClassId} {dI : Nat → Nat → Nat} {dA : Nat → ClassId} {zs : Nat → Nat} {w : mh_w} {j n0 : Nat} (hj : j < n0) (hn : n0 < 2 ^ 31) : mh_Met l b dC dI dA zs y_PR_checkIndex (mh_rm 0 0 0) [.int (nI j), .int (nI n0), .null] w (mh_V (some (.int (nI j))) (fun w' => w' = w)) := by
  refine mh_ofW (cc := b_PR_checkIndex) (n := 3) (ret := (some .int)) (hs := []) (by decide) k465 ?_
  intro p e s m below meth c hx hb hr hml hown hts hlocks hnm hT hOK hadm
  have K0 : mh_K0 p s m ([.int (nI j), .int (nI n0), .null]).toArray c "jdk/internal/util/Preconditions" b_PR_checkIndex dC dI dA := ⟨hx, hb, hown, hts, hOK.1, hOK.2.1⟩
  have hX := hOK.2.2.2.2
  have hb0 := hOK.2.2.2.1
  have hS : va_S (mh_A b) s.heap s.heap [] := va_S.rf
  have hl := lv_entry ([.int (nI j), .int (nI n0), .null]) (n := 3) (Nat.le_of_ble_eq_true rfl)
  rw [lg_entry_eq]
  generalize (lg_sl ([.int (nI j), .int (nI n0), .null]) ++ List.replicate (3 - (lg_sl ([.int (nI j), .int (nI n0), .null])).length) Slot.unset).toArray = ls at hl ⊢
  have hl : lv_has ls 3 [(0, .int (nI j)), (1, .int (nI n0)), (2, .null)] := hl
  refine lv_iload_n hx hb d_PR_checkIndex_0 rfl (lv_at hl 0 rfl) ?_
  refine mh_if_lt (tgt := 9) hx hb (by omega) d_PR_checkIndex_1 (by decide) (fun z => absurd z (by omega)) (fun _ => ?_)
  refine lv_iload_n hx hb d_PR_checkIndex_4 rfl (lv_at hl 0 rfl) ?_
  refine lv_iload_n hx hb d_PR_checkIndex_5 rfl (lv_at hl 1 rfl) ?_
  refine mh_icmp_lt (tgt := 16) hx hb (by omega) (by omega) d_PR_checkIndex_6 (by decide) (fun _ => ?_) (fun z => absurd z (by omega))
  refine lv_iload_n hx hb d_PR_checkIndex_16 rfl (lv_at hl 0 rfl) ?_
  exact mh_iret K0 hr rfl hlocks hX hS (⟨rfl, rfl⟩) (Nat.le_of_ble_eq_true rfl) (Nat.le_of_ble_eq_true rfl) d_PR_checkIndex_17
set_option maxHeartbeats 4000000 in
set_option maxRecDepth 100000 in
theorem c_OB_checkIndex {l : Launch} {b : Nat} {dC : Nat → ClassId} {dI : Nat → Nat → Nat} {dA : Nat → ClassId} {zs : Nat → Nat} {w : mh_w} {j n0 : Nat} (hj : j < n0) (hn : n0 < 2 ^ 31) : mh_Met l b dC dI dA zs y_OB_checkIndex (mh_rm 1 0 0) [.int (nI j), .int (nI n0)] w (mh_V (some (.int (nI j))) (fun w' => w' = w)) := by
  refine mh_ofW (cc := b_OB_checkIndex) (n := 2) (ret := (some .int)) (hs := []) (by decide) k462 ?_
  intro p e s m below meth c hx hb hr hml hown hts hlocks hnm hT hOK hadm
  have K0 : mh_K0 p s m ([.int (nI j), .int (nI n0)]).toArray c "java/util/Objects" b_OB_checkIndex dC dI dA := ⟨hx, hb, hown, hts, hOK.1, hOK.2.1⟩
  have hX := hOK.2.2.2.2
  have hb0 := hOK.2.2.2.1
  have hS : va_S (mh_A b) s.heap s.heap [] := va_S.rf
  have hl := lv_entry ([.int (nI j), .int (nI n0)]) (n := 2) (Nat.le_of_ble_eq_true rfl)
  rw [lg_entry_eq]
  generalize (lg_sl ([.int (nI j), .int (nI n0)]) ++ List.replicate (2 - (lg_sl ([.int (nI j), .int (nI n0)])).length) Slot.unset).toArray = ls at hl ⊢
  have hl : lv_has ls 2 [(0, .int (nI j)), (1, .int (nI n0))] := hl
  refine lv_iload_n hx hb d_OB_checkIndex_0 rfl (lv_at hl 0 rfl) ?_
  refine lv_iload_n hx hb d_OB_checkIndex_1 rfl (lv_at hl 1 rfl) ?_
  refine lv_null hx hb d_OB_checkIndex_2 ?_
  refine mh_callR (mh_sS (rest := []) (av := [.int (nI j), .int (nI n0), .null]) K0 e_PR_checkIndex l_OB_105 k464 rfl rfl d_OB_checkIndex_3) (c_PR_checkIndex hj hn) K0 hOK hml hl.1 e_PR_checkIndex hX hS d_OB_checkIndex_3 (Nat.le_of_ble_eq_true rfl) (Nat.le_of_ble_eq_true rfl) (Nat.le_of_ble_eq_true rfl) (Nat.le_of_ble_eq_true rfl) (Nat.le_of_ble_eq_true rfl) (fun H locs hX hS => ?_)
  refine W.eq (g2 := F0 m 6 ls [.int (nI j)]) rfl ?_
  exact mh_iret K0 hr rfl hlocks hX hS (⟨rfl, rfl⟩) (Nat.le_of_ble_eq_true rfl) (Nat.le_of_ble_eq_true rfl) d_OB_checkIndex_6
set_option maxHeartbeats 4000000 in
set_option maxRecDepth 100000 in
theorem c_AL_elementData {l : Launch} {b : Nat} {dC : Nat → ClassId} {dI : Nat → Nat → Nat} {dA : Nat → ClassId} {zs : Nat → Nat} {w : mh_w} {a n0 ar : Nat} {mc : Int32} (h : w 1 0 = some (a, .inr (5, [.int mc, .ref ar, .int (nI n0)]))) {ix cap : Nat} {g : Nat → Option Nat} (hg : w 2 ix = some (ar, .inl (dA 3, cap, .inr (.inr (.inr (.inr g)))))) (hcap : cap ≤ 600) {j y : Nat} (hj : j < cap) (hy : g j = some y) : mh_Met l b dC dI dA zs y_AL_elementData (mh_rm 0 0 0) [.ref a, .int (nI j)] w (mh_V (some (.ref y)) (fun w' => w' = w)) := by
  refine mh_ofW (cc := b_AL_elementData) (n := 2) (ret := (some (.object "java/lang/Object"))) (hs := []) (by decide) k469 ?_
  intro p e s m below meth c hx hb hr hml hown hts hlocks hnm hT hOK hadm
  have K0 : mh_K0 p s m ([.ref a, .int (nI j)]).toArray c "java/util/ArrayList" b_AL_elementData dC dI dA := ⟨hx, hb, hown, hts, hOK.1, hOK.2.1⟩
  have hX := hOK.2.2.2.2
  have hb0 := hOK.2.2.2.1
  have hS : va_S (mh_A b) s.heap s.heap [] := va_S.rf
  have hl := lv_entry ([.ref a, .int (nI j)]) (n := 2) (Nat.le_of_ble_eq_true rfl)
  rw [lg_entry_eq]
  generalize (lg_sl ([.ref a, .int (nI j)]) ++ List.replicate (2 - (lg_sl ([.ref a, .int (nI j)])).length) Slot.unset).toArray = ls at hl ⊢
  have hl : lv_has ls 2 [(0, .ref a), (1, .int (nI j))] := hl
  refine lv_aload_n hx hb d_AL_elementData_0 rfl (lv_at hl 0 rfl) ?_
  refine mh_get K0 hX h f_AL_9 rfl d_AL_elementData_1 ?_
  refine lv_iload_n hx hb d_AL_elementData_4 rfl (lv_at hl 1 rfl) ?_
  refine mh_aaldN 3 rfl K0 hX hg (by omega) (by omega) (r := (some y)) (hy) d_AL_elementData_5 ?_
  refine W.eq (g2 := F0 m 6 ls [.ref y]) rfl ?_
  exact mh_aret K0 hr (Or.inl ⟨_, rfl⟩) (Or.inr ⟨_, rfl⟩) hlocks hX hS (⟨rfl, rfl⟩) (Nat.le_of_ble_eq_true rfl) (Nat.le_of_ble_eq_true rfl) d_AL_elementData_6
set_option maxHeartbeats 4000000 in
set_option maxRecDepth 100000 in
theorem c_AL_get {l : Launch} {b : Nat} {dC : Nat → ClassId} {dI : Nat → Nat → Nat} {dA : Nat → ClassId} {zs : Nat → Nat} {w : mh_w} {a n0 ar : Nat} {mc : Int32} (h : w 1 0 = some (a, .inr (5, [.int mc, .ref ar, .int (nI n0)]))) {ix cap : Nat} {g : Nat → Option Nat} (hg : w 2 ix = some (ar, .inl (dA 3, cap, .inr (.inr (.inr (.inr g)))))) (hcap : cap ≤ 600) {j y : Nat} (hj : j < n0) (hn : n0 ≤ cap) (hy : g j = some y) : mh_Met l b dC dI dA zs y_AL_get (mh_rm 2 0 0) [.ref a, .int (nI j)] w (mh_V (some (.ref y)) (fun w' => w' = w)) := by
  refine mh_ofW (cc := b_AL_get) (n := 2) (ret := (some (.object "java/lang/Object"))) (hs := []) (by decide) k459 ?_
  intro p e s m below meth c hx hb hr hml hown hts hlocks hnm hT hOK hadm
  have K0 : mh_K0 p s m ([.ref a, .int (nI j)]).toArray c "java/util/ArrayList" b_AL_get dC dI dA := ⟨hx, hb, hown, hts, hOK.1, hOK.2.1⟩
  have hX := hOK.2.2.2.2
  have hb0 := hOK.2.2.2.1
  have hS : va_S (mh_A b) s.heap s.heap [] := va_S.rf
  have hl := lv_entry ([.ref a, .int (nI j)]) (n := 2) (Nat.le_of_ble_eq_true rfl)
  rw [lg_entry_eq]
  generalize (lg_sl ([.ref a, .int (nI j)]) ++ List.replicate (2 - (lg_sl ([.ref a, .int (nI j)])).length) Slot.unset).toArray = ls at hl ⊢
  have hl : lv_has ls 2 [(0, .ref a), (1, .int (nI j))] := hl
  refine lv_iload_n hx hb d_AL_get_0 rfl (lv_at hl 1 rfl) ?_
  refine lv_aload_n hx hb d_AL_get_1 rfl (lv_at hl 0 rfl) ?_
  refine mh_get K0 hX h f_AL_48 rfl d_AL_get_2 ?_
  refine mh_callR (mh_sS (rest := []) (av := [.int (nI j), .int (nI n0)]) K0 e_OB_checkIndex l_AL_118 k461 rfl rfl d_AL_get_5) (c_OB_checkIndex hj (by omega)) K0 hOK hml hl.1 e_OB_checkIndex hX hS d_AL_get_5 (Nat.le_of_ble_eq_true rfl) (Nat.le_of_ble_eq_true rfl) (Nat.le_of_ble_eq_true rfl) (Nat.le_of_ble_eq_true rfl) (Nat.le_of_ble_eq_true rfl) (fun H locs hX hS => ?_)
  refine W.eq (g2 := F0 m 8 ls [.int (nI j)]) rfl ?_
  refine lv_pop hx hb d_AL_get_8 rfl ?_
  refine lv_aload_n hx hb d_AL_get_9 rfl (lv_at hl 0 rfl) ?_
  refine lv_iload_n hx hb d_AL_get_10 rfl (lv_at hl 1 rfl) ?_
  refine mh_callR (mh_sV (rest := []) (av := [.int (nI j)]) K0 hX h rfl e_AL_elementData l_AL_123 k467 k468 rfl rfl d_AL_get_11) (c_AL_elementData h hg hcap (by omega) hy) K0 hOK hml hl.1 e_AL_elementData hX hS d_AL_get_11 (Nat.le_of_ble_eq_true rfl) (Nat.le_of_ble_eq_true rfl) (Nat.le_of_ble_eq_true rfl) (Nat.le_of_ble_eq_true rfl) (Nat.le_of_ble_eq_true rfl) (fun H locs hX hS => ?_)
  refine W.eq (g2 := F0 m 14 ls [.ref y]) rfl ?_
  exact mh_aret K0 hr (Or.inl ⟨_, rfl⟩) (Or.inr ⟨_, rfl⟩) hlocks hX hS (⟨rfl, rfl⟩) (Nat.le_of_ble_eq_true rfl) (Nat.le_of_ble_eq_true rfl) d_AL_get_14
set_option maxHeartbeats 4000000 in
set_option maxRecDepth 100000 in
theorem c_AS_newLength {l : Launch} {b : Nat} {dC : Nat → ClassId} {dI : Nat → Nat → Nat} {dA : Nat → ClassId} {zs : Nat → Nat} {w : mh_w} {o1 mg pg : Nat} (h1 : o1 ≤ 600) (h2 : mg ≤ 600) (h3 : pg ≤ 600) (h4 : 0 < mg) : mh_Met l b dC dI dA zs y_AS_newLength (mh_rm 1 0 0) [.int (nI o1), .int (nI mg), .int (nI pg)] w (mh_V (some (.int (nI (o1 + max mg pg)))) (fun w' => w' = w)) := by
  refine mh_ofW (cc := b_AS_newLength) (n := 4) (ret := (some .int)) (hs := []) (by decide) k497 ?_
  intro p e s m below meth c hx hb hr hml hown hts hlocks hnm hT hOK hadm
  have K0 : mh_K0 p s m ([.int (nI o1), .int (nI mg), .int (nI pg)]).toArray c "jdk/internal/util/ArraysSupport" b_AS_newLength dC dI dA := ⟨hx, hb, hown, hts, hOK.1, hOK.2.1⟩
  have hX := hOK.2.2.2.2
  have hb0 := hOK.2.2.2.1
  have hS : va_S (mh_A b) s.heap s.heap [] := va_S.rf
  have hl := lv_entry ([.int (nI o1), .int (nI mg), .int (nI pg)]) (n := 4) (Nat.le_of_ble_eq_true rfl)
  rw [lg_entry_eq]
  generalize (lg_sl ([.int (nI o1), .int (nI mg), .int (nI pg)]) ++ List.replicate (4 - (lg_sl ([.int (nI o1), .int (nI mg), .int (nI pg)])).length) Slot.unset).toArray = ls at hl ⊢
  have hl : lv_has ls 4 [(0, .int (nI o1)), (1, .int (nI mg)), (2, .int (nI pg))] := hl
  refine lv_iload_n hx hb d_AS_newLength_0 rfl (lv_at hl 0 rfl) ?_
  refine lv_iload_n hx hb d_AS_newLength_1 rfl (lv_at hl 1 rfl) ?_
  refine lv_iload_n hx hb d_AS_newLength_2 rfl (lv_at hl 2 rfl) ?_
  refine va_mmax (rest := [.int (nI o1)]) hx hb (by rw [hml]; exact hl.1.symm) hown (hts _ k498) (hts _ k381) (hts _ k20) (hts _ k382) (Nat.le_of_ble_eq_true rfl) (Nat.le_of_ble_eq_true rfl) (Nat.le_of_ble_eq_true rfl) (Nat.le_of_ble_eq_true rfl) d_AS_newLength_3 ?_
  refine mh_ti (y := nI (max mg pg)) (mh_mmax (by omega) (by omega)) ?_
  refine mh_addN hx hb d_AS_newLength_6 ?_
  refine lv_istore_n (lv' := [(3, .int (nI (o1 + (max mg pg)))), (0, .int (nI o1)), (1, .int (nI mg)), (2, .int (nI pg))]) hx hb d_AS_newLength_7 rfl hl (by decide) rfl (fun ls hl => ?_)
  refine lv_iconst (v := nI 0) hx hb d_AS_newLength_8 (by decide) ?_
  refine lv_iload_n hx hb d_AS_newLength_9 rfl (lv_at hl 0 rfl) ?_
  refine mh_icmp_ge (tgt := 21) hx hb (by omega) (by omega) d_AS_newLength_10 (by decide) (fun z => absurd z (by omega)) (fun _ => ?_)
  refine lv_iload_n hx hb d_AS_newLength_13 rfl (lv_at hl 0 rfl) ?_
  refine lv_ldc hx hb hown (hts _ k499) d_AS_newLength_14 ?_
  refine mh_ti (y := nI 2147483639) (by decide) ?_
  refine mh_icmp_gt (tgt := 21) hx hb (by omega) (by omega) d_AS_newLength_16 (by decide) (fun z => absurd z (by omega)) (fun _ => ?_)
  refine lv_iload_n hx hb d_AS_newLength_19 rfl (lv_at hl 0 rfl) ?_
  exact mh_iret K0 hr rfl hlocks hX hS (⟨rfl, rfl⟩) (Nat.le_of_ble_eq_true rfl) (Nat.le_of_ble_eq_true rfl) d_AS_newLength_20
set_option maxHeartbeats 4000000 in
set_option maxRecDepth 100000 in
theorem c_AR_copyOf3 {l : Launch} {b : Nat} {dC : Nat → ClassId} {dI : Nat → Nat → Nat} {dA : Nat → ClassId} {zs : Nat → Nat} {w : mh_w} {ar ix cap nc : Nat} {g : Nat → Option Nat} (hg : w 2 ix = some (ar, .inl (dA 3, cap, .inr (.inr (.inr (.inr g)))))) (hcap : cap ≤ nc) (hnc : nc ≤ 600) (hel : mh_el w cap g) : mh_Met l b dC dI dA zs y_AR_copyOf3 (mh_rm 1 1 600) [.ref ar, .int (nI nc), .ref (zs 1)] w (mh_E (fun q w' => w' 2 (ix + 1) = some (q, .inl (dA 3, nc, .inr (.inr (.inr (.inr (va_cpy g (fun _ => none) 0 0 cap)))))) ∧ ∀ k' i', ¬ (k' = 2 ∧ i' = ix + 1) → w' k' i' = w k' i')) := by
  refine mh_ofW (cc := b_AR_copyOf3) (n := 4) (ret := (some (.array (.object "java/lang/Object")))) (hs := []) (by decide) k524 ?_
  intro p e s m below meth c hx hb hr hml hown hts hlocks hnm hT hOK hadm
  have K0 : mh_K0 p s m ([.ref ar, .int (nI nc), .ref (zs 1)]).toArray c "java/util/Arrays" b_AR_copyOf3 dC dI dA := ⟨hx, hb, hown, hts, hOK.1, hOK.2.1⟩
  have hX := hOK.2.2.2.2
  have hb0 := hOK.2.2.2.1
  have hS : va_S (mh_A b) s.heap s.heap [] := va_S.rf
  have hl := lv_entry ([.ref ar, .int (nI nc), .ref (zs 1)]) (n := 4) (Nat.le_of_ble_eq_true rfl)
  rw [lg_entry_eq]
  generalize (lg_sl ([.ref ar, .int (nI nc), .ref (zs 1)]) ++ List.replicate (4 - (lg_sl ([.ref ar, .int (nI nc), .ref (zs 1)])).length) Slot.unset).toArray = ls at hl ⊢
  have hl : lv_has ls 4 [(0, .ref ar), (1, .int (nI nc)), (2, .ref (zs 1))] := hl
  refine lv_aload_n hx hb d_AR_copyOf3_0 rfl (lv_at hl 2 rfl) ?_
  refine va_ldcM hx hb hown (hts _ k525) hOK.2.2.1.2.2.2.1 d_AR_copyOf3_1 ?_
  refine lv_acmp_ne (tgt := 13) (rx := some (zs 1)) (ry := some (zs 1)) hx hb d_AR_copyOf3_3 (by decide) (fun z => absurd rfl z) (fun _ => ?_)
  refine lv_iload_n hx hb d_AR_copyOf3_6 rfl (lv_at hl 1 rfl) ?_
  refine mh_newq 2 (ix + 1) 3 K0 hX hS hb0 rfl k527 hOK.2.2.1.1.1 (N' := nc) (nI_pos (by omega)) (nI_clamp (by omega)) (by omega) (Nat.le_of_ble_eq_true rfl) (by show 0 + nc ≤ 600; omega) d_AR_copyOf3_7 (fun q H hX hS => ?_)
  have fs48 := mh_self hX
  refine lv_goto (tgt := 24) hx hb d_AR_copyOf3_10 (by decide) ?_
  refine lv_astore_n (lv' := [(3, .ref q), (0, .ref ar), (1, .int (nI nc)), (2, .ref (zs 1))]) hx hb d_AR_copyOf3_24 rfl hl (by decide) rfl (fun ls hl => ?_)
  refine lv_aload_n hx hb d_AR_copyOf3_25 rfl (lv_at hl 1 rfl) ?_
  refine lv_iconst (v := nI 0) hx hb d_AR_copyOf3_26 (by decide) ?_
  refine lv_aload_n hx hb d_AR_copyOf3_27 rfl (lv_at hl 0 rfl) ?_
  refine lv_iconst (v := nI 0) hx hb d_AR_copyOf3_28 (by decide) ?_
  refine lv_aload_n hx hb d_AR_copyOf3_29 rfl (lv_at hl 1 rfl) ?_
  refine mh_alen 3 rfl K0 hX (mh_kp hg (by omega)) d_AR_copyOf3_30 ?_
  refine lv_iload_n hx hb d_AR_copyOf3_31 rfl (lv_at hl 2 rfl) ?_
  refine va_mmin (rest := [.int (nI 0), .ref q, .int (nI 0), .ref ar]) hx hb (by rw [hml]; exact hl.1.symm) hown (hts _ k528) (hts _ k529) (hts _ k20) (hts _ k530) (Nat.le_of_ble_eq_true rfl) (Nat.le_of_ble_eq_true rfl) (Nat.le_of_ble_eq_true rfl) (show 0 + nc ≤ 600 by omega) d_AR_copyOf3_32 ?_
  refine mh_ti (y := nI (min cap nc)) (mh_mmin (by omega) (by omega)) ?_
  rw [show min cap nc = cap by omega]
  refine mh_copyq (rest := []) K0 hml hl.1 k531 k291 k290 k17 k850 hX hS (mh_kp hg (by omega)) fs48 (hel.to (fun k2 i2 h2 => mh_set_ne _ _ _ _ (by omega))) (n := cap) (by omega) (by omega) (by omega) (Nat.le_of_ble_eq_true rfl) (Nat.le_of_ble_eq_true rfl) d_AR_copyOf3_35 (fun H locs hX hS => ?_)
  have fs49 := mh_self hX
  refine lv_aload_n hx hb d_AR_copyOf3_38 rfl (lv_at hl 0 rfl) ?_
  exact mh_aret K0 hr (Or.inr ⟨_, rfl⟩) (Or.inr ⟨_, rfl⟩) hlocks hX hS (⟨q, rfl, fs49, fun k2 i2 h2 => (mh_set_ne _ _ _ _ h2).trans (mh_set_ne _ _ _ _ h2)⟩) (Nat.le_of_ble_eq_true rfl) (show 0 + nc ≤ 600 by omega) d_AR_copyOf3_39
set_option maxHeartbeats 4000000 in
set_option maxRecDepth 100000 in
theorem c_AR_copyOf2 {l : Launch} {b : Nat} {dC : Nat → ClassId} {dI : Nat → Nat → Nat} {dA : Nat → ClassId} {zs : Nat → Nat} {w : mh_w} {ar ix cap nc : Nat} {g : Nat → Option Nat} (hg : w 2 ix = some (ar, .inl (dA 3, cap, .inr (.inr (.inr (.inr g)))))) (hcap : cap ≤ nc) (hnc : nc ≤ 600) (hel : mh_el w cap g) : mh_Met l b dC dI dA zs y_AR_copyOf2 (mh_rm 2 1 600) [.ref ar, .int (nI nc)] w (mh_E (fun q w' => w' 2 (ix + 1) = some (q, .inl (dA 3, nc, .inr (.inr (.inr (.inr (va_cpy g (fun _ => none) 0 0 cap)))))) ∧ ∀ k' i', ¬ (k' = 2 ∧ i' = ix + 1) → w' k' i' = w k' i')) := by
  refine mh_ofW (cc := b_AR_copyOf2) (n := 2) (ret := (some (.array (.object "java/lang/Object")))) (hs := []) (by decide) k505 ?_
  intro p e s m below meth c hx hb hr hml hown hts hlocks hnm hT hOK hadm
  have K0 : mh_K0 p s m ([.ref ar, .int (nI nc)]).toArray c "java/util/Arrays" b_AR_copyOf2 dC dI dA := ⟨hx, hb, hown, hts, hOK.1, hOK.2.1⟩
  have hX := hOK.2.2.2.2
  have hb0 := hOK.2.2.2.1
  have hS : va_S (mh_A b) s.heap s.heap [] := va_S.rf
  have hl := lv_entry ([.ref ar, .int (nI nc)]) (n := 2) (Nat.le_of_ble_eq_true rfl)
  rw [lg_entry_eq]
  generalize (lg_sl ([.ref ar, .int (nI nc)]) ++ List.replicate (2 - (lg_sl ([.ref ar, .int (nI nc)])).length) Slot.unset).toArray = ls at hl ⊢
  have hl : lv_has ls 2 [(0, .ref ar), (1, .int (nI nc))] := hl
  refine lv_aload_n hx hb d_AR_copyOf2_0 rfl (lv_at hl 0 rfl) ?_
  refine lv_iload_n hx hb d_AR_copyOf2_1 rfl (lv_at hl 1 rfl) ?_
  refine lv_aload_n hx hb d_AR_copyOf2_2 rfl (lv_at hl 0 rfl) ?_
  refine va_getC hx hb (by rw [hml]; exact hl.1.symm) hown (hts _ k506) (va_Nw.use (mh_NW_on _ k843) (hOK.1 _ k843)) (hts _ k842) (hts _ k507) (hts _ k521) hOK.2.2.1.2.2.2.1 (mh_arrO K0 hX hg) (Nat.le_of_ble_eq_true rfl) (Nat.le_of_ble_eq_true rfl) d_AR_copyOf2_3 ?_
  refine mh_callE (mh_sS (rest := []) (av := [.ref ar, .int (nI nc), .ref (zs 1)]) K0 e_AR_copyOf3 l_AR_300 k523 rfl rfl d_AR_copyOf2_6) (c_AR_copyOf3 hg hcap hnc hel) K0 hOK hml hl.1 e_AR_copyOf3 hX hS d_AR_copyOf2_6 (Nat.le_of_ble_eq_true rfl) (Nat.le_of_ble_eq_true rfl) (Nat.le_of_ble_eq_true rfl) (Nat.le_of_ble_eq_true rfl) (Nat.le_of_ble_eq_true rfl) (fun q w1 H locs hw hX hS => ?_)
  exact mh_aret K0 hr (Or.inr ⟨_, rfl⟩) (Or.inr ⟨_, rfl⟩) hlocks hX hS (⟨q, rfl, hw⟩) (Nat.le_of_ble_eq_true rfl) (Nat.le_of_ble_eq_true rfl) d_AR_copyOf2_9
set_option maxHeartbeats 4000000 in
set_option maxRecDepth 100000 in
theorem c_AL_grow1 {l : Launch} {b : Nat} {dC : Nat → ClassId} {dI : Nat → Nat → Nat} {dA : Nat → ClassId} {zs : Nat → Nat} {w : mh_w} {a n0 ar : Nat} {mc : Int32} (h : w 1 0 = some (a, .inr (5, [.int mc, .ref ar, .int (nI n0)]))) {f : Nat → Option Nat} (hA : (n0 = 0 ∧ ar = zs 0) ∨ ∃ (ix : Nat) (g : Nat → Option Nat), 0 < n0 ∧ w 2 ix = some (ar, .inl (dA 3, n0, .inr (.inr (.inr (.inr g))))) ∧ mh_el w n0 g ∧ ∀ j, j < n0 → g j = f j) (hn : n0 < 400) : mh_Met l b dC dI dA zs y_AL_grow1 (mh_rm 4 1 600) [.ref a, .int (nI (n0 + 1))] w (mh_E (fun q w' => (∃ (mc : Int32) (ix cap : Nat) (g : Nat → Option Nat), w' 1 0 = some (a, .inr (5, [.int mc, .ref q, .int (nI n0)])) ∧ n0 + 1 ≤ cap ∧ cap ≤ 600 ∧ w' 2 ix = some (q, .inl (dA 3, cap, .inr (.inr (.inr (.inr g))))) ∧ ∀ j, j < n0 → g j = f j) ∧ ∀ k' i', k' ≠ 1 → k' ≠ 2 → w' k' i' = w k' i')) := by
  refine mh_ofW (cc := b_AL_grow1) (n := 4) (ret := (some (.array (.object "java/lang/Object")))) (hs := []) (by decide) k494 ?_
  intro p e s m below meth c hx hb hr hml hown hts hlocks hnm hT hOK hadm
  have K0 : mh_K0 p s m ([.ref a, .int (nI (n0 + 1))]).toArray c "java/util/ArrayList" b_AL_grow1 dC dI dA := ⟨hx, hb, hown, hts, hOK.1, hOK.2.1⟩
  have hX := hOK.2.2.2.2
  have hb0 := hOK.2.2.2.1
  have hS : va_S (mh_A b) s.heap s.heap [] := va_S.rf
  have hl := lv_entry ([.ref a, .int (nI (n0 + 1))]) (n := 4) (Nat.le_of_ble_eq_true rfl)
  rw [lg_entry_eq]
  generalize (lg_sl ([.ref a, .int (nI (n0 + 1))]) ++ List.replicate (4 - (lg_sl ([.ref a, .int (nI (n0 + 1))])).length) Slot.unset).toArray = ls at hl ⊢
  have hl : lv_has ls 4 [(0, .ref a), (1, .int (nI (n0 + 1)))] := hl
  refine lv_aload_n hx hb d_AL_grow1_0 rfl (lv_at hl 0 rfl) ?_
  refine mh_get K0 hX h f_AL_9 rfl d_AL_grow1_1 ?_
  rcases hA with ⟨e1, e2⟩ | ⟨ix, g, hp, hg, hel, hgf⟩
  · skip
    subst e1; subst e2
    refine va_tlen hx hb hOK.2.2.1.2.2.2.2.2.2.2.1 hS (v := nI 0) rfl d_AL_grow1_4 ?_
    refine lv_istore_n (lv' := [(2, .int (nI 0)), (0, .ref a), (1, .int (nI (0 + 1)))]) hx hb d_AL_grow1_5 rfl hl (by decide) rfl (fun ls hl => ?_)
    refine lv_iload_n hx hb d_AL_grow1_6 rfl (lv_at hl 0 rfl) ?_
    refine mh_if_gt (tgt := 20) hx hb (by omega) d_AL_grow1_7 (by decide) (fun z => absurd z (by omega)) (fun _ => ?_)
    refine lv_aload_n hx hb d_AL_grow1_10 rfl (lv_at hl 1 rfl) ?_
    refine mh_get K0 hX h f_AL_9 rfl d_AL_grow1_11 ?_
    refine va_gets hx hb hOK.2.2.1.2.2.2.2.2.2.1 hS hown (hts _ k45) (fun x h => h) d_AL_grow1_14 ?_
    refine lv_acmp_eq (tgt := 45) (rx := some (zs 0)) (ry := some (zs 0)) hx hb d_AL_grow1_17 (by decide) (fun _ => ?_) (fun z => absurd rfl z)
    refine lv_aload_n hx hb d_AL_grow1_45 rfl (lv_at hl 1 rfl) ?_
    refine lv_bipush (v := nI 10) hx hb d_AL_grow1_46 (by decide) ?_
    refine lv_iload_n hx hb d_AL_grow1_48 rfl (lv_at hl 2 rfl) ?_
    refine va_mmax (rest := [.ref a]) hx hb (by rw [hml]; exact hl.1.symm) hown (hts _ k532) (hts _ k381) (hts _ k20) (hts _ k382) (Nat.le_of_ble_eq_true rfl) (Nat.le_of_ble_eq_true rfl) (Nat.le_of_ble_eq_true rfl) (Nat.le_of_ble_eq_true rfl) d_AL_grow1_49 ?_
    refine mh_ti (y := nI (max 10 (0 + 1))) (mh_mmax (by omega) (by omega)) ?_
    rw [show max 10 (0 + 1) = 10 from rfl]
    refine mh_newq 2 0 3 K0 hX hS hb0 rfl k533 (hOK.2.2.1.1.1) (N' := 10) (by decide) (by decide) (by decide) (Nat.le_of_ble_eq_true rfl) (Nat.le_of_ble_eq_true rfl) d_AL_grow1_52 (fun q H hX hS => ?_)
    have fs50 := mh_self hX
    refine lv_dup_x1 hx hb d_AL_grow1_55 rfl rfl ?_
    refine mh_put K0 hX hS (mh_kp h (by omega)) f_AL_9 p_5_1 rfl rfl (Nat.le_of_ble_eq_true rfl) d_AL_grow1_56 (fun H locs hX hS => ?_)
    have hX : mh_P (dC, dI) b (mh_set _ 1 0 (some (a, .inr (5, [.int mc, .ref q, .int (nI 0)])))) H := hX
    have fs51 := mh_self hX
    exact mh_aret K0 hr (Or.inr ⟨_, rfl⟩) (Or.inr ⟨_, rfl⟩) hlocks hX hS (⟨q, rfl, ⟨mc, 0, 10, _, fs51, by omega, by omega, (mh_kp fs50 (by omega)), fun j hj => absurd hj (Nat.not_lt_zero j)⟩, fun k2 i2 h1 h2 => (mh_set_ne _ _ _ _ (by omega)).trans (mh_set_ne _ _ _ _ (by omega))⟩) (Nat.le_of_ble_eq_true rfl) (Nat.le_of_ble_eq_true rfl) d_AL_grow1_59
  · skip
    refine mh_alen 3 rfl K0 hX hg d_AL_grow1_4 ?_
    refine lv_istore_n (lv' := [(2, .int (nI n0)), (0, .ref a), (1, .int (nI (n0 + 1)))]) hx hb d_AL_grow1_5 rfl hl (by decide) rfl (fun ls hl => ?_)
    refine lv_iload_n hx hb d_AL_grow1_6 rfl (lv_at hl 0 rfl) ?_
    refine mh_if_gt (tgt := 20) hx hb (by omega) d_AL_grow1_7 (by decide) (fun _ => ?_) (fun z => absurd z (by omega))
    refine lv_iload_n hx hb d_AL_grow1_20 rfl (lv_at hl 0 rfl) ?_
    refine lv_iload_n hx hb d_AL_grow1_21 rfl (lv_at hl 2 rfl) ?_
    refine lv_iload_n hx hb d_AL_grow1_22 rfl (lv_at hl 0 rfl) ?_
    refine mh_subN hx hb (by omega) d_AL_grow1_23 ?_
    refine lv_iload_n hx hb d_AL_grow1_24 rfl (lv_at hl 0 rfl) ?_
    refine lv_iconst (v := nI 1) hx hb d_AL_grow1_25 (by decide) ?_
    refine lv_ishr hx hb d_AL_grow1_26 ?_
    refine mh_ti (y := nI (n0 / 2)) (nI_shr1 (by omega)) ?_
    refine mh_callR (mh_sS (rest := []) (av := [.int (nI n0), .int (nI ((n0 + 1) - n0)), .int (nI (n0 / 2))]) K0 e_AS_newLength l_AL_73 k496 rfl rfl d_AL_grow1_27) (c_AS_newLength (o1 := n0) (mg := n0 + 1 - n0) (pg := n0 / 2) (by omega) (by omega) (by omega) (by omega)) K0 hOK hml hl.1 e_AS_newLength hX hS d_AL_grow1_27 (Nat.le_of_ble_eq_true rfl) (Nat.le_of_ble_eq_true rfl) (Nat.le_of_ble_eq_true rfl) (Nat.le_of_ble_eq_true rfl) (Nat.le_of_ble_eq_true rfl) (fun H locs hX hS => ?_)
    refine W.eq (g2 := F0 m 30 ls [.int (nI (n0 + max (n0 + 1 - n0) (n0 / 2)))]) rfl ?_
    refine lv_istore_n (lv' := [(3, .int (nI (n0 + max (n0 + 1 - n0) (n0 / 2)))), (2, .int (nI n0)), (0, .ref a), (1, .int (nI (n0 + 1)))]) hx hb d_AL_grow1_30 rfl hl (by decide) rfl (fun ls hl => ?_)
    refine lv_aload_n hx hb d_AL_grow1_31 rfl (lv_at hl 2 rfl) ?_
    refine lv_aload_n hx hb d_AL_grow1_32 rfl (lv_at hl 2 rfl) ?_
    refine mh_get K0 hX h f_AL_9 rfl d_AL_grow1_33 ?_
    refine lv_iload_n hx hb d_AL_grow1_36 rfl (lv_at hl 0 rfl) ?_
    refine mh_callE (mh_sS (rest := [.ref a]) (av := [.ref ar, .int (nI (n0 + max (n0 + 1 - n0) (n0 / 2)))]) K0 e_AR_copyOf2 l_AL_66 k504 rfl rfl d_AL_grow1_37) (c_AR_copyOf2 (nc := n0 + max (n0 + 1 - n0) (n0 / 2)) hg (by omega) (by omega) hel) K0 hOK hml hl.1 e_AR_copyOf2 hX hS d_AL_grow1_37 (Nat.le_of_ble_eq_true rfl) (Nat.le_of_ble_eq_true rfl) (Nat.le_of_ble_eq_true rfl) (Nat.le_of_ble_eq_true rfl) (Nat.le_of_ble_eq_true rfl) (fun q w1 H locs ⟨hq1, hq2⟩ hX hS => ?_)
    refine lv_dup_x1 hx hb d_AL_grow1_40 rfl rfl ?_
    refine mh_put K0 hX hS ((hq2 1 0 (by omega)).trans h) f_AL_9 p_5_1 rfl rfl (Nat.le_of_ble_eq_true rfl) d_AL_grow1_41 (fun H locs hX hS => ?_)
    have hX : mh_P (dC, dI) b (mh_set _ 1 0 (some (a, .inr (5, [.int mc, .ref q, .int (nI n0)])))) H := hX
    have fs52 := mh_self hX
    exact mh_aret K0 hr (Or.inr ⟨_, rfl⟩) (Or.inr ⟨_, rfl⟩) hlocks hX hS (⟨q, rfl, ⟨mc, ix + 1, _, _, fs52, by omega, by omega, (mh_kp hq1 (by omega)), fun j hj => by rw [pk_cpy_in (by omega) (by omega), Nat.zero_add, Nat.sub_zero]; exact hgf j hj⟩, fun k2 i2 h1 h2 => (mh_set_ne _ _ _ _ (by omega)).trans (hq2 _ _ (by omega))⟩) (Nat.le_of_ble_eq_true rfl) (Nat.le_of_ble_eq_true rfl) d_AL_grow1_44
set_option maxHeartbeats 4000000 in
set_option maxRecDepth 100000 in
theorem c_AL_grow0 {l : Launch} {b : Nat} {dC : Nat → ClassId} {dI : Nat → Nat → Nat} {dA : Nat → ClassId} {zs : Nat → Nat} {w : mh_w} {a n0 ar : Nat} {mc : Int32} (h : w 1 0 = some (a, .inr (5, [.int mc, .ref ar, .int (nI n0)]))) {f : Nat → Option Nat} (hA : (n0 = 0 ∧ ar = zs 0) ∨ ∃ (ix : Nat) (g : Nat → Option Nat), 0 < n0 ∧ w 2 ix = some (ar, .inl (dA 3, n0, .inr (.inr (.inr (.inr g))))) ∧ mh_el w n0 g ∧ ∀ j, j < n0 → g j = f j) (hn : n0 < 400) : mh_Met l b dC dI dA zs y_AL_grow0 (mh_rm 5 1 600) [.ref a] w (mh_E (fun q w' => (∃ (mc : Int32) (ix cap : Nat) (g : Nat → Option Nat), w' 1 0 = some (a, .inr (5, [.int mc, .ref q, .int (nI n0)])) ∧ n0 + 1 ≤ cap ∧ cap ≤ 600 ∧ w' 2 ix = some (q, .inl (dA 3, cap, .inr (.inr (.inr (.inr g))))) ∧ ∀ j, j < n0 → g j = f j) ∧ ∀ k' i', k' ≠ 1 → k' ≠ 2 → w' k' i' = w k' i')) := by
  refine mh_ofW (cc := b_AL_grow0) (n := 1) (ret := (some (.array (.object "java/lang/Object")))) (hs := []) (by decide) k490 ?_
  intro p e s m below meth c hx hb hr hml hown hts hlocks hnm hT hOK hadm
  have K0 : mh_K0 p s m ([.ref a]).toArray c "java/util/ArrayList" b_AL_grow0 dC dI dA := ⟨hx, hb, hown, hts, hOK.1, hOK.2.1⟩
  have hX := hOK.2.2.2.2
  have hb0 := hOK.2.2.2.1
  have hS : va_S (mh_A b) s.heap s.heap [] := va_S.rf
  have hl := lv_entry ([.ref a]) (n := 1) (Nat.le_of_ble_eq_true rfl)
  rw [lg_entry_eq]
  generalize (lg_sl ([.ref a]) ++ List.replicate (1 - (lg_sl ([.ref a])).length) Slot.unset).toArray = ls at hl ⊢
  have hl : lv_has ls 1 [(0, .ref a)] := hl
  refine lv_aload_n hx hb d_AL_grow0_0 rfl (lv_at hl 0 rfl) ?_
  refine lv_aload_n hx hb d_AL_grow0_1 rfl (lv_at hl 0 rfl) ?_
  refine mh_get K0 hX h f_AL_48 rfl d_AL_grow0_2 ?_
  refine lv_iconst (v := nI 1) hx hb d_AL_grow0_5 (by decide) ?_
  refine mh_addN hx hb d_AL_grow0_6 ?_
  refine mh_callE (mh_sV (rest := []) (av := [.int (nI (n0 + 1))]) K0 hX h rfl e_AL_grow1 l_AL_69 k493 kp12 rfl rfl d_AL_grow0_7) (c_AL_grow1 h hA hn) K0 hOK hml hl.1 e_AL_grow1 hX hS d_AL_grow0_7 (Nat.le_of_ble_eq_true rfl) (Nat.le_of_ble_eq_true rfl) (Nat.le_of_ble_eq_true rfl) (Nat.le_of_ble_eq_true rfl) (Nat.le_of_ble_eq_true rfl) (fun q w1 H locs hw hX hS => ?_)
  exact mh_aret K0 hr (Or.inr ⟨_, rfl⟩) (Or.inr ⟨_, rfl⟩) hlocks hX hS (⟨q, rfl, hw⟩) (Nat.le_of_ble_eq_true rfl) (Nat.le_of_ble_eq_true rfl) d_AL_grow0_10
set_option maxHeartbeats 4000000 in
set_option maxRecDepth 100000 in
theorem c_AL_add3 {l : Launch} {b : Nat} {dC : Nat → ClassId} {dI : Nat → Nat → Nat} {dA : Nat → ClassId} {zs : Nat → Nat} {w : mh_w} {a n0 ar : Nat} {mc : Int32} (h : w 1 0 = some (a, .inr (5, [.int mc, .ref ar, .int (nI n0)]))) {f : Nat → Option Nat} (hA : rA dA zs w ar n0 f) (hel : mh_el w n0 f) (hn : n0 < 400) {y : Nat} {ky iy : Nat} {ys : List Value} (hky : 10 ≤ ky) (hy : w ky iy = some (y, .inr (2, ys))) : mh_Met l b dC dI dA zs y_AL_add3 (mh_rm 6 1 600) [.ref a, .ref y, .ref ar, .int (nI n0)] w (mh_V none (fun w' => rL dA zs w' a (n0 + 1) (va_up f n0 (some y)) ∧ ∀ k' i', k' ≠ 1 → k' ≠ 2 → w' k' i' = w k' i')) := by
  refine mh_ofW (cc := b_AL_add3) (n := 4) (ret := none) (hs := []) (by decide) k486 ?_
  intro p e s m below meth c hx hb hr hml hown hts hlocks hnm hT hOK hadm
  have K0 : mh_K0 p s m ([.ref a, .ref y, .ref ar, .int (nI n0)]).toArray c "java/util/ArrayList" b_AL_add3 dC dI dA := ⟨hx, hb, hown, hts, hOK.1, hOK.2.1⟩
  have hX := hOK.2.2.2.2
  have hb0 := hOK.2.2.2.1
  have hS : va_S (mh_A b) s.heap s.heap [] := va_S.rf
  have hl := lv_entry ([.ref a, .ref y, .ref ar, .int (nI n0)]) (n := 4) (Nat.le_of_ble_eq_true rfl)
  rw [lg_entry_eq]
  generalize (lg_sl ([.ref a, .ref y, .ref ar, .int (nI n0)]) ++ List.replicate (4 - (lg_sl ([.ref a, .ref y, .ref ar, .int (nI n0)])).length) Slot.unset).toArray = ls at hl ⊢
  have hl : lv_has ls 4 [(0, .ref a), (1, .ref y), (2, .ref ar), (3, .int (nI n0))] := hl
  refine lv_iload_n hx hb d_AL_add3_0 rfl (lv_at hl 3 rfl) ?_
  refine lv_aload_n hx hb d_AL_add3_1 rfl (lv_at hl 2 rfl) ?_
  rcases hA with ⟨e1, e2⟩ | ⟨ix, cap, g, hc1, hc2, hc3, hg, hgf⟩
  · skip
    have hA : (n0 = 0 ∧ ar = zs 0) ∨ ∃ (ix : Nat) (g : Nat → Option Nat), 0 < n0 ∧ w 2 ix = some (ar, .inl (dA 3, n0, .inr (.inr (.inr (.inr g))))) ∧ mh_el w n0 g ∧ ∀ j, j < n0 → g j = f j := Or.inl ⟨e1, e2⟩
    have hT0 := hOK.2.2.1.2.2.2.2.2.2.2.1
    rw [← e2] at hT0
    refine va_tlen hx hb hT0 hS (v := nI 0) rfl d_AL_add3_2 ?_
    refine mh_icmp_ne (tgt := 11) hx hb (by omega) (by omega) d_AL_add3_3 (by decide) (fun z => absurd z (by omega)) (fun _ => ?_)
    refine lv_aload_n hx hb d_AL_add3_6 rfl (lv_at hl 0 rfl) ?_
    refine mh_callE (mh_sV (rest := []) (av := []) K0 hX h rfl e_AL_grow0 l_AL_129 k489 kp11 rfl rfl d_AL_add3_7) (c_AL_grow0 h (hA) hn) K0 hOK hml hl.1 e_AL_grow0 hX hS d_AL_add3_7 (Nat.le_of_ble_eq_true rfl) (Nat.le_of_ble_eq_true rfl) (Nat.le_of_ble_eq_true rfl) (Nat.le_of_ble_eq_true rfl) (Nat.le_of_ble_eq_true rfl) (fun q w1 H locs ⟨⟨mc2, ix2, cap2, g2, hq0, hc1, hc2, hq1, hgf2⟩, hq2⟩ hX hS => ?_)
    refine lv_astore_n (lv' := [(2, .ref q), (0, .ref a), (1, .ref y), (3, .int (nI n0))]) hx hb d_AL_add3_10 rfl hl (by decide) rfl (fun ls hl => ?_)
    refine lv_aload_n hx hb d_AL_add3_11 rfl (lv_at hl 0 rfl) ?_
    refine lv_iload_n hx hb d_AL_add3_12 rfl (lv_at hl 3 rfl) ?_
    refine lv_aload_n hx hb d_AL_add3_13 rfl (lv_at hl 2 rfl) ?_
    refine mh_aastO k850 K0 hX hS hq1 ((hq2 ky iy (by omega) (by omega)).trans hy) (by omega) (by omega) d_AL_add3_14 (fun H locs hX hS => ?_)
    have fs53 := mh_self hX
    refine lv_aload_n hx hb d_AL_add3_15 rfl (lv_at hl 1 rfl) ?_
    refine lv_iload_n hx hb d_AL_add3_16 rfl (lv_at hl 3 rfl) ?_
    refine lv_iconst (v := nI 1) hx hb d_AL_add3_17 (by decide) ?_
    refine mh_addN hx hb d_AL_add3_18 ?_
    refine mh_put K0 hX hS (mh_kp hq0 (by omega)) f_AL_48 p_5_2 rfl rfl (Nat.le_of_ble_eq_true rfl) d_AL_add3_19 (fun H locs hX hS => ?_)
    have hX : mh_P (dC, dI) b (mh_set _ 1 0 (some (a, .inr (5, [.int mc2, .ref q, .int (nI (n0 + 1))])))) H := hX
    have fs54 := mh_self hX
    refine mh_vret K0 hr hlocks hX hS (⟨rfl, ⟨_, _, fs54, Or.inr ⟨ix2, cap2, _, by omega, by omega, by omega, (mh_kp fs53 (by omega)), fun j hj => ?_⟩⟩, (fun k2 i2 h1 h2 => (mh_set_ne _ _ _ _ (by omega)).trans ((mh_set_ne _ _ _ _ (by omega)).trans (hq2 k2 i2 h1 h2)))⟩) (Nat.le_of_ble_eq_true rfl) (Nat.le_of_ble_eq_true rfl) d_AL_add3_22
    by_cases e9 : j = n0
    · rw [e9, va_up_self, va_up_self]
    · rw [va_up_ne _ _ e9, va_up_ne _ _ e9]; exact hgf2 j (by omega)
  · skip
    refine mh_alen 3 rfl K0 hX hg d_AL_add3_2 ?_
    refine mh_icmp_ne (tgt := 11) hx hb (by omega) (by omega) d_AL_add3_3 (by decide) (fun ct => ?_) (fun cf => ?_)
    · skip
      refine lv_aload_n hx hb d_AL_add3_11 rfl (lv_at hl 2 rfl) ?_
      refine lv_iload_n hx hb d_AL_add3_12 rfl (lv_at hl 3 rfl) ?_
      refine lv_aload_n hx hb d_AL_add3_13 rfl (lv_at hl 1 rfl) ?_
      refine mh_aastO k850 K0 hX hS hg hy (by omega) (by omega) d_AL_add3_14 (fun H locs hX hS => ?_)
      have fs55 := mh_self hX
      refine lv_aload_n hx hb d_AL_add3_15 rfl (lv_at hl 0 rfl) ?_
      refine lv_iload_n hx hb d_AL_add3_16 rfl (lv_at hl 3 rfl) ?_
      refine lv_iconst (v := nI 1) hx hb d_AL_add3_17 (by decide) ?_
      refine mh_addN hx hb d_AL_add3_18 ?_
      refine mh_put K0 hX hS (mh_kp h (by omega)) f_AL_48 p_5_2 rfl rfl (Nat.le_of_ble_eq_true rfl) d_AL_add3_19 (fun H locs hX hS => ?_)
      have hX : mh_P (dC, dI) b (mh_set _ 1 0 (some (a, .inr (5, [.int mc, .ref ar, .int (nI (n0 + 1))])))) H := hX
      have fs56 := mh_self hX
      refine mh_vret K0 hr hlocks hX hS (⟨rfl, ⟨_, _, fs56, Or.inr ⟨ix, cap, _, by omega, by omega, by omega, (mh_kp fs55 (by omega)), fun j hj => ?_⟩⟩, (fun k2 i2 h1 h2 => (mh_set_ne _ _ _ _ (by omega)).trans ((mh_set_ne _ _ _ _ (by omega))))⟩) (Nat.le_of_ble_eq_true rfl) (Nat.le_of_ble_eq_true rfl) d_AL_add3_22
      by_cases e9 : j = n0
      · rw [e9, va_up_self, va_up_self]
      · rw [va_up_ne _ _ e9, va_up_ne _ _ e9]; exact hgf j (by omega)
    · skip
      subst cf
      have hel2 : mh_el w n0 g := fun j y hj hy => hel j y hj ((hgf j hj).symm.trans hy)
      refine lv_aload_n hx hb d_AL_add3_6 rfl (lv_at hl 0 rfl) ?_
      refine mh_callE (mh_sV (rest := []) (av := []) K0 hX h rfl e_AL_grow0 l_AL_129 k489 kp11 rfl rfl d_AL_add3_7) (c_AL_grow0 h (Or.inr ⟨ix, g, hc2, hg, hel2, hgf⟩) hn) K0 hOK hml hl.1 e_AL_grow0 hX hS d_AL_add3_7 (Nat.le_of_ble_eq_true rfl) (Nat.le_of_ble_eq_true rfl) (Nat.le_of_ble_eq_true rfl) (Nat.le_of_ble_eq_true rfl) (Nat.le_of_ble_eq_true rfl) (fun q w1 H locs ⟨⟨mc2, ix2, cap2, g2, hq0, hc1, hc2, hq1, hgf2⟩, hq2⟩ hX hS => ?_)
      refine lv_astore_n (lv' := [(2, .ref q), (0, .ref a), (1, .ref y), (3, .int (nI n0))]) hx hb d_AL_add3_10 rfl hl (by decide) rfl (fun ls hl => ?_)
      refine lv_aload_n hx hb d_AL_add3_11 rfl (lv_at hl 0 rfl) ?_
      refine lv_iload_n hx hb d_AL_add3_12 rfl (lv_at hl 3 rfl) ?_
      refine lv_aload_n hx hb d_AL_add3_13 rfl (lv_at hl 2 rfl) ?_
      refine mh_aastO k850 K0 hX hS hq1 ((hq2 ky iy (by omega) (by omega)).trans hy) (by omega) (by omega) d_AL_add3_14 (fun H locs hX hS => ?_)
      have fs57 := mh_self hX
      refine lv_aload_n hx hb d_AL_add3_15 rfl (lv_at hl 1 rfl) ?_
      refine lv_iload_n hx hb d_AL_add3_16 rfl (lv_at hl 3 rfl) ?_
      refine lv_iconst (v := nI 1) hx hb d_AL_add3_17 (by decide) ?_
      refine mh_addN hx hb d_AL_add3_18 ?_
      refine mh_put K0 hX hS (mh_kp hq0 (by omega)) f_AL_48 p_5_2 rfl rfl (Nat.le_of_ble_eq_true rfl) d_AL_add3_19 (fun H locs hX hS => ?_)
      have hX : mh_P (dC, dI) b (mh_set _ 1 0 (some (a, .inr (5, [.int mc2, .ref q, .int (nI (n0 + 1))])))) H := hX
      have fs58 := mh_self hX
      refine mh_vret K0 hr hlocks hX hS (⟨rfl, ⟨_, _, fs58, Or.inr ⟨ix2, cap2, _, by omega, by omega, by omega, (mh_kp fs57 (by omega)), fun j hj => ?_⟩⟩, (fun k2 i2 h1 h2 => (mh_set_ne _ _ _ _ (by omega)).trans ((mh_set_ne _ _ _ _ (by omega)).trans (hq2 k2 i2 h1 h2)))⟩) (Nat.le_of_ble_eq_true rfl) (Nat.le_of_ble_eq_true rfl) d_AL_add3_22
      by_cases e9 : j = n0
      · rw [e9, va_up_self, va_up_self]
      · rw [va_up_ne _ _ e9, va_up_ne _ _ e9]; exact hgf2 j (by omega)
set_option maxHeartbeats 4000000 in
set_option maxRecDepth 100000 in
theorem c_AL_add1 {l : Launch} {b : Nat} {dC : Nat → ClassId} {dI : Nat → Nat → Nat} {dA : Nat → ClassId} {zs : Nat → Nat} {w : mh_w} {a n0 : Nat} {f : Nat → Option Nat} (h : rL dA zs w a n0 f) (hel : mh_el w n0 f) (hn : n0 < 400) {y : Nat} {ky iy : Nat} {ys : List Value} (hky : 10 ≤ ky) (hy : w ky iy = some (y, .inr (2, ys))) : mh_Met l b dC dI dA zs y_AL_add1 (mh_rm 7 1 600) [.ref a, .ref y] w (mh_V (some (.int (nI 1))) (fun w' => rL dA zs w' a (n0 + 1) (va_up f n0 (some y)) ∧ ∀ k' i', k' ≠ 1 → k' ≠ 2 → w' k' i' = w k' i')) := by
  obtain ⟨mc, ar, h, hA⟩ := h
  refine mh_ofW (cc := b_AL_add1) (n := 2) (ret := (some .boolean)) (hs := []) (by decide) k482 ?_
  intro p e s m below meth c hx hb hr hml hown hts hlocks hnm hT hOK hadm
  have K0 : mh_K0 p s m ([.ref a, .ref y]).toArray c "java/util/ArrayList" b_AL_add1 dC dI dA := ⟨hx, hb, hown, hts, hOK.1, hOK.2.1⟩
  have hX := hOK.2.2.2.2
  have hb0 := hOK.2.2.2.1
  have hS : va_S (mh_A b) s.heap s.heap [] := va_S.rf
  have hl := lv_entry ([.ref a, .ref y]) (n := 2) (Nat.le_of_ble_eq_true rfl)
  rw [lg_entry_eq]
  generalize (lg_sl ([.ref a, .ref y]) ++ List.replicate (2 - (lg_sl ([.ref a, .ref y])).length) Slot.unset).toArray = ls at hl ⊢
  have hl : lv_has ls 2 [(0, .ref a), (1, .ref y)] := hl
  refine lv_aload_n hx hb d_AL_add1_0 rfl (lv_at hl 0 rfl) ?_
  refine lv_dup hx hb d_AL_add1_1 rfl ?_
  refine mh_get K0 hX h f_AL_63 rfl d_AL_add1_2 ?_
  refine lv_iconst (v := nI 1) hx hb d_AL_add1_5 (by decide) ?_
  refine lv_iadd hx hb d_AL_add1_6 ?_
  refine mh_put K0 hX hS h f_AL_63 p_5_0 rfl rfl (Nat.le_of_ble_eq_true rfl) d_AL_add1_7 (fun H locs hX hS => ?_)
  have hX : mh_P (dC, dI) b (mh_set _ 1 0 (some (a, .inr (5, [.int (mc + nI 1), .ref ar, .int (nI n0)])))) H := hX
  have fs59 := mh_self hX
  refine lv_aload_n hx hb d_AL_add1_10 rfl (lv_at hl 0 rfl) ?_
  refine lv_aload_n hx hb d_AL_add1_11 rfl (lv_at hl 1 rfl) ?_
  refine lv_aload_n hx hb d_AL_add1_12 rfl (lv_at hl 0 rfl) ?_
  refine mh_get K0 hX fs59 f_AL_9 rfl d_AL_add1_13 ?_
  refine lv_aload_n hx hb d_AL_add1_16 rfl (lv_at hl 0 rfl) ?_
  refine mh_get K0 hX fs59 f_AL_48 rfl d_AL_add1_17 ?_
  refine mh_callV (mh_sV (rest := []) (av := [.ref y, .ref ar, .int (nI n0)]) K0 hX fs59 rfl e_AL_add3 l_AL_131 k485 kp10 rfl rfl d_AL_add1_20) (c_AL_add3 fs59 (f := f) (hA.elim Or.inl (fun ⟨ix, cap, g, c1, c2, c3, c4, c5⟩ => Or.inr ⟨ix, cap, g, c1, c2, c3, (mh_set_ne _ _ _ _ (by omega)).trans c4, c5⟩)) (hel.to (fun k2 i2 h2 => mh_set_ne _ _ _ _ (by omega))) hn hky ((mh_set_ne _ _ _ _ (by omega)).trans hy)) K0 hOK hml hl.1 e_AL_add3 hX hS d_AL_add1_20 (Nat.le_of_ble_eq_true rfl) (Nat.le_of_ble_eq_true rfl) (Nat.le_of_ble_eq_true rfl) (Nat.le_of_ble_eq_true rfl) (Nat.le_of_ble_eq_true rfl) (fun w1 H locs ⟨hL, hF⟩ hX hS => ?_)
  refine W.eq (g2 := F0 m 23 ls []) rfl ?_
  refine lv_iconst (v := nI 1) hx hb d_AL_add1_23 (by decide) ?_
  exact mh_iret K0 hr (by decide) hlocks hX hS (⟨rfl, hL, fun k2 i2 h1 h2 => (hF k2 i2 h1 h2).trans (mh_set_ne _ _ _ _ (by omega))⟩) (Nat.le_of_ble_eq_true rfl) (Nat.le_of_ble_eq_true rfl) d_AL_add1_24
