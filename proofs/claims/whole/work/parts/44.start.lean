theorem lw_flags {l : Launch} (h : l.flags = flags0) : l.stackTraces = false := by
  unfold Launch.stackTraces
  rw [h]
  decide +kernel
theorem sg_ok0 : sg_ok st_G0 := ⟨Nat.zero_le _, Nat.zero_le _, fun _ _ => Nat.zero_le _, fun k hk => absurd hk (Nat.not_lt_zero k), fun t x _ h => by cases h⟩
set_option maxHeartbeats 4000000 in
set_option maxRecDepth 100000 in
/-- the tables and what is given of the start, as the contracts want them -/
theorem lw_ok {s : State} {b : Nat} (hts : ∀ w ∈ lw_tbl, w.before #[Value.ref b] s = true) (hgv : (Jvm.Cond.and given_1 narrow_1).before #[Value.ref b] s = true) : ∃ (dC : Nat → ClassId) (dI : Nat → Nat → Nat) (dA : Nat → ClassId) (zs : Nat → Nat), mh_OK s.heap.size dC dI dA zs (fun _ _ => none) s := by
  have hTB : ∀ w ∈ mh_TB, w.before #[Value.ref b] s = true := fun w h => hts w (mh_TB_tbl w h)
  have hs := flat_of_before _ hgv
  have hA : ∀ a : Nat, a < s.heap.size → ¬ mh_A s.heap.size a := fun a h => Nat.not_le.mpr h
  obtain ⟨c0, i0, K0⟩ := u_known (C := "MeldHost$KeySet") (T := F_KS) (N := 1) (n := 1) hTB i_KS (hTB _ k73)
  obtain ⟨c1, i1, K1⟩ := u_known (C := "MeldHost$Numbers") (T := F_NU) (N := 2) (n := 2) hTB i_NU (hTB _ k67)
  obtain ⟨c2, i2, K2⟩ := u_known (C := "MeldHost$Intention") (T := F_IN) (N := 12) (n := 12) hTB i_IN (hTB _ k231)
  obtain ⟨c3, i3, K3⟩ := u_known (C := "MeldHost$Server") (T := F_SV) (N := 4) (n := 4) hTB i_SV (hTB _ k61)
  obtain ⟨c4, i4, K4⟩ := u_known (C := "MeldHost") (T := F_MH) (N := 5) (n := 5) hTB i_MH (hTB _ k26)
  obtain ⟨c5, i5, K5⟩ := u_known (C := "java/util/ArrayList") (T := F_AL) (N := 3) (n := 3) hTB i_AL (hTB _ k34)
  obtain ⟨c6, i6, K6⟩ := u_known (C := "MeldHostModel$Work") (T := F_WK) (N := 14) (n := 14) hTB i_WK (hTB _ k652)
  obtain ⟨c7, i7, K7⟩ := u_known (C := "MeldHostModel") (T := F_MM) (N := 8) (n := 8) hTB i_MM (hTB _ k645)
  obtain ⟨c8, i8, K8⟩ := u_known (C := "java/lang/IllegalArgumentException") (T := F_IA) (N := 0) (n := 6) hTB i_IA (hTB _ k147)
  obtain ⟨c9, i9, K9⟩ := u_known (C := "java/lang/IllegalStateException") (T := F_IS) (N := 0) (n := 6) hTB i_IS (hTB _ k216)
  obtain ⟨c10, i10, K10⟩ := u_known (C := "java/lang/IndexOutOfBoundsException") (T := F_IO) (N := 0) (n := 6) hTB i_IO (hTB _ k361)
  obtain ⟨c11, i11, K11⟩ := u_known (C := "java/lang/UnsupportedOperationException") (T := F_UO) (N := 0) (n := 6) hTB i_UO (hTB _ k330)
  obtain ⟨t0, kk0, m0, x0, y0, u0⟩ := Cond.arrayClass_spec (hTB _ k112)
  obtain ⟨t1, kk1, m1, x1, y1, u1⟩ := Cond.arrayClass_spec (hTB _ k82)
  obtain ⟨t2, kk2, m2, x2, y2, u2⟩ := Cond.arrayClass_spec (hTB _ k280)
  obtain ⟨m3, t3, kk3, g3a, g3b, g3c, g3d, g3e⟩ := Cond.arrayOver_spec (hts _ k526)
  obtain ⟨m4, t4, kk4, g4a, g4b, g4c, g4d, g4e⟩ := Cond.arrayOver_spec (hts _ k60)
  obtain ⟨m5, t5, kk5, g5a, g5b, g5c, g5d, g5e⟩ := Cond.arrayOver_spec (hts _ k114)
  obtain ⟨m6, t6, kk6, g6a, g6b, g6c, g6d, g6e⟩ := Cond.arrayOver_spec (hts _ k116)
  obtain ⟨m7, t7, kk7, g7a, g7b, g7c, g7d, g7e⟩ := Cond.arrayOver_spec (hts _ k651)
  obtain ⟨za, zc, zcell, zk, z1, z2, z3, z4, z5, z6, -⟩ := Cond.exactly_spec (hs (.exactly (.static "java/util/ArrayList" "DEFAULTCAPACITY_EMPTY_ELEMENTDATA" "[Ljava/lang/Object;") "[Ljava/lang/Object;") (by decide +kernel))
  have hlen : (Term.length (.static "java/util/ArrayList" "DEFAULTCAPACITY_EMPTY_ELEMENTDATA" "[Ljava/lang/Object;")).eval #[Value.ref b] s none [] s = some (.int (Int32.ofNat 0)) := va_eqt (hs (.eq (.length (.static "java/util/ArrayList" "DEFAULTCAPACITY_EMPTY_ELEMENTDATA" "[Ljava/lang/Object;")) (.int 0)) (by decide +kernel))
  obtain ⟨zt, w1, w2⟩ := va_Tof (A := mh_A s.heap.size) (N := 0) (f := fun _ => .null) (by decide) (hs (.arrayOf (.static "java/util/ArrayList" "DEFAULTCAPACITY_EMPTY_ELEMENTDATA" "[Ljava/lang/Object;") (.object "java/lang/Object")) (by decide +kernel)) hlen (fun j hj => absurd hj (Nat.not_lt_zero j)) hA
  cases (z1.symm.trans w1)
  obtain ⟨mi, hmi⟩ := va_Mi.of (hs (.isRef (.mirror "[Ljava/lang/Object;")) (by decide +kernel))
  obtain ⟨s167, _, _, _, q167, -⟩ := Cond.exactly_spec (hs (.exactly (.string "MeldHost" 167) "java/lang/String") (by decide +kernel))
  obtain ⟨s46, _, _, _, q46, -⟩ := Cond.exactly_spec (hs (.exactly (.string "MeldHost" 46) "java/lang/String") (by decide +kernel))
  obtain ⟨s170, _, _, _, q170, -⟩ := Cond.exactly_spec (hs (.exactly (.string "MeldHost" 170) "java/lang/String") (by decide +kernel))
  obtain ⟨s186, _, _, _, q186, -⟩ := Cond.exactly_spec (hs (.exactly (.string "MeldHost" 186) "java/lang/String") (by decide +kernel))
  obtain ⟨s195, _, _, _, q195, -⟩ := Cond.exactly_spec (hs (.exactly (.string "MeldHost" 195) "java/lang/String") (by decide +kernel))
  obtain ⟨s96, _, _, _, q96, -⟩ := Cond.exactly_spec (hs (.exactly (.string "MeldHost" 96) "java/lang/String") (by decide +kernel))
  obtain ⟨s113, _, _, _, q113, -⟩ := Cond.exactly_spec (hs (.exactly (.string "MeldHost" 113) "java/lang/String") (by decide +kernel))
  obtain ⟨s141, _, _, _, q141, -⟩ := Cond.exactly_spec (hs (.exactly (.string "MeldHost" 141) "java/lang/String") (by decide +kernel))
  obtain ⟨s172, _, _, _, q172, -⟩ := Cond.exactly_spec (hs (.exactly (.string "MeldHost" 172) "java/lang/String") (by decide +kernel))
  refine ⟨(fun k => match k with | 0 => c0 | 1 => c1 | 2 => c2 | 3 => c3 | 4 => c4 | 5 => c5 | 6 => c6 | 7 => c7 | 8 => c8 | 9 => c9 | 10 => c10 | 11 => c11 | _ => c0), (fun k => match k with | 0 => i0 | 1 => i1 | 2 => i2 | 3 => i3 | 4 => i4 | 5 => i5 | 6 => i6 | 7 => i7 | 8 => i8 | 9 => i9 | 10 => i10 | 11 => i11 | _ => i0), (fun k => match k with | 0 => t0 | 1 => t1 | 2 => t2 | 3 => t3 | 4 => t4 | 5 => t5 | 6 => t6 | 7 => t7 | _ => t0), (fun k => match k with | 0 => za | 1 => mi | 167 => s167 | 46 => s46 | 170 => s170 | 186 => s186 | 195 => s195 | 96 => s96 | 113 => s113 | 141 => s141 | 172 => s172 | _ => za), ?_⟩
  refine ⟨fun x hx => va_Nw.of (mh_NW_on x hx) (hts x (mh_NW_tbl x hx)), ⟨fun k q hq => ?_, fun k q hq => ?_⟩, ⟨⟨va_AO.of (hts _ k526), va_AO.of (hts _ k60), va_AO.of (hts _ k114), va_AO.of (hts _ k116), va_AO.of (hts _ k651)⟩, ?_, ?_, hmi, mh_zl.of (hts _ k173) (hs _ (by decide +kernel)) (Nat.le_refl _), mh_zl.of (hts _ k175) (hs _ (by decide +kernel)) (Nat.le_refl _), va_Zof (hts _ k46) (hTB _ k4) z1 hA, w2, zcell, z3, z5, by rw [z6]; exact z2⟩, Nat.le_refl _, ⟨fun _ _ _ h => (by cases h), fun _ _ _ _ _ _ h => (by cases h)⟩⟩
  · match k, hq with
    | 0, hq => cases hq; exact K0
    | 1, hq => cases hq; exact K1
    | 2, hq => cases hq; exact K2
    | 3, hq => cases hq; exact K3
    | 4, hq => cases hq; exact K4
    | 5, hq => cases hq; exact K5
    | 6, hq => cases hq; exact K6
    | 7, hq => cases hq; exact K7
    | 8, hq => cases hq; exact K8
    | 9, hq => cases hq; exact K9
    | 10, hq => cases hq; exact K10
    | 11, hq => cases hq; exact K11
    | k + 12, hq => simp [classes] at hq
  · match k, hq with
    | 0, hq => cases hq; exact ⟨fun N z => ⟨fun k h => (by cases h), kk0, y0, m0, u0⟩, x0⟩
    | 1, hq => cases hq; exact ⟨fun N z => ⟨fun k h => (by cases h), kk1, y1, m1, u1⟩, x1⟩
    | 2, hq => cases hq; exact ⟨fun N z => ⟨fun k h => (by cases h), kk2, y2, m2, u2⟩, x2⟩
    | 3, hq => cases hq; exact ⟨fun N z => ⟨fun k h => (by cases h), kk3, g3c, m3, g3d⟩, kk3, m3, g3c, g3d, g3a, g3e⟩
    | 4, hq => cases hq; exact ⟨fun N z => ⟨fun k h => (by cases h), kk4, g4c, m4, g4d⟩, kk4, m4, g4c, g4d, g4a, g4e⟩
    | 5, hq => cases hq; exact ⟨fun N z => ⟨fun k h => (by cases h), kk5, g5c, m5, g5d⟩, kk5, m5, g5c, g5d, g5a, g5e⟩
    | 6, hq => cases hq; exact ⟨fun N z => ⟨fun k h => (by cases h), kk6, g6c, m6, g6d⟩, kk6, m6, g6c, g6d, g6a, g6e⟩
    | 7, hq => cases hq; exact ⟨fun N z => ⟨fun k h => (by cases h), kk7, g7c, m7, g7d⟩, kk7, m7, g7c, g7d, g7a, g7e⟩
    | k + 8, hq => simp [mh_tys] at hq
  · exact List.forall_mem_cons.mpr ⟨vk_R.of (hts _ k188) q167, List.forall_mem_cons.mpr ⟨vk_R.of (hts _ k224) q46, List.forall_mem_cons.mpr ⟨vk_R.of (hts _ k305) q170, List.forall_mem_cons.mpr ⟨vk_R.of (hts _ k338) q186, List.forall_mem_cons.mpr ⟨vk_R.of (hts _ k369) q195, List.forall_mem_cons.mpr ⟨vk_R.of (hts _ k414) q96, List.forall_mem_cons.mpr ⟨vk_R.of (hts _ k451) q113, List.forall_mem_cons.mpr ⟨vk_R.of (hts _ k570) q141, List.forall_mem_cons.mpr ⟨vk_R.of (hts _ k611) q172, fun _ h => absurd h List.not_mem_nil⟩⟩⟩⟩⟩⟩⟩⟩⟩
  · exact List.forall_mem_cons.mpr ⟨va_Nc.of (hs (.not (.castable "java/lang/IllegalArgumentException" "java/lang/IllegalStateException")) (by decide +kernel)), List.forall_mem_cons.mpr ⟨va_Nc.of (hs (.not (.castable "java/lang/IllegalArgumentException" "java/lang/IndexOutOfBoundsException")) (by decide +kernel)), List.forall_mem_cons.mpr ⟨va_Nc.of (hs (.not (.castable "java/lang/IllegalArgumentException" "java/lang/UnsupportedOperationException")) (by decide +kernel)), List.forall_mem_cons.mpr ⟨va_Nc.of (hs (.not (.castable "java/lang/IllegalStateException" "java/lang/IllegalArgumentException")) (by decide +kernel)), List.forall_mem_cons.mpr ⟨va_Nc.of (hs (.not (.castable "java/lang/IllegalStateException" "java/lang/IndexOutOfBoundsException")) (by decide +kernel)), List.forall_mem_cons.mpr ⟨va_Nc.of (hs (.not (.castable "java/lang/IllegalStateException" "java/lang/UnsupportedOperationException")) (by decide +kernel)), List.forall_mem_cons.mpr ⟨va_Nc.of (hs (.not (.castable "java/lang/IndexOutOfBoundsException" "java/lang/IllegalArgumentException")) (by decide +kernel)), List.forall_mem_cons.mpr ⟨va_Nc.of (hs (.not (.castable "java/lang/IndexOutOfBoundsException" "java/lang/IllegalStateException")) (by decide +kernel)), List.forall_mem_cons.mpr ⟨va_Nc.of (hs (.not (.castable "java/lang/IndexOutOfBoundsException" "java/lang/UnsupportedOperationException")) (by decide +kernel)), List.forall_mem_cons.mpr ⟨va_Nc.of (hs (.not (.castable "java/lang/UnsupportedOperationException" "java/lang/IllegalArgumentException")) (by decide +kernel)), List.forall_mem_cons.mpr ⟨va_Nc.of (hs (.not (.castable "java/lang/UnsupportedOperationException" "java/lang/IllegalStateException")) (by decide +kernel)), List.forall_mem_cons.mpr ⟨va_Nc.of (hs (.not (.castable "java/lang/UnsupportedOperationException" "java/lang/IndexOutOfBoundsException")) (by decide +kernel)), fun _ h => absurd h List.not_mem_nil⟩⟩⟩⟩⟩⟩⟩⟩⟩⟩⟩⟩
