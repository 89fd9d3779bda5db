-- ===== PART A: goes FIRST, ahead of the names: the tables' words, and 'selects' of the private methods out of them =====
/-- a private method of a class that the tables say can be made, by its rows of tables_1 -/
def lw_okq (q : MethodName × Nat) : Prop := (q.1.cls ≠ "java/lang/invoke/MethodHandle" ∧ q.1.cls ≠ "java/lang/invoke/VarHandle") ∧ Cond.instantiable q.1.cls q.2 ∈ tables_1 ∧ Cond.privateMethod q.1 ∈ tables_1 ∧ Cond.instanceMethod q.1 ∈ tables_1
theorem lw_p0 : lw_okq (⟨"java/lang/Throwable", "fillInStackTrace", "(I)Ljava/lang/Throwable;"⟩, 6) := ⟨⟨by decide +kernel, by decide +kernel⟩, List.mem_of_getElem? (i := 186) (by decide +kernel), List.mem_of_getElem? (i := 184) (by decide +kernel), List.mem_of_getElem? (i := 185) (by decide +kernel)⟩
theorem lw_p1 : lw_okq (⟨"MeldHost", "openDraft", "(I)LMeldHost$Intention;"⟩, 5) := ⟨⟨by decide +kernel, by decide +kernel⟩, List.mem_of_getElem? (i := 26) (by decide +kernel), List.mem_of_getElem? (i := 302) (by decide +kernel), List.mem_of_getElem? (i := 303) (by decide +kernel)⟩
theorem lw_p2 : lw_okq (⟨"MeldHost$Intention", "hasWritten", "(I)Z"⟩, 12) := ⟨⟨by decide +kernel, by decide +kernel⟩, List.mem_of_getElem? (i := 231) (by decide +kernel), List.mem_of_getElem? (i := 311) (by decide +kernel), List.mem_of_getElem? (i := 312) (by decide +kernel)⟩
theorem lw_p3 : lw_okq (⟨"MeldHost$Intention", "placeOf", "(I)I"⟩, 12) := ⟨⟨by decide +kernel, by decide +kernel⟩, List.mem_of_getElem? (i := 231) (by decide +kernel), List.mem_of_getElem? (i := 315) (by decide +kernel), List.mem_of_getElem? (i := 316) (by decide +kernel)⟩
theorem lw_p4 : lw_okq (⟨"MeldHost$Numbers", "howMany", "(II)I"⟩, 2) := ⟨⟨by decide +kernel, by decide +kernel⟩, List.mem_of_getElem? (i := 67) (by decide +kernel), List.mem_of_getElem? (i := 424) (by decide +kernel), List.mem_of_getElem? (i := 425) (by decide +kernel)⟩
theorem lw_p5 : lw_okq (⟨"MeldHost$Numbers", "sum", "(II)J"⟩, 2) := ⟨⟨by decide +kernel, by decide +kernel⟩, List.mem_of_getElem? (i := 67) (by decide +kernel), List.mem_of_getElem? (i := 429) (by decide +kernel), List.mem_of_getElem? (i := 430) (by decide +kernel)⟩
theorem lw_p6 : lw_okq (⟨"MeldHost$Numbers", "least", "(II)I"⟩, 2) := ⟨⟨by decide +kernel, by decide +kernel⟩, List.mem_of_getElem? (i := 67) (by decide +kernel), List.mem_of_getElem? (i := 433) (by decide +kernel), List.mem_of_getElem? (i := 434) (by decide +kernel)⟩
theorem lw_p7 : lw_okq (⟨"MeldHost$Numbers", "greatest", "(II)I"⟩, 2) := ⟨⟨by decide +kernel, by decide +kernel⟩, List.mem_of_getElem? (i := 67) (by decide +kernel), List.mem_of_getElem? (i := 437) (by decide +kernel), List.mem_of_getElem? (i := 438) (by decide +kernel)⟩
theorem lw_p8 : lw_okq (⟨"MeldHost", "canBeDone", "(LMeldHost$Intention;)Z"⟩, 5) := ⟨⟨by decide +kernel, by decide +kernel⟩, List.mem_of_getElem? (i := 26) (by decide +kernel), List.mem_of_getElem? (i := 453) (by decide +kernel), List.mem_of_getElem? (i := 454) (by decide +kernel)⟩
theorem lw_p9 : lw_okq (⟨"MeldHost$Intention", "hasRead", "(I)Z"⟩, 12) := ⟨⟨by decide +kernel, by decide +kernel⟩, List.mem_of_getElem? (i := 231) (by decide +kernel), List.mem_of_getElem? (i := 475) (by decide +kernel), List.mem_of_getElem? (i := 476) (by decide +kernel)⟩
theorem lw_p10 : lw_okq (⟨"java/util/ArrayList", "add", "(Ljava/lang/Object;[Ljava/lang/Object;I)V"⟩, 3) := ⟨⟨by decide +kernel, by decide +kernel⟩, List.mem_of_getElem? (i := 34) (by decide +kernel), List.mem_of_getElem? (i := 484) (by decide +kernel), List.mem_of_getElem? (i := 485) (by decide +kernel)⟩
theorem lw_p11 : lw_okq (⟨"java/util/ArrayList", "grow", "()[Ljava/lang/Object;"⟩, 3) := ⟨⟨by decide +kernel, by decide +kernel⟩, List.mem_of_getElem? (i := 34) (by decide +kernel), List.mem_of_getElem? (i := 488) (by decide +kernel), List.mem_of_getElem? (i := 489) (by decide +kernel)⟩
theorem lw_p12 : lw_okq (⟨"java/util/ArrayList", "grow", "(I)[Ljava/lang/Object;"⟩, 3) := ⟨⟨by decide +kernel, by decide +kernel⟩, List.mem_of_getElem? (i := 34) (by decide +kernel), List.mem_of_getElem? (i := 492) (by decide +kernel), List.mem_of_getElem? (i := 493) (by decide +kernel)⟩
theorem lw_p13 : lw_okq (⟨"MeldHost", "logged", "(I)LMeldHost$Intention;"⟩, 5) := ⟨⟨by decide +kernel, by decide +kernel⟩, List.mem_of_getElem? (i := 26) (by decide +kernel), List.mem_of_getElem? (i := 608) (by decide +kernel), List.mem_of_getElem? (i := 609) (by decide +kernel)⟩
theorem lw_p14 : lw_okq (⟨"MeldHost", "howManyOpen", "()I"⟩, 5) := ⟨⟨by decide +kernel, by decide +kernel⟩, List.mem_of_getElem? (i := 26) (by decide +kernel), List.mem_of_getElem? (i := 641) (by decide +kernel), List.mem_of_getElem? (i := 642) (by decide +kernel)⟩
theorem lw_p15 : lw_okq (⟨"MeldHostModel", "fails", "(ZI)Z"⟩, 8) := ⟨⟨by decide +kernel, by decide +kernel⟩, List.mem_of_getElem? (i := 645) (by decide +kernel), List.mem_of_getElem? (i := 747) (by decide +kernel), List.mem_of_getElem? (i := 748) (by decide +kernel)⟩
def lw_privs_1 : List (MethodName × Nat) := [(⟨"java/lang/Throwable", "fillInStackTrace", "(I)Ljava/lang/Throwable;"⟩, 6), (⟨"MeldHost", "openDraft", "(I)LMeldHost$Intention;"⟩, 5), (⟨"MeldHost$Intention", "hasWritten", "(I)Z"⟩, 12), (⟨"MeldHost$Intention", "placeOf", "(I)I"⟩, 12), (⟨"MeldHost$Numbers", "howMany", "(II)I"⟩, 2), (⟨"MeldHost$Numbers", "sum", "(II)J"⟩, 2), (⟨"MeldHost$Numbers", "least", "(II)I"⟩, 2), (⟨"MeldHost$Numbers", "greatest", "(II)I"⟩, 2), (⟨"MeldHost", "canBeDone", "(LMeldHost$Intention;)Z"⟩, 5), (⟨"MeldHost$Intention", "hasRead", "(I)Z"⟩, 12), (⟨"java/util/ArrayList", "add", "(Ljava/lang/Object;[Ljava/lang/Object;I)V"⟩, 3), (⟨"java/util/ArrayList", "grow", "()[Ljava/lang/Object;"⟩, 3), (⟨"java/util/ArrayList", "grow", "(I)[Ljava/lang/Object;"⟩, 3), (⟨"MeldHost", "logged", "(I)LMeldHost$Intention;"⟩, 5), (⟨"MeldHost", "howManyOpen", "()I"⟩, 5), (⟨"MeldHostModel", "fails", "(ZI)Z"⟩, 8)]
theorem lw_r1 : ∀ q ∈ lw_privs_1, lw_okq q := List.forall_mem_cons.mpr ⟨lw_p0, List.forall_mem_cons.mpr ⟨lw_p1, List.forall_mem_cons.mpr ⟨lw_p2, List.forall_mem_cons.mpr ⟨lw_p3, List.forall_mem_cons.mpr ⟨lw_p4, List.forall_mem_cons.mpr ⟨lw_p5, List.forall_mem_cons.mpr ⟨lw_p6, List.forall_mem_cons.mpr ⟨lw_p7, List.forall_mem_cons.mpr ⟨lw_p8, List.forall_mem_cons.mpr ⟨lw_p9, List.forall_mem_cons.mpr ⟨lw_p10, List.forall_mem_cons.mpr ⟨lw_p11, List.forall_mem_cons.mpr ⟨lw_p12, List.forall_mem_cons.mpr ⟨lw_p13, List.forall_mem_cons.mpr ⟨lw_p14, List.forall_mem_cons.mpr ⟨lw_p15, fun _ h => absurd h List.not_mem_nil⟩⟩⟩⟩⟩⟩⟩⟩⟩⟩⟩⟩⟩⟩⟩⟩
theorem lw_p16 : lw_okq (⟨"MeldHostModel", "shut", "(II)Z"⟩, 8) := ⟨⟨by decide +kernel, by decide +kernel⟩, List.mem_of_getElem? (i := 645) (by decide +kernel), List.mem_of_getElem? (i := 759) (by decide +kernel), List.mem_of_getElem? (i := 760) (by decide +kernel)⟩
theorem lw_p17 : lw_okq (⟨"MeldHostModel", "upTo", "(I)V"⟩, 8) := ⟨⟨by decide +kernel, by decide +kernel⟩, List.mem_of_getElem? (i := 645) (by decide +kernel), List.mem_of_getElem? (i := 767) (by decide +kernel), List.mem_of_getElem? (i := 768) (by decide +kernel)⟩
theorem lw_p18 : lw_okq (⟨"MeldHostModel", "apply", "(LMeldHostModel$Work;)V"⟩, 8) := ⟨⟨by decide +kernel, by decide +kernel⟩, List.mem_of_getElem? (i := 645) (by decide +kernel), List.mem_of_getElem? (i := 771) (by decide +kernel), List.mem_of_getElem? (i := 772) (by decide +kernel)⟩
theorem lw_p19 : lw_okq (⟨"MeldHostModel", "write", "(IIJZ)I"⟩, 8) := ⟨⟨by decide +kernel, by decide +kernel⟩, List.mem_of_getElem? (i := 645) (by decide +kernel), List.mem_of_getElem? (i := 779) (by decide +kernel), List.mem_of_getElem? (i := 780) (by decide +kernel)⟩
theorem lw_p20 : lw_okq (⟨"MeldHostModel", "told", "(III)J"⟩, 8) := ⟨⟨by decide +kernel, by decide +kernel⟩, List.mem_of_getElem? (i := 645) (by decide +kernel), List.mem_of_getElem? (i := 794) (by decide +kernel), List.mem_of_getElem? (i := 795) (by decide +kernel)⟩
theorem lw_p21 : lw_okq (⟨"MeldHostModel", "good", "(LMeldHostModel$Work;I)Z"⟩, 8) := ⟨⟨by decide +kernel, by decide +kernel⟩, List.mem_of_getElem? (i := 645) (by decide +kernel), List.mem_of_getElem? (i := 802) (by decide +kernel), List.mem_of_getElem? (i := 803) (by decide +kernel)⟩
def lw_privs_2 : List (MethodName × Nat) := [(⟨"MeldHostModel", "shut", "(II)Z"⟩, 8), (⟨"MeldHostModel", "upTo", "(I)V"⟩, 8), (⟨"MeldHostModel", "apply", "(LMeldHostModel$Work;)V"⟩, 8), (⟨"MeldHostModel", "write", "(IIJZ)I"⟩, 8), (⟨"MeldHostModel", "told", "(III)J"⟩, 8), (⟨"MeldHostModel", "good", "(LMeldHostModel$Work;I)Z"⟩, 8)]
theorem lw_r2 : ∀ q ∈ lw_privs_2, lw_okq q := List.forall_mem_cons.mpr ⟨lw_p16, List.forall_mem_cons.mpr ⟨lw_p17, List.forall_mem_cons.mpr ⟨lw_p18, List.forall_mem_cons.mpr ⟨lw_p19, List.forall_mem_cons.mpr ⟨lw_p20, List.forall_mem_cons.mpr ⟨lw_p21, fun _ h => absurd h List.not_mem_nil⟩⟩⟩⟩⟩⟩
def lw_privs : List (MethodName × Nat) := lw_privs_1 ++ (lw_privs_2)
def lw_tbl : List Cond := k2_sels lw_privs ++ tables_1
theorem lw_privs_ok : ∀ q ∈ lw_privs, lw_okq q := by
  show ∀ q ∈ lw_privs_1 ++ (lw_privs_2), lw_okq q
  exact List.forall_mem_append.mpr ⟨lw_r1, lw_r2⟩
/-! the words that stay under warmer tables; those that read the tables alone but are moved one by one -/
def mh_TB : List Cond := lw_tbl.filter goodWord
theorem mh_TB_good : ∀ w ∈ mh_TB, goodWord w = true := fun _ h => (List.mem_filter.mp h).2
theorem mh_TB_tbl : ∀ w ∈ mh_TB, w ∈ lw_tbl := fun _ h => (List.mem_filter.mp h).1
def mh_nf : Cond → Bool
  | .methodLinkNest .. => true
  | .fieldLinkNest .. => true
  | .declares .. => true
  | .castable .. => true
  | _ => false
def mh_NW : List Cond := lw_tbl.filter mh_nf
theorem mh_NW_tbl : ∀ w ∈ mh_NW, w ∈ lw_tbl := fun _ h => (List.mem_filter.mp h).1
theorem mh_nf_on {x : Cond} (h : mh_nf x = true) : x.onTables = true := by
  cases x <;> first | rfl | (simp [mh_nf] at h)
theorem mh_NW_on (x : Cond) (h : x ∈ mh_NW) : x.onTables = true := mh_nf_on (List.mem_filter.mp h).2
theorem mh_NW_warm {s U : State} (x : Cond) (h : x ∈ mh_NW) (hW : s.WarmedH U.vm) (hx : va_Nw x s) : va_Nw x U := by
  have h := (List.mem_filter.mp h).2
  cases x <;> first | exact va_Nw.warmF hW hx | exact va_Nw.warmM hW hx | exact va_Nw.warmC hW hx | exact va_Nw.warmD hW hx | (simp [mh_nf] at h)
theorem mh_in {w : Cond} (i : Nat) (h : tables_1[i]? = some w) (hg : goodWord w = true) : w ∈ mh_TB := List.mem_filter.mpr ⟨List.mem_append_right _ (List.mem_of_getElem? h), hg⟩
theorem mh_inN {w : Cond} (i : Nat) (h : tables_1[i]? = some w) (hg : mh_nf w = true) : w ∈ mh_NW := List.mem_filter.mpr ⟨List.mem_append_right _ (List.mem_of_getElem? h), hg⟩
theorem mh_t1 {w : Cond} (h : w ∈ tables_1_1) : w ∈ lw_tbl := List.mem_append_right _ (show w ∈ tables_1_1 ++ (tables_1_2 ++ (tables_1_3 ++ tables_1_4)) from List.mem_append_left _ h)
theorem mh_g1 {w : Cond} (i : Nat) (h : tables_1_1[i]? = some w) (hg : goodWord w = true) : w ∈ mh_TB := List.mem_filter.mpr ⟨mh_t1 (List.mem_of_getElem? h), hg⟩
theorem mh_n1 {w : Cond} (i : Nat) (h : tables_1_1[i]? = some w) (hg : mh_nf w = true) : w ∈ mh_NW := List.mem_filter.mpr ⟨mh_t1 (List.mem_of_getElem? h), hg⟩
theorem mh_t2 {w : Cond} (h : w ∈ tables_1_2) : w ∈ lw_tbl := List.mem_append_right _ (show w ∈ tables_1_1 ++ (tables_1_2 ++ (tables_1_3 ++ tables_1_4)) from List.mem_append_right _ (List.mem_append_left _ h))
theorem mh_g2 {w : Cond} (i : Nat) (h : tables_1_2[i]? = some w) (hg : goodWord w = true) : w ∈ mh_TB := List.mem_filter.mpr ⟨mh_t2 (List.mem_of_getElem? h), hg⟩
theorem mh_n2 {w : Cond} (i : Nat) (h : tables_1_2[i]? = some w) (hg : mh_nf w = true) : w ∈ mh_NW := List.mem_filter.mpr ⟨mh_t2 (List.mem_of_getElem? h), hg⟩
theorem mh_t3 {w : Cond} (h : w ∈ tables_1_3) : w ∈ lw_tbl := List.mem_append_right _ (show w ∈ tables_1_1 ++ (tables_1_2 ++ (tables_1_3 ++ tables_1_4)) from List.mem_append_right _ (List.mem_append_right _ (List.mem_append_left _ h)))
theorem mh_g3 {w : Cond} (i : Nat) (h : tables_1_3[i]? = some w) (hg : goodWord w = true) : w ∈ mh_TB := List.mem_filter.mpr ⟨mh_t3 (List.mem_of_getElem? h), hg⟩
theorem mh_n3 {w : Cond} (i : Nat) (h : tables_1_3[i]? = some w) (hg : mh_nf w = true) : w ∈ mh_NW := List.mem_filter.mpr ⟨mh_t3 (List.mem_of_getElem? h), hg⟩
theorem mh_t4 {w : Cond} (h : w ∈ tables_1_4) : w ∈ lw_tbl := List.mem_append_right _ (show w ∈ tables_1_1 ++ (tables_1_2 ++ (tables_1_3 ++ tables_1_4)) from List.mem_append_right _ (List.mem_append_right _ (List.mem_append_right _ h)))
theorem mh_g4 {w : Cond} (i : Nat) (h : tables_1_4[i]? = some w) (hg : goodWord w = true) : w ∈ mh_TB := List.mem_filter.mpr ⟨mh_t4 (List.mem_of_getElem? h), hg⟩
theorem mh_n4 {w : Cond} (i : Nat) (h : tables_1_4[i]? = some w) (hg : mh_nf w = true) : w ∈ mh_NW := List.mem_filter.mpr ⟨mh_t4 (List.mem_of_getElem? h), hg⟩
theorem mh_inP {w : Cond} (i : Nat) (h : (k2_sels lw_privs)[i]? = some w) (hg : goodWord w = true) : w ∈ mh_TB := List.mem_filter.mpr ⟨List.mem_append_left _ (List.mem_of_getElem? h), hg⟩
abbrev b_MH_init : ByteArray := prog_1_method_1_code
def y_MH_init : MethodName := ⟨"MeldHost", "<init>", "()V"⟩
abbrev b_AL_init : ByteArray := prog_25_method_2_code
def y_AL_init : MethodName := ⟨"java/util/ArrayList", "<init>", "()V"⟩
abbrev b_AB_init : ByteArray := prog_24_method_1_code
def y_AB_init : MethodName := ⟨"java/util/AbstractList", "<init>", "()V"⟩
abbrev b_AC_init : ByteArray := prog_23_method_1_code
def y_AC_init : MethodName := ⟨"java/util/AbstractCollection", "<init>", "()V"⟩
abbrev b_SV_init : ByteArray := prog_5_method_1_code
def y_SV_init : MethodName := ⟨"MeldHost$Server", "<init>", "()V"⟩
abbrev b_NU_init : ByteArray := prog_4_method_1_code
def y_NU_init : MethodName := ⟨"MeldHost$Numbers", "<init>", "()V"⟩
abbrev b_KS_init : ByteArray := prog_3_method_1_code
def y_KS_init : MethodName := ⟨"MeldHost$KeySet", "<init>", "()V"⟩
abbrev b_AR_fillI : ByteArray := prog_26_method_103_code
def y_AR_fillI : MethodName := ⟨"java/util/Arrays", "fill", "([II)V"⟩
abbrev b_LW_begin : ByteArray := method_3_code
def y_LW_begin : MethodName := ⟨"MeldHostLaw", "begin", "(LMeldHost;III)I"⟩
abbrev b_MH_begin : ByteArray := prog_1_method_2_code
def y_MH_begin : MethodName := ⟨"MeldHost", "begin", "(III)V"⟩
abbrev b_MH_needBelow : ByteArray := prog_1_method_16_code
def y_MH_needBelow : MethodName := ⟨"MeldHost", "needBelow", "(II)V"⟩
abbrev b_IN_init : ByteArray := prog_2_method_1_code
def y_IN_init : MethodName := ⟨"MeldHost$Intention", "<init>", "(III)V"⟩
abbrev b_NU_copyFrom : ByteArray := prog_4_method_5_code
def y_NU_copyFrom : MethodName := ⟨"MeldHost$Numbers", "copyFrom", "(LMeldHost$Numbers;)V"⟩
abbrev b_KS_copyFrom : ByteArray := prog_3_method_6_code
def y_KS_copyFrom : MethodName := ⟨"MeldHost$KeySet", "copyFrom", "(LMeldHost$KeySet;)V"⟩
abbrev b_LW_get : ByteArray := method_4_code
def y_LW_get : MethodName := ⟨"MeldHostLaw", "get", "(LMeldHost;II[J)I"⟩
abbrev b_MH_get : ByteArray := prog_1_method_3_code
def y_MH_get : MethodName := ⟨"MeldHost", "get", "(II)J"⟩
abbrev b_MH_openDraft : ByteArray := prog_1_method_18_code
def y_MH_openDraft : MethodName := ⟨"MeldHost", "openDraft", "(I)LMeldHost$Intention;"⟩
abbrev b_IN_readKey : ByteArray := prog_2_method_2_code
def y_IN_readKey : MethodName := ⟨"MeldHost$Intention", "readKey", "(I)V"⟩
abbrev b_IN_hasWritten : ByteArray := prog_2_method_7_code
def y_IN_hasWritten : MethodName := ⟨"MeldHost$Intention", "hasWritten", "(I)Z"⟩
abbrev b_IN_placeOf : ByteArray := prog_2_method_6_code
def y_IN_placeOf : MethodName := ⟨"MeldHost$Intention", "placeOf", "(I)I"⟩
abbrev b_KS_add : ByteArray := prog_3_method_3_code
def y_KS_add : MethodName := ⟨"MeldHost$KeySet", "add", "(I)V"⟩
abbrev b_MH_numberIn : ByteArray := prog_1_method_20_code
def y_MH_numberIn : MethodName := ⟨"MeldHost", "numberIn", "(LMeldHost$Numbers;I)J"⟩
abbrev b_KS_has : ByteArray := prog_3_method_2_code
def y_KS_has : MethodName := ⟨"MeldHost$KeySet", "has", "(I)Z"⟩
abbrev b_LW_put : ByteArray := method_5_code
def y_LW_put : MethodName := ⟨"MeldHostLaw", "put", "(LMeldHost;IIJ[J)I"⟩
abbrev b_MH_put : ByteArray := prog_1_method_4_code
def y_MH_put : MethodName := ⟨"MeldHost", "put", "(IIJ)I"⟩
abbrev b_MH_writeKey : ByteArray := prog_1_method_21_code
def y_MH_writeKey : MethodName := ⟨"MeldHost", "writeKey", "(LMeldHost$Intention;IZJ)I"⟩
abbrev b_IN_hasRoomFor : ByteArray := prog_2_method_4_code
def y_IN_hasRoomFor : MethodName := ⟨"MeldHost$Intention", "hasRoomFor", "(I)Z"⟩
abbrev b_IN_write : ByteArray := prog_2_method_5_code
def y_IN_write : MethodName := ⟨"MeldHost$Intention", "write", "(IZJ)V"⟩
abbrev b_MA_max : ByteArray := prog_17_method_65_code
def y_MA_max : MethodName := ⟨"java/lang/Math", "max", "(II)I"⟩
abbrev b_NU_give : ByteArray := prog_4_method_2_code
def y_NU_give : MethodName := ⟨"MeldHost$Numbers", "give", "(IJ)V"⟩
abbrev b_LW_delete : ByteArray := method_6_code
def y_LW_delete : MethodName := ⟨"MeldHostLaw", "delete", "(LMeldHost;II[J)I"⟩
abbrev b_MH_delete : ByteArray := prog_1_method_5_code
def y_MH_delete : MethodName := ⟨"MeldHost", "delete", "(II)I"⟩
abbrev b_NU_take : ByteArray := prog_4_method_3_code
def y_NU_take : MethodName := ⟨"MeldHost$Numbers", "take", "(I)V"⟩
abbrev b_KS_drop : ByteArray := prog_3_method_4_code
def y_KS_drop : MethodName := ⟨"MeldHost$KeySet", "drop", "(I)V"⟩
abbrev b_LW_part : ByteArray := method_7_code
def y_LW_part : MethodName := ⟨"MeldHostLaw", "part", "(LMeldHost;IIII[J)I"⟩
abbrev b_MH_part : ByteArray := prog_1_method_6_code
def y_MH_part : MethodName := ⟨"MeldHost", "part", "(IIII)J"⟩
abbrev b_MH_needPart : ByteArray := prog_1_method_17_code
def y_MH_needPart : MethodName := ⟨"MeldHost", "needPart", "(III)V"⟩
abbrev b_IN_readPart : ByteArray := prog_2_method_3_code
def y_IN_readPart : MethodName := ⟨"MeldHost$Intention", "readPart", "(II)V"⟩
abbrev b_NU_tell : ByteArray := prog_4_method_6_code
def y_NU_tell : MethodName := ⟨"MeldHost$Numbers", "tell", "(III)J"⟩
abbrev b_NU_howMany : ByteArray := prog_4_method_7_code
def y_NU_howMany : MethodName := ⟨"MeldHost$Numbers", "howMany", "(II)I"⟩
abbrev b_NU_sum : ByteArray := prog_4_method_8_code
def y_NU_sum : MethodName := ⟨"MeldHost$Numbers", "sum", "(II)J"⟩
abbrev b_NU_least : ByteArray := prog_4_method_9_code
def y_NU_least : MethodName := ⟨"MeldHost$Numbers", "least", "(II)I"⟩
abbrev b_NU_greatest : ByteArray := prog_4_method_10_code
def y_NU_greatest : MethodName := ⟨"MeldHost$Numbers", "greatest", "(II)I"⟩
abbrev b_LW_commit : ByteArray := method_8_code
def y_LW_commit : MethodName := ⟨"MeldHostLaw", "commit", "(LMeldHost;I[J)I"⟩
abbrev b_MH_commit : ByteArray := prog_1_method_7_code
def y_MH_commit : MethodName := ⟨"MeldHost", "commit", "(I)I"⟩
abbrev b_AL_size : ByteArray := prog_25_method_8_code
def y_AL_size : MethodName := ⟨"java/util/ArrayList", "size", "()I"⟩
abbrev b_MH_canBeDone : ByteArray := prog_1_method_22_code
def y_MH_canBeDone : MethodName := ⟨"MeldHost", "canBeDone", "(LMeldHost$Intention;)Z"⟩
abbrev b_AL_get : ByteArray := prog_25_method_20_code
def y_AL_get : MethodName := ⟨"java/util/ArrayList", "get", "(I)Ljava/lang/Object;"⟩
abbrev b_OB_checkIndex : ByteArray := prog_29_method_17_code
def y_OB_checkIndex : MethodName := ⟨"java/util/Objects", "checkIndex", "(II)I"⟩
abbrev b_PR_checkIndex : ByteArray := prog_33_method_11_code
def y_PR_checkIndex : MethodName := ⟨"jdk/internal/util/Preconditions", "checkIndex", "(IILjava/util/function/BiFunction;)I"⟩
abbrev b_AL_elementData : ByteArray := prog_25_method_18_code
def y_AL_elementData : MethodName := ⟨"java/util/ArrayList", "elementData", "(I)Ljava/lang/Object;"⟩
abbrev b_IN_isHitBy : ByteArray := prog_2_method_9_code
def y_IN_isHitBy : MethodName := ⟨"MeldHost$Intention", "isHitBy", "(LMeldHost$Intention;)Z"⟩
abbrev b_IN_hasRead : ByteArray := prog_2_method_8_code
def y_IN_hasRead : MethodName := ⟨"MeldHost$Intention", "hasRead", "(I)Z"⟩
abbrev b_AL_add1 : ByteArray := prog_25_method_25_code
def y_AL_add1 : MethodName := ⟨"java/util/ArrayList", "add", "(Ljava/lang/Object;)Z"⟩
abbrev b_AL_add3 : ByteArray := prog_25_method_24_code
def y_AL_add3 : MethodName := ⟨"java/util/ArrayList", "add", "(Ljava/lang/Object;[Ljava/lang/Object;I)V"⟩
abbrev b_AL_grow0 : ByteArray := prog_25_method_7_code
def y_AL_grow0 : MethodName := ⟨"java/util/ArrayList", "grow", "()[Ljava/lang/Object;"⟩
abbrev b_AL_grow1 : ByteArray := prog_25_method_6_code
def y_AL_grow1 : MethodName := ⟨"java/util/ArrayList", "grow", "(I)[Ljava/lang/Object;"⟩
abbrev b_AS_newLength : ByteArray := prog_32_method_27_code
def y_AS_newLength : MethodName := ⟨"jdk/internal/util/ArraysSupport", "newLength", "(III)I"⟩
abbrev b_AS_hugeLength : ByteArray := prog_32_method_28_code
def y_AS_hugeLength : MethodName := ⟨"jdk/internal/util/ArraysSupport", "hugeLength", "(II)I"⟩
abbrev b_AR_copyOf2 : ByteArray := prog_26_method_119_code
def y_AR_copyOf2 : MethodName := ⟨"java/util/Arrays", "copyOf", "([Ljava/lang/Object;I)[Ljava/lang/Object;"⟩
abbrev b_AR_copyOf3 : ByteArray := prog_26_method_120_code
def y_AR_copyOf3 : MethodName := ⟨"java/util/Arrays", "copyOf", "([Ljava/lang/Object;ILjava/lang/Class;)[Ljava/lang/Object;"⟩
abbrev b_MA_min : ByteArray := prog_17_method_69_code
def y_MA_min : MethodName := ⟨"java/lang/Math", "min", "(II)I"⟩
abbrev b_LW_abort : ByteArray := method_9_code
def y_LW_abort : MethodName := ⟨"MeldHostLaw", "abort", "(LMeldHost;I)I"⟩
abbrev b_MH_abort : ByteArray := prog_1_method_8_code
def y_MH_abort : MethodName := ⟨"MeldHost", "abort", "(I)V"⟩
abbrev b_LW_advance : ByteArray := method_10_code
def y_LW_advance : MethodName := ⟨"MeldHostLaw", "advance", "(LMeldHost;II[J)I"⟩
abbrev b_MH_advance : ByteArray := prog_1_method_9_code
def y_MH_advance : MethodName := ⟨"MeldHost", "advance", "(II)I"⟩
abbrev b_SV_goThrough : ByteArray := prog_5_method_2_code
def y_SV_goThrough : MethodName := ⟨"MeldHost$Server", "goThrough", "(LMeldHost$Intention;)V"⟩
abbrev b_IN_writeInto : ByteArray := prog_2_method_10_code
def y_IN_writeInto : MethodName := ⟨"MeldHost$Intention", "writeInto", "(LMeldHost$Numbers;)V"⟩
abbrev b_IN_signInto : ByteArray := prog_2_method_11_code
def y_IN_signInto : MethodName := ⟨"MeldHost$Intention", "signInto", "([II)V"⟩
abbrev b_LW_restart : ByteArray := method_11_code
def y_LW_restart : MethodName := ⟨"MeldHostLaw", "restart", "(LMeldHost;I)I"⟩
abbrev b_MH_restart : ByteArray := prog_1_method_10_code
def y_MH_restart : MethodName := ⟨"MeldHost", "restart", "(I)V"⟩
abbrev b_SV_startOver : ByteArray := prog_5_method_3_code
def y_SV_startOver : MethodName := ⟨"MeldHost$Server", "startOver", "()V"⟩
abbrev b_NU_takeAll : ByteArray := prog_4_method_4_code
def y_NU_takeAll : MethodName := ⟨"MeldHost$Numbers", "takeAll", "()V"⟩
abbrev b_KS_dropAll : ByteArray := prog_3_method_5_code
def y_KS_dropAll : MethodName := ⟨"MeldHost$KeySet", "dropAll", "()V"⟩
abbrev b_AR_fillJ : ByteArray := prog_26_method_101_code
def y_AR_fillJ : MethodName := ⟨"java/util/Arrays", "fill", "([JJ)V"⟩
abbrev b_LW_state : ByteArray := method_12_code
def y_LW_state : MethodName := ⟨"MeldHostLaw", "state", "(LMeldHost;II[J)I"⟩
abbrev b_MH_state : ByteArray := prog_1_method_11_code
def y_MH_state : MethodName := ⟨"MeldHost", "state", "(II)J"⟩
abbrev b_LW_look : ByteArray := method_13_code
def y_LW_look : MethodName := ⟨"MeldHostLaw", "look", "(LMeldHost;IIII[J)I"⟩
abbrev b_MH_look : ByteArray := prog_1_method_12_code
def y_MH_look : MethodName := ⟨"MeldHost", "look", "(IIII)J"⟩
abbrev b_LW_verdict : ByteArray := method_14_code
def y_LW_verdict : MethodName := ⟨"MeldHostLaw", "verdict", "(LMeldHost;II[J)I"⟩
abbrev b_MH_verdict : ByteArray := prog_1_method_13_code
def y_MH_verdict : MethodName := ⟨"MeldHost", "verdict", "(II)I"⟩
abbrev b_MH_logged : ByteArray := prog_1_method_19_code
def y_MH_logged : MethodName := ⟨"MeldHost", "logged", "(I)LMeldHost$Intention;"⟩
abbrev b_LW_intention : ByteArray := method_15_code
def y_LW_intention : MethodName := ⟨"MeldHostLaw", "intention", "(LMeldHost;II[J)I"⟩
abbrev b_MH_intention : ByteArray := prog_1_method_14_code
def y_MH_intention : MethodName := ⟨"MeldHost", "intention", "(II)I"⟩
abbrev b_IN_tell : ByteArray := prog_2_method_12_code
def y_IN_tell : MethodName := ⟨"MeldHost$Intention", "tell", "(I)I"⟩
abbrev b_KS_size : ByteArray := prog_3_method_7_code
def y_KS_size : MethodName := ⟨"MeldHost$KeySet", "size", "()I"⟩
abbrev b_LG_bitCount : ByteArray := prog_16_method_50_code
def y_LG_bitCount : MethodName := ⟨"java/lang/Long", "bitCount", "(J)I"⟩
abbrev b_LW_count : ByteArray := method_16_code
def y_LW_count : MethodName := ⟨"MeldHostLaw", "count", "(LMeldHost;III[J)I"⟩
abbrev b_MH_count : ByteArray := prog_1_method_15_code
def y_MH_count : MethodName := ⟨"MeldHost", "count", "(III)I"⟩
abbrev b_MH_howManyOpen : ByteArray := prog_1_method_23_code
def y_MH_howManyOpen : MethodName := ⟨"MeldHost", "howManyOpen", "()I"⟩
abbrev b_MM_init : ByteArray := prog_7_method_1_code
def y_MM_init : MethodName := ⟨"MeldHostModel", "<init>", "()V"⟩
abbrev b_WK_init : ByteArray := prog_8_method_1_code
def y_WK_init : MethodName := ⟨"MeldHostModel$Work", "<init>", "()V"⟩
abbrev b_MM_thrown : ByteArray := prog_7_method_2_code
def y_MM_thrown : MethodName := ⟨"MeldHostModel", "thrown", "()I"⟩
abbrev b_MM_begin : ByteArray := prog_7_method_8_code
def y_MM_begin : MethodName := ⟨"MeldHostModel", "begin", "(III)V"⟩
abbrev b_MM_in : ByteArray := prog_7_method_4_code
def y_MM_in : MethodName := ⟨"MeldHostModel", "in", "(II)Z"⟩
abbrev b_MM_fails : ByteArray := prog_7_method_3_code
def y_MM_fails : MethodName := ⟨"MeldHostModel", "fails", "(ZI)Z"⟩
abbrev b_WK_clear : ByteArray := prog_8_method_2_code
def y_WK_clear : MethodName := ⟨"MeldHostModel$Work", "clear", "()V"⟩
abbrev b_MM_get : ByteArray := prog_7_method_10_code
def y_MM_get : MethodName := ⟨"MeldHostModel", "get", "(II)J"⟩
abbrev b_MM_shut : ByteArray := prog_7_method_9_code
def y_MM_shut : MethodName := ⟨"MeldHostModel", "shut", "(II)Z"⟩
abbrev b_WK_written : ByteArray := prog_8_method_3_code
def y_WK_written : MethodName := ⟨"MeldHostModel$Work", "written", "(I)I"⟩
abbrev b_MM_upTo : ByteArray := prog_7_method_5_code
def y_MM_upTo : MethodName := ⟨"MeldHostModel", "upTo", "(I)V"⟩
abbrev b_MM_apply : ByteArray := prog_7_method_6_code
def y_MM_apply : MethodName := ⟨"MeldHostModel", "apply", "(LMeldHostModel$Work;)V"⟩
abbrev b_MM_put : ByteArray := prog_7_method_12_code
def y_MM_put : MethodName := ⟨"MeldHostModel", "put", "(IIJ)I"⟩
abbrev b_MM_write : ByteArray := prog_7_method_11_code
def y_MM_write : MethodName := ⟨"MeldHostModel", "write", "(IIJZ)I"⟩
abbrev b_MM_delete : ByteArray := prog_7_method_13_code
def y_MM_delete : MethodName := ⟨"MeldHostModel", "delete", "(II)I"⟩
abbrev b_MM_part : ByteArray := prog_7_method_15_code
def y_MM_part : MethodName := ⟨"MeldHostModel", "part", "(IIII)J"⟩
abbrev b_MM_bad : ByteArray := prog_7_method_14_code
def y_MM_bad : MethodName := ⟨"MeldHostModel", "bad", "(III)Z"⟩
abbrev b_MM_told : ByteArray := prog_7_method_7_code
def y_MM_told : MethodName := ⟨"MeldHostModel", "told", "(III)J"⟩
abbrev b_MM_commit : ByteArray := prog_7_method_17_code
def y_MM_commit : MethodName := ⟨"MeldHostModel", "commit", "(I)I"⟩
abbrev b_MM_good : ByteArray := prog_7_method_16_code
def y_MM_good : MethodName := ⟨"MeldHostModel", "good", "(LMeldHostModel$Work;I)Z"⟩
abbrev b_MM_abort : ByteArray := prog_7_method_18_code
def y_MM_abort : MethodName := ⟨"MeldHostModel", "abort", "(I)V"⟩
abbrev b_MM_advance : ByteArray := prog_7_method_19_code
def y_MM_advance : MethodName := ⟨"MeldHostModel", "advance", "(II)I"⟩
abbrev b_MM_restart : ByteArray := prog_7_method_20_code
def y_MM_restart : MethodName := ⟨"MeldHostModel", "restart", "(I)V"⟩
abbrev b_MM_state : ByteArray := prog_7_method_21_code
def y_MM_state : MethodName := ⟨"MeldHostModel", "state", "(II)J"⟩
abbrev b_MM_look : ByteArray := prog_7_method_22_code
def y_MM_look : MethodName := ⟨"MeldHostModel", "look", "(IIII)J"⟩
abbrev b_MM_verdict : ByteArray := prog_7_method_23_code
def y_MM_verdict : MethodName := ⟨"MeldHostModel", "verdict", "(II)I"⟩
abbrev b_MM_intention : ByteArray := prog_7_method_24_code
def y_MM_intention : MethodName := ⟨"MeldHostModel", "intention", "(II)I"⟩
abbrev b_MM_count : ByteArray := prog_7_method_25_code
def y_MM_count : MethodName := ⟨"MeldHostModel", "count", "(III)I"⟩
