section
-- ===== PART A: goes FIRST, ahead of the names: the tables' words, and 'selects' of the private methods out of them =====
/-- a private method of a class that the tables say can be made, by its rows of tables_1 -/
def lw_okq (q : MethodName × Nat) : Prop := (q.1.cls ≠ "java/lang/invoke/MethodHandle" ∧ q.1.cls ≠ "java/lang/invoke/VarHandle") ∧ Cond.instantiable q.1.cls q.2 ∈ tables_1 ∧ Cond.privateMethod q.1 ∈ tables_1 ∧ Cond.instanceMethod q.1 ∈ tables_1
theorem lw_p0 : lw_okq (⟨"java/lang/Throwable", "fillInStackTrace", "(I)Ljava/lang/Throwable;"⟩, 6) := ⟨⟨by decide +kernel, by decide +kernel⟩, List.mem_of_getElem? (i := 186) (by decide +kernel), List.mem_of_getElem? (i := 184) (by decide +kernel), List.mem_of_getElem? (i := 185) (by decide +kernel)⟩
theorem lw_p1 : lw_okq (⟨"MeldHost", "openDraft", "(I)LMeldHost$Intention;"⟩, 5) := ⟨⟨by decide +kernel, by decide +kernel⟩, List.mem_of_getElem? (i := 26) (by decide +kernel), List.mem_of_getElem? (i := 302) (by decide +kernel), List.mem_of_getElem? (i := 303) (by decide +kernel)⟩
theorem lw_p2 : lw_okq (⟨"MeldHost$Intention", "hasWritten", "(I)Z"⟩, 12) := ⟨⟨by decide +kernel, by decide +kernel⟩, List.mem_of_getElem? (i := 231) (by decide +kernel), List.mem_of_getElem? (i := 311) (by decide +kernel), List.mem_of_getElem? (i := 312) (by decide +kernel)⟩
theorem lw_p3 : lw_okq (⟨"MeldHost$Intention", "placeOf", "(I)I"⟩, 12) := ⟨⟨by decide +kernel, by decide +kernel⟩, List.mem_of_getElem? (i := 231) (by decide +kernel), List.mem_of_getElem? (i := 315) (by decide +kernel), List.mem_of_getElem? (i := 316) (by decide +kernel)⟩
theorem lw_p4 : lw_okq (⟨"MeldHost$Numbers", "howMany", "(II)I"⟩, 2) := ⟨⟨by decide +kernel, by decide +kernel⟩, List.mem_of_getElem? (i := 67) (by decide +kernel), List.mem_of_getElem? (i := 424) (by decide +kernel), List.mem_of_getElem? (i := 425) (by decide +kernel)⟩
theorem lw_p5 : lw_okq (⟨"MeldHost$Numbers", "sum", "(II)J"⟩, 2) := ⟨⟨by decide +kernel, by decide +kernel⟩, List.mem_of_getElem? (i := 67) (by decide +kernel), List.mem_of_getElem? (i := 429) (by decide +kernel), List.mem_of_getElem? (i := 430) (by decide +kernel)⟩
theorem lw_p6 : lw_okq (⟨"MeldHost$Numbers", "least", "(II)I"⟩, 2) := ⟨⟨by decide +kernel, by decide +kernel⟩, List.mem_of_getElem? (i := 67) (by decide +kernel), List.mem_of_getElem? (i := 433) (by decide +kernel), List.mem_of_getElem? (i := 434) (by decide +kernel)⟩
theorem lw_p7 : lw_okq (⟨"MeldHost$Numbers", "greatest", "(II)I"⟩, 2) := ⟨⟨by decide +kernel, by decide +kernel⟩, List.mem_of_getElem? (i := 67) (by decide +kernel), List.mem_of_getElem? (i := 437) (by decide +kernel), List.mem_of_getElem? (i := 438) (by decide +kernel)⟩
theorem lw_p8 : lw_okq (⟨"MeldHost", "canBeDone", "(LMeldHost$Intention;)Z"⟩, 5) := ⟨⟨by decide +kernel, by decide +kernel⟩, List.mem_of_getElem? (i := 26) (by decide +kernel), List.mem_of_getElem? (i := 453) (by decide +kernel), List.mem_of_getElem? (i := 454) (by decide +kernel)⟩
theorem lw_p9 : lw_okq (⟨"MeldHost$Intention", "hasRead", "(I)Z"⟩, 12) := ⟨⟨by decide +kernel, by decide +kernel⟩, List.mem_of_getElem? (i := 231) (by decide +kernel), List.mem_of_getElem? (i := 475) (by decide +kernel), List.mem_of_getElem? (i := 476) (by decide +kernel)⟩
theorem lw_p10 : lw_okq (⟨"java/util/ArrayList", "add", "(Ljava/lang/Object;[Ljava/lang/Object;I)V"⟩, 3) := ⟨⟨by decide +kernel, by decide +kernel⟩, List.mem_of_getElem? (i := 34) (by decide +kernel), List.mem_of_getElem? (i := 484) (by decide +kernel), List.mem_of_getElem? (i := 485) (by decide +kernel)⟩
theorem lw_p11 : lw_okq (⟨"java/util/ArrayList", "grow", "()[Ljava/lang/Object;"⟩, 3) := ⟨⟨by decide +kernel, by decide +kernel⟩, List.mem_of_getElem? (i := 34) (by decide +kernel), List.mem_of_getElem? (i := 488) (by decide +kernel), List.mem_of_getElem? (i := 489) (by decide +kernel)⟩
theorem lw_p12 : lw_okq (⟨"java/util/ArrayList", "grow", "(I)[Ljava/lang/Object;"⟩, 3) := ⟨⟨by decide +kernel, by decide +kernel⟩, List.mem_of_getElem? (i := 34) (by decide +kernel), List.mem_of_getElem? (i := 492) (by decide +kernel), List.mem_of_getElem? (i := 493) (by decide +kernel)⟩
theorem lw_p13 : lw_okq (⟨"MeldHost", "logged", "(I)LMeldHost$Intention;"⟩, 5) := ⟨⟨by decide +kernel, by decide +kernel⟩, List.mem_of_getElem? (i := 26) (by decide +kernel), List.mem_of_getElem? (i := 608) (by decide +kernel), List.mem_of_getElem? (i := 609) (by decide +kernel)⟩
theorem lw_p14 : lw_okq (⟨"MeldHost", "howManyOpen", "()I"⟩, 5) := ⟨⟨by decide +kernel, by decide +kernel⟩, List.mem_of_getElem? (i := 26) (by decide +kernel), List.mem_of_getElem? (i := 641) (by decide +kernel), List.mem_of_getElem? (i := 642) (by decide +kernel)⟩
theorem lw_p15 : lw_okq (⟨"MeldHostModel", "fails", "(ZI)Z"⟩, 8) := ⟨⟨by decide +kernel, by decide +kernel⟩, List.mem_of_getElem? (i := 645) (by decide +kernel), List.mem_of_getElem? (i := 747) (by decide +kernel), List.mem_of_getElem? (i := 748) (by decide +kernel)⟩
def lw_privs_1 : List (MethodName × Nat) := [(⟨"java/lang/Throwable", "fillInStackTrace", "(I)Ljava/lang/Throwable;"⟩, 6), (⟨"MeldHost", "openDraft", "(I)LMeldHost$Intention;"⟩, 5), (⟨"MeldHost$Intention", "hasWritten", "(I)Z"⟩, 12), (⟨"MeldHost$Intention", "placeOf", "(I)I"⟩, 12), (⟨"MeldHost$Numbers", "howMany", "(II)I"⟩, 2), (⟨"MeldHost$Numbers", "sum", "(II)J"⟩, 2), (⟨"MeldHost$Numbers", "least", "(II)I"⟩, 2), (⟨"MeldHost$Numbers", "greatest", "(II)I"⟩, 2), (⟨"MeldHost", "canBeDone", "(LMeldHost$Intention;)Z"⟩, 5), (⟨"MeldHost$Intention", "hasRead", "(I)Z"⟩, 12), (⟨"java/util/ArrayList", "add", "(Ljava/lang/Object;[Ljava/lang/Object;I)V"⟩, 3), (⟨"java/util/ArrayList", "grow", "()[Ljava/lang/Object;"⟩, 3), (⟨"java/util/ArrayList", "grow", "(I)[Ljava/lang/Object;"⟩, 3), (⟨"MeldHost", "logged", "(I)LMeldHost$Intention;"⟩, 5), (⟨"MeldHost", "howManyOpen", "()I"⟩, 5), (⟨"MeldHostModel", "fails", "(ZI)Z"⟩, 8)]
theorem lw_r1 : ∀ q ∈ lw_privs_1, lw_okq q := List.forall_mem_cons.mpr ⟨lw_p0, List.forall_mem_cons.mpr ⟨lw_p1, List.forall_mem_cons.mpr ⟨lw_p2, List.forall_mem_cons.mpr ⟨lw_p3, List.forall_mem_cons.mpr ⟨lw_p4, List.forall_mem_cons.mpr ⟨lw_p5, List.forall_mem_cons.mpr ⟨lw_p6, List.forall_mem_cons.mpr ⟨lw_p7, List.forall_mem_cons.mpr ⟨lw_p8, List.forall_mem_cons.mpr ⟨lw_p9, List.forall_mem_cons.mpr ⟨lw_p10, List.forall_mem_cons.mpr ⟨lw_p11, List.forall_mem_cons.mpr ⟨lw_p12, List.forall_mem_cons.mpr ⟨lw_p13, List.forall_mem_cons.mpr ⟨lw_p14, List.forall_mem_cons.mpr ⟨lw_p15, fun _ h => absurd h List.not_mem_nil⟩⟩⟩⟩⟩⟩⟩⟩⟩⟩⟩⟩⟩⟩⟩⟩
theorem lw_p16 : lw_okq (⟨"MeldHostModel", "shut", "(II)Z"⟩, 8) := ⟨⟨by decide +kernel, by decide +kernel⟩, List.mem_of_getElem? (i := 645) (by decide +kernel), List.mem_of_getElem? (i := 759) (by decide +kernel), List.mem_of_getElem? (i := 760) (by decide +kernel)⟩
theorem lw_p17 : lw_okq (⟨"MeldHostModel", "upTo", "(I)V"⟩, 8) := ⟨⟨by decide +kernel, by decide +kernel⟩, List.mem_of_getElem? (i := 645) (by decide +kernel), List.mem_of_getElem? (i := 767) (by decide +kernel), List.mem_of_getElem? (i := 768) (by decide +kernel)⟩
theorem lw_p18 : lw_okq (⟨"MeldHostModel", "apply", "(LMeldHostModel$Work;)V"⟩, 8) := ⟨⟨by decide +kernel, by decide +kernel⟩, List.mem_of_getElem? (i := 645) (by decide +kernel), List.mem_of_getElem? (i := 771) (by decide +kernel), List.mem_of_getElem? (i := 772) (by decide +kernel)⟩
theorem lw_p19 : lw_okq (⟨"MeldHostModel", "write", "(IIJZ)I"⟩, 8) := ⟨⟨by decide +kernel, by decide +kernel⟩, List.mem_of_getElem? (i := 645) (by decide +kernel), List.mem_of_getElem? (i := 779) (by decide +kernel), List.mem_of_getElem? (i := 780) (by decide +kernel)⟩
theorem lw_p20 : lw_okq (⟨"MeldHostModel", "told", "(III)J"⟩, 8) := ⟨⟨by decide +kernel, by decide +kernel⟩, List.mem_of_getElem? (i := 645) (by decide +kernel), List.mem_of_getElem? (i := 794) (by decide +kernel), List.mem_of_getElem? (i := 795) (by decide +kernel)⟩
theorem lw_p21 : lw_okq (⟨"MeldHostModel", "good", "(LMeldHostModel$Work;I)Z"⟩, 8) := ⟨⟨by decide +kernel, by decide +kernel⟩, List.mem_of_getElem? (i := 645) (by decide +kernel), List.mem_of_getElem? (i := 802) (by decide +kernel), List.mem_of_getElem? (i := 803) (by decide +kernel)⟩
def lw_privs_2 : List (MethodName × Nat) := [(⟨"MeldHostModel", "shut", "(II)Z"⟩, 8), (⟨"MeldHostModel", "upTo", "(I)V"⟩, 8), (⟨"MeldHostModel", "apply", "(LMeldHostModel$Work;)V"⟩, 8), (⟨"MeldHostModel", "write", "(IIJZ)I"⟩, 8), (⟨"MeldHostModel", "told", "(III)J"⟩, 8), (⟨"MeldHostModel", "good", "(LMeldHostModel$Work;I)Z"⟩, 8)]
theorem lw_r2 : ∀ q ∈ lw_privs_2, lw_okq q := List.forall_mem_cons.mpr ⟨lw_p16, List.forall_mem_cons.mpr ⟨lw_p17, List.forall_mem_cons.mpr ⟨lw_p18, List.forall_mem_cons.mpr ⟨lw_p19, List.forall_mem_cons.mpr ⟨lw_p20, List.forall_mem_cons.mpr ⟨lw_p21, fun _ h => absurd h List.not_mem_nil⟩⟩⟩⟩⟩⟩
def lw_privs : List (MethodName × Nat) := lw_privs_1 ++ (lw_privs_2)
def lw_tbl : List Cond := k2_sels lw_privs ++ tables_1
theorem lw_privs_ok : ∀ q ∈ lw_privs, lw_okq q := by
  show ∀ q ∈ lw_privs_1 ++ (lw_privs_2), lw_okq q
  exact List.forall_mem_append.mpr ⟨lw_r1, lw_r2⟩
/-! the words that stay under warmer tables; those that read the tables alone but are moved one by one -/
def mh_TB : List Cond := lw_tbl.filter goodWord
theorem mh_TB_good : ∀ w ∈ mh_TB, goodWord w = true := fun _ h => (List.mem_filter.mp h).2
theorem mh_TB_tbl : ∀ w ∈ mh_TB, w ∈ lw_tbl := fun _ h => (List.mem_filter.mp h).1
def mh_nf : Cond → Bool
  | .methodLinkNest .. => true
  | .fieldLinkNest .. => true
  | .declares .. => true
  | .castable .. => true
  | _ => false
def mh_NW : List Cond := lw_tbl.filter mh_nf
theorem mh_NW_tbl : ∀ w ∈ mh_NW, w ∈ lw_tbl := fun _ h => (List.mem_filter.mp h).1
theorem mh_nf_on {x : Cond} (h : mh_nf x = true) : x.onTables = true := by
  cases x <;> first | rfl | (simp [mh_nf] at h)
theorem mh_NW_on (x : Cond) (h : x ∈ mh_NW) : x.onTables = true := mh_nf_on (List.mem_filter.mp h).2
theorem mh_NW_warm {s U : State} (x : Cond) (h : x ∈ mh_NW) (hW : s.WarmedH U.vm) (hx : va_Nw x s) : va_Nw x U := by
  have h := (List.mem_filter.mp h).2
  cases x <;> first | exact va_Nw.warmF hW hx | exact va_Nw.warmM hW hx | exact va_Nw.warmC hW hx | exact va_Nw.warmD hW hx | (simp [mh_nf] at h)
theorem mh_in {w : Cond} (i : Nat) (h : tables_1[i]? = some w) (hg : goodWord w = true) : w ∈ mh_TB := List.mem_filter.mpr ⟨List.mem_append_right _ (List.mem_of_getElem? h), hg⟩
theorem mh_inN {w : Cond} (i : Nat) (h : tables_1[i]? = some w) (hg : mh_nf w = true) : w ∈ mh_NW := List.mem_filter.mpr ⟨List.mem_append_right _ (List.mem_of_getElem? h), hg⟩
theorem mh_t1 {w : Cond} (h : w ∈ tables_1_1) : w ∈ lw_tbl := List.mem_append_right _ (show w ∈ tables_1_1 ++ (tables_1_2 ++ (tables_1_3 ++ tables_1_4)) from List.mem_append_left _ h)
theorem mh_g1 {w : Cond} (i : Nat) (h : tables_1_1[i]? = some w) (hg : goodWord w = true) : w ∈ mh_TB := List.mem_filter.mpr ⟨mh_t1 (List.mem_of_getElem? h), hg⟩
theorem mh_n1 {w : Cond} (i : Nat) (h : tables_1_1[i]? = some w) (hg : mh_nf w = true) : w ∈ mh_NW := List.mem_filter.mpr ⟨mh_t1 (List.mem_of_getElem? h), hg⟩
theorem mh_t2 {w : Cond} (h : w ∈ tables_1_2) : w ∈ lw_tbl := List.mem_append_right _ (show w ∈ tables_1_1 ++ (tables_1_2 ++ (tables_1_3 ++ tables_1_4)) from List.mem_append_right _ (List.mem_append_left _ h))
theorem mh_g2 {w : Cond} (i : Nat) (h : tables_1_2[i]? = some w) (hg : goodWord w = true) : w ∈ mh_TB := List.mem_filter.mpr ⟨mh_t2 (List.mem_of_getElem? h), hg⟩
theorem mh_n2 {w : Cond} (i : Nat) (h : tables_1_2[i]? = some w) (hg : mh_nf w = true) : w ∈ mh_NW := List.mem_filter.mpr ⟨mh_t2 (List.mem_of_getElem? h), hg⟩
theorem mh_t3 {w : Cond} (h : w ∈ tables_1_3) : w ∈ lw_tbl := List.mem_append_right _ (show w ∈ tables_1_1 ++ (tables_1_2 ++ (tables_1_3 ++ tables_1_4)) from List.mem_append_right _ (List.mem_append_right _ (List.mem_append_left _ h)))
theorem mh_g3 {w : Cond} (i : Nat) (h : tables_1_3[i]? = some w) (hg : goodWord w = true) : w ∈ mh_TB := List.mem_filter.mpr ⟨mh_t3 (List.mem_of_getElem? h), hg⟩
theorem mh_n3 {w : Cond} (i : Nat) (h : tables_1_3[i]? = some w) (hg : mh_nf w = true) : w ∈ mh_NW := List.mem_filter.mpr ⟨mh_t3 (List.mem_of_getElem? h), hg⟩
theorem mh_t4 {w : Cond} (h : w ∈ tables_1_4) : w ∈ lw_tbl := List.mem_append_right _ (show w ∈ tables_1_1 ++ (tables_1_2 ++ (tables_1_3 ++ tables_1_4)) from List.mem_append_right _ (List.mem_append_right _ (List.mem_append_right _ h)))
theorem mh_g4 {w : Cond} (i : Nat) (h : tables_1_4[i]? = some w) (hg : goodWord w = true) : w ∈ mh_TB := List.mem_filter.mpr ⟨mh_t4 (List.mem_of_getElem? h), hg⟩
theorem mh_n4 {w : Cond} (i : Nat) (h : tables_1_4[i]? = some w) (hg : mh_nf w = true) : w ∈ mh_NW := List.mem_filter.mpr ⟨mh_t4 (List.mem_of_getElem? h), hg⟩
theorem mh_inP {w : Cond} (i : Nat) (h : (k2_sels lw_privs)[i]? = some w) (hg : goodWord w = true) : w ∈ mh_TB := List.mem_filter.mpr ⟨List.mem_append_left _ (List.mem_of_getElem? h), hg⟩
abbrev b_MH_init : ByteArray := prog_1_method_1_code
def y_MH_init : MethodName := ⟨"MeldHost", "<init>", "()V"⟩
abbrev b_AL_init : ByteArray := prog_25_method_2_code
def y_AL_init : MethodName := ⟨"java/util/ArrayList", "<init>", "()V"⟩
abbrev b_AB_init : ByteArray := prog_24_method_1_code
def y_AB_init : MethodName := ⟨"java/util/AbstractList", "<init>", "()V"⟩
abbrev b_AC_init : ByteArray := prog_23_method_1_code
def y_AC_init : MethodName := ⟨"java/util/AbstractCollection", "<init>", "()V"⟩
abbrev b_SV_init : ByteArray := prog_5_method_1_code
def y_SV_init : MethodName := ⟨"MeldHost$Server", "<init>", "()V"⟩
abbrev b_NU_init : ByteArray := prog_4_method_1_code
def y_NU_init : MethodName := ⟨"MeldHost$Numbers", "<init>", "()V"⟩
abbrev b_KS_init : ByteArray := prog_3_method_1_code
def y_KS_init : MethodName := ⟨"MeldHost$KeySet", "<init>", "()V"⟩
abbrev b_AR_fillI : ByteArray := prog_26_method_103_code
def y_AR_fillI : MethodName := ⟨"java/util/Arrays", "fill", "([II)V"⟩
abbrev b_LW_begin : ByteArray := method_3_code
def y_LW_begin : MethodName := ⟨"MeldHostLaw", "begin", "(LMeldHost;III)I"⟩
abbrev b_MH_begin : ByteArray := prog_1_method_2_code
def y_MH_begin : MethodName := ⟨"MeldHost", "begin", "(III)V"⟩
abbrev b_MH_needBelow : ByteArray := prog_1_method_16_code
def y_MH_needBelow : MethodName := ⟨"MeldHost", "needBelow", "(II)V"⟩
abbrev b_IN_init : ByteArray := prog_2_method_1_code
def y_IN_init : MethodName := ⟨"MeldHost$Intention", "<init>", "(III)V"⟩
abbrev b_NU_copyFrom : ByteArray := prog_4_method_5_code
def y_NU_copyFrom : MethodName := ⟨"MeldHost$Numbers", "copyFrom", "(LMeldHost$Numbers;)V"⟩
abbrev b_KS_copyFrom : ByteArray := prog_3_method_6_code
def y_KS_copyFrom : MethodName := ⟨"MeldHost$KeySet", "copyFrom", "(LMeldHost$KeySet;)V"⟩
abbrev b_LW_get : ByteArray := method_4_code
def y_LW_get : MethodName := ⟨"MeldHostLaw", "get", "(LMeldHost;II[J)I"⟩
abbrev b_MH_get : ByteArray := prog_1_method_3_code
def y_MH_get : MethodName := ⟨"MeldHost", "get", "(II)J"⟩
abbrev b_MH_openDraft : ByteArray := prog_1_method_18_code
def y_MH_openDraft : MethodName := ⟨"MeldHost", "openDraft", "(I)LMeldHost$Intention;"⟩
abbrev b_IN_readKey : ByteArray := prog_2_method_2_code
def y_IN_readKey : MethodName := ⟨"MeldHost$Intention", "readKey", "(I)V"⟩
abbrev b_IN_hasWritten : ByteArray := prog_2_method_7_code
def y_IN_hasWritten : MethodName := ⟨"MeldHost$Intention", "hasWritten", "(I)Z"⟩
abbrev b_IN_placeOf : ByteArray := prog_2_method_6_code
def y_IN_placeOf : MethodName := ⟨"MeldHost$Intention", "placeOf", "(I)I"⟩
abbrev b_KS_add : ByteArray := prog_3_method_3_code
def y_KS_add : MethodName := ⟨"MeldHost$KeySet", "add", "(I)V"⟩
abbrev b_MH_numberIn : ByteArray := prog_1_method_20_code
def y_MH_numberIn : MethodName := ⟨"MeldHost", "numberIn", "(LMeldHost$Numbers;I)J"⟩
abbrev b_KS_has : ByteArray := prog_3_method_2_code
def y_KS_has : MethodName := ⟨"MeldHost$KeySet", "has", "(I)Z"⟩
abbrev b_LW_put : ByteArray := method_5_code
def y_LW_put : MethodName := ⟨"MeldHostLaw", "put", "(LMeldHost;IIJ[J)I"⟩
abbrev b_MH_put : ByteArray := prog_1_method_4_code
def y_MH_put : MethodName := ⟨"MeldHost", "put", "(IIJ)I"⟩
abbrev b_MH_writeKey : ByteArray := prog_1_method_21_code
def y_MH_writeKey : MethodName := ⟨"MeldHost", "writeKey", "(LMeldHost$Intention;IZJ)I"⟩
abbrev b_IN_hasRoomFor : ByteArray := prog_2_method_4_code
def y_IN_hasRoomFor : MethodName := ⟨"MeldHost$Intention", "hasRoomFor", "(I)Z"⟩
abbrev b_IN_write : ByteArray := prog_2_method_5_code
def y_IN_write : MethodName := ⟨"MeldHost$Intention", "write", "(IZJ)V"⟩
abbrev b_MA_max : ByteArray := prog_17_method_65_code
def y_MA_max : MethodName := ⟨"java/lang/Math", "max", "(II)I"⟩
abbrev b_NU_give : ByteArray := prog_4_method_2_code
def y_NU_give : MethodName := ⟨"MeldHost$Numbers", "give", "(IJ)V"⟩
abbrev b_LW_delete : ByteArray := method_6_code
def y_LW_delete : MethodName := ⟨"MeldHostLaw", "delete", "(LMeldHost;II[J)I"⟩
abbrev b_MH_delete : ByteArray := prog_1_method_5_code
def y_MH_delete : MethodName := ⟨"MeldHost", "delete", "(II)I"⟩
abbrev b_NU_take : ByteArray := prog_4_method_3_code
def y_NU_take : MethodName := ⟨"MeldHost$Numbers", "take", "(I)V"⟩
abbrev b_KS_drop : ByteArray := prog_3_method_4_code
def y_KS_drop : MethodName := ⟨"MeldHost$KeySet", "drop", "(I)V"⟩
abbrev b_LW_part : ByteArray := method_7_code
def y_LW_part : MethodName := ⟨"MeldHostLaw", "part", "(LMeldHost;IIII[J)I"⟩
abbrev b_MH_part : ByteArray := prog_1_method_6_code
def y_MH_part : MethodName := ⟨"MeldHost", "part", "(IIII)J"⟩
abbrev b_MH_needPart : ByteArray := prog_1_method_17_code
def y_MH_needPart : MethodName := ⟨"MeldHost", "needPart", "(III)V"⟩
abbrev b_IN_readPart : ByteArray := prog_2_method_3_code
def y_IN_readPart : MethodName := ⟨"MeldHost$Intention", "readPart", "(II)V"⟩
abbrev b_NU_tell : ByteArray := prog_4_method_6_code
def y_NU_tell : MethodName := ⟨"MeldHost$Numbers", "tell", "(III)J"⟩
abbrev b_NU_howMany : ByteArray := prog_4_method_7_code
def y_NU_howMany : MethodName := ⟨"MeldHost$Numbers", "howMany", "(II)I"⟩
abbrev b_NU_sum : ByteArray := prog_4_method_8_code
def y_NU_sum : MethodName := ⟨"MeldHost$Numbers", "sum", "(II)J"⟩
abbrev b_NU_least : ByteArray := prog_4_method_9_code
def y_NU_least : MethodName := ⟨"MeldHost$Numbers", "least", "(II)I"⟩
abbrev b_NU_greatest : ByteArray := prog_4_method_10_code
def y_NU_greatest : MethodName := ⟨"MeldHost$Numbers", "greatest", "(II)I"⟩
abbrev b_LW_commit : ByteArray := method_8_code
def y_LW_commit : MethodName := ⟨"MeldHostLaw", "commit", "(LMeldHost;I[J)I"⟩
abbrev b_MH_commit : ByteArray := prog_1_method_7_code
def y_MH_commit : MethodName := ⟨"MeldHost", "commit", "(I)I"⟩
abbrev b_AL_size : ByteArray := prog_25_method_8_code
def y_AL_size : MethodName := ⟨"java/util/ArrayList", "size", "()I"⟩
abbrev b_MH_canBeDone : ByteArray := prog_1_method_22_code
def y_MH_canBeDone : MethodName := ⟨"MeldHost", "canBeDone", "(LMeldHost$Intention;)Z"⟩
abbrev b_AL_get : ByteArray := prog_25_method_20_code
def y_AL_get : MethodName := ⟨"java/util/ArrayList", "get", "(I)Ljava/lang/Object;"⟩
abbrev b_OB_checkIndex : ByteArray := prog_29_method_17_code
def y_OB_checkIndex : MethodName := ⟨"java/util/Objects", "checkIndex", "(II)I"⟩
abbrev b_PR_checkIndex : ByteArray := prog_33_method_11_code
def y_PR_checkIndex : MethodName := ⟨"jdk/internal/util/Preconditions", "checkIndex", "(IILjava/util/function/BiFunction;)I"⟩
abbrev b_AL_elementData : ByteArray := prog_25_method_18_code
def y_AL_elementData : MethodName := ⟨"java/util/ArrayList", "elementData", "(I)Ljava/lang/Object;"⟩
abbrev b_IN_isHitBy : ByteArray := prog_2_method_9_code
def y_IN_isHitBy : MethodName := ⟨"MeldHost$Intention", "isHitBy", "(LMeldHost$Intention;)Z"⟩
abbrev b_IN_hasRead : ByteArray := prog_2_method_8_code
def y_IN_hasRead : MethodName := ⟨"MeldHost$Intention", "hasRead", "(I)Z"⟩
abbrev b_AL_add1 : ByteArray := prog_25_method_25_code
def y_AL_add1 : MethodName := ⟨"java/util/ArrayList", "add", "(Ljava/lang/Object;)Z"⟩
abbrev b_AL_add3 : ByteArray := prog_25_method_24_code
def y_AL_add3 : MethodName := ⟨"java/util/ArrayList", "add", "(Ljava/lang/Object;[Ljava/lang/Object;I)V"⟩
abbrev b_AL_grow0 : ByteArray := prog_25_method_7_code
def y_AL_grow0 : MethodName := ⟨"java/util/ArrayList", "grow", "()[Ljava/lang/Object;"⟩
abbrev b_AL_grow1 : ByteArray := prog_25_method_6_code
def y_AL_grow1 : MethodName := ⟨"java/util/ArrayList", "grow", "(I)[Ljava/lang/Object;"⟩
abbrev b_AS_newLength : ByteArray := prog_32_method_27_code
def y_AS_newLength : MethodName := ⟨"jdk/internal/util/ArraysSupport", "newLength", "(III)I"⟩
abbrev b_AS_hugeLength : ByteArray := prog_32_method_28_code
def y_AS_hugeLength : MethodName := ⟨"jdk/internal/util/ArraysSupport", "hugeLength", "(II)I"⟩
abbrev b_AR_copyOf2 : ByteArray := prog_26_method_119_code
def y_AR_copyOf2 : MethodName := ⟨"java/util/Arrays", "copyOf", "([Ljava/lang/Object;I)[Ljava/lang/Object;"⟩
abbrev b_AR_copyOf3 : ByteArray := prog_26_method_120_code
def y_AR_copyOf3 : MethodName := ⟨"java/util/Arrays", "copyOf", "([Ljava/lang/Object;ILjava/lang/Class;)[Ljava/lang/Object;"⟩
abbrev b_MA_min : ByteArray := prog_17_method_69_code
def y_MA_min : MethodName := ⟨"java/lang/Math", "min", "(II)I"⟩
abbrev b_LW_abort : ByteArray := method_9_code
def y_LW_abort : MethodName := ⟨"MeldHostLaw", "abort", "(LMeldHost;I)I"⟩
abbrev b_MH_abort : ByteArray := prog_1_method_8_code
def y_MH_abort : MethodName := ⟨"MeldHost", "abort", "(I)V"⟩
abbrev b_LW_advance : ByteArray := method_10_code
def y_LW_advance : MethodName := ⟨"MeldHostLaw", "advance", "(LMeldHost;II[J)I"⟩
abbrev b_MH_advance : ByteArray := prog_1_method_9_code
def y_MH_advance : MethodName := ⟨"MeldHost", "advance", "(II)I"⟩
abbrev b_SV_goThrough : ByteArray := prog_5_method_2_code
def y_SV_goThrough : MethodName := ⟨"MeldHost$Server", "goThrough", "(LMeldHost$Intention;)V"⟩
abbrev b_IN_writeInto : ByteArray := prog_2_method_10_code
def y_IN_writeInto : MethodName := ⟨"MeldHost$Intention", "writeInto", "(LMeldHost$Numbers;)V"⟩
abbrev b_IN_signInto : ByteArray := prog_2_method_11_code
def y_IN_signInto : MethodName := ⟨"MeldHost$Intention", "signInto", "([II)V"⟩
abbrev b_LW_restart : ByteArray := method_11_code
def y_LW_restart : MethodName := ⟨"MeldHostLaw", "restart", "(LMeldHost;I)I"⟩
abbrev b_MH_restart : ByteArray := prog_1_method_10_code
def y_MH_restart : MethodName := ⟨"MeldHost", "restart", "(I)V"⟩
abbrev b_SV_startOver : ByteArray := prog_5_method_3_code
def y_SV_startOver : MethodName := ⟨"MeldHost$Server", "startOver", "()V"⟩
abbrev b_NU_takeAll : ByteArray := prog_4_method_4_code
def y_NU_takeAll : MethodName := ⟨"MeldHost$Numbers", "takeAll", "()V"⟩
abbrev b_KS_dropAll : ByteArray := prog_3_method_5_code
def y_KS_dropAll : MethodName := ⟨"MeldHost$KeySet", "dropAll", "()V"⟩
abbrev b_AR_fillJ : ByteArray := prog_26_method_101_code
def y_AR_fillJ : MethodName := ⟨"java/util/Arrays", "fill", "([JJ)V"⟩
abbrev b_LW_state : ByteArray := method_12_code
def y_LW_state : MethodName := ⟨"MeldHostLaw", "state", "(LMeldHost;II[J)I"⟩
abbrev b_MH_state : ByteArray := prog_1_method_11_code
def y_MH_state : MethodName := ⟨"MeldHost", "state", "(II)J"⟩
abbrev b_LW_look : ByteArray := method_13_code
def y_LW_look : MethodName := ⟨"MeldHostLaw", "look", "(LMeldHost;IIII[J)I"⟩
abbrev b_MH_look : ByteArray := prog_1_method_12_code
def y_MH_look : MethodName := ⟨"MeldHost", "look", "(IIII)J"⟩
abbrev b_LW_verdict : ByteArray := method_14_code
def y_LW_verdict : MethodName := ⟨"MeldHostLaw", "verdict", "(LMeldHost;II[J)I"⟩
abbrev b_MH_verdict : ByteArray := prog_1_method_13_code
def y_MH_verdict : MethodName := ⟨"MeldHost", "verdict", "(II)I"⟩
abbrev b_MH_logged : ByteArray := prog_1_method_19_code
def y_MH_logged : MethodName := ⟨"MeldHost", "logged", "(I)LMeldHost$Intention;"⟩
abbrev b_LW_intention : ByteArray := method_15_code
def y_LW_intention : MethodName := ⟨"MeldHostLaw", "intention", "(LMeldHost;II[J)I"⟩
abbrev b_MH_intention : ByteArray := prog_1_method_14_code
def y_MH_intention : MethodName := ⟨"MeldHost", "intention", "(II)I"⟩
abbrev b_IN_tell : ByteArray := prog_2_method_12_code
def y_IN_tell : MethodName := ⟨"MeldHost$Intention", "tell", "(I)I"⟩
abbrev b_KS_size : ByteArray := prog_3_method_7_code
def y_KS_size : MethodName := ⟨"MeldHost$KeySet", "size", "()I"⟩
abbrev b_LG_bitCount : ByteArray := prog_16_method_50_code
def y_LG_bitCount : MethodName := ⟨"java/lang/Long", "bitCount", "(J)I"⟩
abbrev b_LW_count : ByteArray := method_16_code
def y_LW_count : MethodName := ⟨"MeldHostLaw", "count", "(LMeldHost;III[J)I"⟩
abbrev b_MH_count : ByteArray := prog_1_method_15_code
def y_MH_count : MethodName := ⟨"MeldHost", "count", "(III)I"⟩
abbrev b_MH_howManyOpen : ByteArray := prog_1_method_23_code
def y_MH_howManyOpen : MethodName := ⟨"MeldHost", "howManyOpen", "()I"⟩
abbrev b_MM_init : ByteArray := prog_7_method_1_code
def y_MM_init : MethodName := ⟨"MeldHostModel", "<init>", "()V"⟩
abbrev b_WK_init : ByteArray := prog_8_method_1_code
def y_WK_init : MethodName := ⟨"MeldHostModel$Work", "<init>", "()V"⟩
abbrev b_MM_thrown : ByteArray := prog_7_method_2_code
def y_MM_thrown : MethodName := ⟨"MeldHostModel", "thrown", "()I"⟩
abbrev b_MM_begin : ByteArray := prog_7_method_8_code
def y_MM_begin : MethodName := ⟨"MeldHostModel", "begin", "(III)V"⟩
abbrev b_MM_in : ByteArray := prog_7_method_4_code
def y_MM_in : MethodName := ⟨"MeldHostModel", "in", "(II)Z"⟩
abbrev b_MM_fails : ByteArray := prog_7_method_3_code
def y_MM_fails : MethodName := ⟨"MeldHostModel", "fails", "(ZI)Z"⟩
abbrev b_WK_clear : ByteArray := prog_8_method_2_code
def y_WK_clear : MethodName := ⟨"MeldHostModel$Work", "clear", "()V"⟩
abbrev b_MM_get : ByteArray := prog_7_method_10_code
def y_MM_get : MethodName := ⟨"MeldHostModel", "get", "(II)J"⟩
abbrev b_MM_shut : ByteArray := prog_7_method_9_code
def y_MM_shut : MethodName := ⟨"MeldHostModel", "shut", "(II)Z"⟩
abbrev b_WK_written : ByteArray := prog_8_method_3_code
def y_WK_written : MethodName := ⟨"MeldHostModel$Work", "written", "(I)I"⟩
abbrev b_MM_upTo : ByteArray := prog_7_method_5_code
def y_MM_upTo : MethodName := ⟨"MeldHostModel", "upTo", "(I)V"⟩
abbrev b_MM_apply : ByteArray := prog_7_method_6_code
def y_MM_apply : MethodName := ⟨"MeldHostModel", "apply", "(LMeldHostModel$Work;)V"⟩
abbrev b_MM_put : ByteArray := prog_7_method_12_code
def y_MM_put : MethodName := ⟨"MeldHostModel", "put", "(IIJ)I"⟩
abbrev b_MM_write : ByteArray := prog_7_method_11_code
def y_MM_write : MethodName := ⟨"MeldHostModel", "write", "(IIJZ)I"⟩
abbrev b_MM_delete : ByteArray := prog_7_method_13_code
def y_MM_delete : MethodName := ⟨"MeldHostModel", "delete", "(II)I"⟩
abbrev b_MM_part : ByteArray := prog_7_method_15_code
def y_MM_part : MethodName := ⟨"MeldHostModel", "part", "(IIII)J"⟩
abbrev b_MM_bad : ByteArray := prog_7_method_14_code
def y_MM_bad : MethodName := ⟨"MeldHostModel", "bad", "(III)Z"⟩
abbrev b_MM_told : ByteArray := prog_7_method_7_code
def y_MM_told : MethodName := ⟨"MeldHostModel", "told", "(III)J"⟩
abbrev b_MM_commit : ByteArray := prog_7_method_17_code
def y_MM_commit : MethodName := ⟨"MeldHostModel", "commit", "(I)I"⟩
abbrev b_MM_good : ByteArray := prog_7_method_16_code
def y_MM_good : MethodName := ⟨"MeldHostModel", "good", "(LMeldHostModel$Work;I)Z"⟩
abbrev b_MM_abort : ByteArray := prog_7_method_18_code
def y_MM_abort : MethodName := ⟨"MeldHostModel", "abort", "(I)V"⟩
abbrev b_MM_advance : ByteArray := prog_7_method_19_code
def y_MM_advance : MethodName := ⟨"MeldHostModel", "advance", "(II)I"⟩
abbrev b_MM_restart : ByteArray := prog_7_method_20_code
def y_MM_restart : MethodName := ⟨"MeldHostModel", "restart", "(I)V"⟩
abbrev b_MM_state : ByteArray := prog_7_method_21_code
def y_MM_state : MethodName := ⟨"MeldHostModel", "state", "(II)J"⟩
abbrev b_MM_look : ByteArray := prog_7_method_22_code
def y_MM_look : MethodName := ⟨"MeldHostModel", "look", "(IIII)J"⟩
abbrev b_MM_verdict : ByteArray := prog_7_method_23_code
def y_MM_verdict : MethodName := ⟨"MeldHostModel", "verdict", "(II)I"⟩
abbrev b_MM_intention : ByteArray := prog_7_method_24_code
def y_MM_intention : MethodName := ⟨"MeldHostModel", "intention", "(II)I"⟩
abbrev b_MM_count : ByteArray := prog_7_method_25_code
def y_MM_count : MethodName := ⟨"MeldHostModel", "count", "(III)I"⟩
end
section
/-! each word of the tables, by its place -/
theorem k0 : Cond.initialized "MeldHostLaw" ∈ mh_TB := mh_g1 0 rfl rfl
theorem k1 : Cond.initialized "MeldHost" ∈ mh_TB := mh_g1 1 rfl rfl
theorem k2 : Cond.initialized "java/util/AbstractCollection" ∈ mh_TB := mh_g1 2 rfl rfl
theorem k3 : Cond.initialized "java/util/AbstractList" ∈ mh_TB := mh_g1 3 rfl rfl
theorem k4 : Cond.initialized "java/util/ArrayList" ∈ mh_TB := mh_g1 4 rfl rfl
theorem k5 : Cond.initialized "MeldHost$Server" ∈ mh_TB := mh_g1 5 rfl rfl
theorem k6 : Cond.initialized "MeldHost$Numbers" ∈ mh_TB := mh_g1 6 rfl rfl
theorem k7 : Cond.initialized "MeldHost$KeySet" ∈ mh_TB := mh_g1 7 rfl rfl
theorem k8 : Cond.initialized "java/util/Arrays" ∈ mh_TB := mh_g1 8 rfl rfl
theorem k9 : Cond.initialized "MeldHostModel" ∈ mh_TB := mh_g1 9 rfl rfl
theorem k10 : Cond.initialized "MeldHostModel$Work" ∈ mh_TB := mh_g1 10 rfl rfl
theorem k11 : Cond.initialized "java/lang/Throwable" ∈ mh_TB := mh_g1 11 rfl rfl
theorem k12 : Cond.initialized "java/lang/Exception" ∈ mh_TB := mh_g1 12 rfl rfl
theorem k13 : Cond.initialized "java/lang/RuntimeException" ∈ mh_TB := mh_g1 13 rfl rfl
theorem k14 : Cond.initialized "java/lang/IllegalArgumentException" ∈ mh_TB := mh_g1 14 rfl rfl
theorem k15 : Cond.initialized "java/lang/IllegalStateException" ∈ mh_TB := mh_g1 15 rfl rfl
theorem k16 : Cond.initialized "MeldHost$Intention" ∈ mh_TB := mh_g1 16 rfl rfl
theorem k17 : Cond.initialized "java/lang/System" ∈ mh_TB := mh_g1 17 rfl rfl
theorem k18 : Cond.initialized "java/lang/UnsupportedOperationException" ∈ mh_TB := mh_g1 18 rfl rfl
theorem k19 : Cond.initialized "java/lang/IndexOutOfBoundsException" ∈ mh_TB := mh_g1 19 rfl rfl
theorem k20 : Cond.initialized "java/lang/Math" ∈ mh_TB := mh_g1 20 rfl rfl
theorem k21 : Cond.initialized "java/util/Objects" ∈ mh_TB := mh_g1 21 rfl rfl
theorem k22 : Cond.initialized "jdk/internal/util/Preconditions" ∈ mh_TB := mh_g1 22 rfl rfl
theorem k23 : Cond.initialized "jdk/internal/util/ArraysSupport" ∈ mh_TB := mh_g1 23 rfl rfl
theorem k24 : Cond.initialized "java/lang/Long" ∈ mh_TB := mh_g1 24 rfl rfl
theorem k25 : Cond.classLink "MeldHostLaw" 8 "MeldHost" ∈ mh_TB := mh_g1 25 rfl rfl
theorem k26 : Cond.instantiable "MeldHost" 5 ∈ mh_TB := mh_g1 26 rfl rfl
theorem k27 : Cond.methodLink "MeldHostLaw" 67 y_MH_init ∈ mh_TB := mh_g1 27 rfl rfl
theorem k28 : Cond.instanceMethod y_MH_init ∈ mh_TB := mh_g1 28 rfl rfl
theorem k29 : Cond.code y_MH_init prog_1_method_1_code 2 (Option.none : Option FieldType) ∈ mh_TB := mh_g1 29 rfl rfl
theorem k30 : Cond.methodLink "MeldHost" 1 objectInit ∈ mh_TB := mh_g1 30 rfl rfl
theorem k31 : Cond.instanceMethod objectInit ∈ mh_TB := mh_g1 31 rfl rfl
theorem k32 : Cond.code objectInit object_method_1_code 1 (Option.none : Option FieldType) ∈ mh_TB := mh_g1 32 rfl rfl
theorem k33 : Cond.classLink "MeldHost" 7 "java/util/ArrayList" ∈ mh_TB := mh_g1 33 rfl rfl
theorem k34 : Cond.instantiable "java/util/ArrayList" 3 ∈ mh_TB := mh_g1 34 rfl rfl
theorem k35 : Cond.methodLink "MeldHost" 9 y_AL_init ∈ mh_TB := mh_g1 35 rfl rfl
theorem k36 : Cond.instanceMethod y_AL_init ∈ mh_TB := mh_g1 36 rfl rfl
theorem k37 : Cond.code y_AL_init prog_25_method_2_code 1 (Option.none : Option FieldType) ∈ mh_TB := mh_g1 37 rfl rfl
theorem k38 : Cond.methodLink "java/util/ArrayList" 1 y_AB_init ∈ mh_TB := mh_g1 38 rfl rfl
theorem k39 : Cond.instanceMethod y_AB_init ∈ mh_TB := mh_g1 39 rfl rfl
theorem k40 : Cond.code y_AB_init prog_24_method_1_code 1 (Option.none : Option FieldType) ∈ mh_TB := mh_g1 40 rfl rfl
theorem k41 : Cond.methodLink "java/util/AbstractList" 1 y_AC_init ∈ mh_TB := mh_g1 41 rfl rfl
theorem k42 : Cond.instanceMethod y_AC_init ∈ mh_TB := mh_g1 42 rfl rfl
theorem k43 : Cond.code y_AC_init prog_23_method_1_code 1 (Option.none : Option FieldType) ∈ mh_TB := mh_g1 43 rfl rfl
theorem k44 : Cond.methodLink "java/util/AbstractCollection" 1 objectInit ∈ mh_TB := mh_g1 44 rfl rfl
theorem k45 : Cond.fieldLink "java/util/ArrayList" 39 "java/util/ArrayList" "DEFAULTCAPACITY_EMPTY_ELEMENTDATA" "[Ljava/lang/Object;" ∈ mh_TB := mh_g1 45 rfl rfl
theorem k46 : Cond.laysStatic "java/util/ArrayList" "DEFAULTCAPACITY_EMPTY_ELEMENTDATA" "[Ljava/lang/Object;" ∈ lw_tbl := mh_t1 (List.mem_of_getElem? (i := 46) rfl)
theorem k47 : Cond.fieldLink "java/util/ArrayList" 9 "java/util/ArrayList" "elementData" "[Ljava/lang/Object;" ∈ mh_TB := mh_g1 47 rfl rfl
theorem k48 : Cond.fieldLink "java/util/ArrayList" 48 "java/util/ArrayList" "size" "I" ∈ mh_TB := mh_g1 48 rfl rfl
theorem k49 : Cond.fieldLink "java/util/AbstractList" 7 "java/util/AbstractList" "modCount" "I" ∈ mh_TB := mh_g1 49 rfl rfl
theorem k50 : Cond.fieldLink "java/util/ArrayList" 63 "java/util/ArrayList" "modCount" "I" ∈ mh_TB := mh_g1 50 rfl rfl
theorem k51 : Cond.sameField "java/util/ArrayList" "java/util/AbstractList" "modCount" "I" ∈ mh_TB := mh_g1 51 rfl rfl
theorem k52 : Cond.lays "java/util/ArrayList" "java/util/ArrayList" "elementData" "[Ljava/lang/Object;" ∈ mh_TB := mh_g1 52 rfl rfl
theorem k54 : Cond.lays "java/util/ArrayList" "java/util/ArrayList" "size" "I" ∈ mh_TB := mh_g1 54 rfl rfl
theorem k56 : Cond.lays "java/util/ArrayList" "java/util/AbstractList" "modCount" "I" ∈ mh_TB := mh_g1 56 rfl rfl
theorem k58 : Cond.superclass "java/util/ArrayList" "java/util/AbstractList" ∈ mh_TB := mh_g1 58 rfl rfl
theorem k59 : Cond.classLink "MeldHost" 16 "MeldHost$Server" ∈ mh_TB := mh_g1 59 rfl rfl
theorem k60 : Cond.arrayOver (.object "MeldHost$Server") ∈ lw_tbl := mh_t1 (List.mem_of_getElem? (i := 60) rfl)
theorem k61 : Cond.instantiable "MeldHost$Server" 4 ∈ mh_TB := mh_g1 61 rfl rfl
theorem k62 : Cond.methodLink "MeldHost" 22 y_SV_init ∈ mh_TB := mh_g1 62 rfl rfl
theorem k63 : Cond.instanceMethod y_SV_init ∈ mh_TB := mh_g1 63 rfl rfl
theorem k64 : Cond.code y_SV_init prog_5_method_1_code 1 (Option.none : Option FieldType) ∈ mh_TB := mh_g1 64 rfl rfl
theorem k65 : Cond.methodLink "MeldHost$Server" 3 objectInit ∈ mh_TB := mh_g1 65 rfl rfl
theorem k66 : Cond.classLink "MeldHost$Server" 9 "MeldHost$Numbers" ∈ mh_TB := mh_g1 66 rfl rfl
theorem k67 : Cond.instantiable "MeldHost$Numbers" 2 ∈ mh_TB := mh_g1 67 rfl rfl
theorem k68 : Cond.methodLinkNest "MeldHost$Server" 11 y_NU_init "MeldHost" ∈ mh_NW := mh_n1 68 rfl rfl
theorem k69 : Cond.instanceMethod y_NU_init ∈ mh_TB := mh_g1 69 rfl rfl
theorem k70 : Cond.code y_NU_init prog_4_method_1_code 1 (Option.none : Option FieldType) ∈ mh_TB := mh_g1 70 rfl rfl
theorem k71 : Cond.methodLink "MeldHost$Numbers" 3 objectInit ∈ mh_TB := mh_g1 71 rfl rfl
theorem k72 : Cond.classLink "MeldHost$Numbers" 9 "MeldHost$KeySet" ∈ mh_TB := mh_g1 72 rfl rfl
theorem k73 : Cond.instantiable "MeldHost$KeySet" 1 ∈ mh_TB := mh_g1 73 rfl rfl
theorem k74 : Cond.methodLinkNest "MeldHost$Numbers" 11 y_KS_init "MeldHost" ∈ mh_NW := mh_n1 74 rfl rfl
theorem k75 : Cond.instanceMethod y_KS_init ∈ mh_TB := mh_g1 75 rfl rfl
theorem k76 : Cond.code y_KS_init prog_3_method_1_code 1 (Option.none : Option FieldType) ∈ mh_TB := mh_g1 76 rfl rfl
theorem k77 : Cond.methodLink "MeldHost$KeySet" 3 objectInit ∈ mh_TB := mh_g1 77 rfl rfl
theorem k78 : Cond.fieldLink "MeldHost$KeySet" 11 "MeldHost$KeySet" "words" "[J" ∈ mh_TB := mh_g1 78 rfl rfl
theorem k79 : Cond.laysFinal "MeldHost$KeySet" "MeldHost$KeySet" "words" "[J" ∈ mh_TB := mh_g1 79 rfl rfl
theorem k81 : Cond.superclass "MeldHost$KeySet" "java/lang/Object" ∈ mh_TB := mh_g1 81 rfl rfl
theorem k82 : Cond.arrayClass .long ∈ mh_TB := mh_g1 82 rfl rfl
theorem k83 : Cond.fieldLink "MeldHost$Numbers" 12 "MeldHost$Numbers" "present" "LMeldHost$KeySet;" ∈ mh_TB := mh_g1 83 rfl rfl
theorem k84 : Cond.fieldLinkNest "MeldHost" 174 "MeldHost$Numbers" "present" "LMeldHost$KeySet;" "MeldHost" ∈ mh_NW := mh_n1 84 rfl rfl
theorem k85 : Cond.fieldLink "MeldHost$Numbers" 18 "MeldHost$Numbers" "numbers" "[J" ∈ mh_TB := mh_g1 85 rfl rfl
theorem k86 : Cond.fieldLinkNest "MeldHost" 189 "MeldHost$Numbers" "numbers" "[J" "MeldHost" ∈ mh_NW := mh_n1 86 rfl rfl
theorem k87 : Cond.laysFinal "MeldHost$Numbers" "MeldHost$Numbers" "present" "LMeldHost$KeySet;" ∈ mh_TB := mh_g1 87 rfl rfl
theorem k89 : Cond.laysFinal "MeldHost$Numbers" "MeldHost$Numbers" "numbers" "[J" ∈ mh_TB := mh_g1 89 rfl rfl
theorem k91 : Cond.superclass "MeldHost$Numbers" "java/lang/Object" ∈ mh_TB := mh_g1 91 rfl rfl
theorem k92 : Cond.methodLink "MeldHost$Server" 22 y_AR_fillI ∈ mh_TB := mh_g1 92 rfl rfl
theorem k93 : Cond.static y_AR_fillI ∈ mh_TB := mh_g1 93 rfl rfl
theorem k94 : Cond.code y_AR_fillI prog_26_method_103_code 4 (Option.none : Option FieldType) ∈ mh_TB := mh_g1 94 rfl rfl
theorem k95 : Cond.fieldLink "MeldHost$Server" 12 "MeldHost$Server" "numbers" "LMeldHost$Numbers;" ∈ mh_TB := mh_g1 95 rfl rfl
theorem k96 : Cond.fieldLinkNest "MeldHost" 57 "MeldHost$Server" "numbers" "LMeldHost$Numbers;" "MeldHost" ∈ mh_NW := mh_n1 96 rfl rfl
theorem k97 : Cond.fieldLink "MeldHost$Server" 18 "MeldHost$Server" "lastWriter" "[I" ∈ mh_TB := mh_g1 97 rfl rfl
theorem k98 : Cond.fieldLinkNest "MeldHost" 161 "MeldHost$Server" "lastWriter" "[I" "MeldHost" ∈ mh_NW := mh_n1 98 rfl rfl
theorem k99 : Cond.fieldLink "MeldHost$Server" 38 "MeldHost$Server" "gone" "I" ∈ mh_TB := mh_g1 99 rfl rfl
theorem k100 : Cond.fieldLinkNest "MeldHost" 51 "MeldHost$Server" "gone" "I" "MeldHost" ∈ mh_NW := mh_n1 100 rfl rfl
theorem k101 : Cond.fieldLink "MeldHost$Server" 45 "MeldHost$Server" "goodGone" "I" ∈ mh_TB := mh_g1 101 rfl rfl
theorem k102 : Cond.fieldLinkNest "MeldHost" 158 "MeldHost$Server" "goodGone" "I" "MeldHost" ∈ mh_NW := mh_n1 102 rfl rfl
theorem k103 : Cond.laysFinal "MeldHost$Server" "MeldHost$Server" "numbers" "LMeldHost$Numbers;" ∈ mh_TB := mh_g1 103 rfl rfl
theorem k105 : Cond.laysFinal "MeldHost$Server" "MeldHost$Server" "lastWriter" "[I" ∈ mh_TB := mh_g1 105 rfl rfl
theorem k107 : Cond.lays "MeldHost$Server" "MeldHost$Server" "gone" "I" ∈ mh_TB := mh_g1 107 rfl rfl
theorem k109 : Cond.lays "MeldHost$Server" "MeldHost$Server" "goodGone" "I" ∈ mh_TB := mh_g1 109 rfl rfl
theorem k111 : Cond.superclass "MeldHost$Server" "java/lang/Object" ∈ mh_TB := mh_g1 111 rfl rfl
theorem k112 : Cond.arrayClass .int ∈ mh_TB := mh_g1 112 rfl rfl
theorem k113 : Cond.classLink "MeldHost" 23 "MeldHost$Intention" ∈ mh_TB := mh_g1 113 rfl rfl
theorem k114 : Cond.arrayOver (.object "MeldHost$Intention") ∈ lw_tbl := mh_t1 (List.mem_of_getElem? (i := 114) rfl)
theorem k115 : Cond.classLink "MeldHost" 29 "MeldHost$Numbers" ∈ mh_TB := mh_g1 115 rfl rfl
theorem k116 : Cond.arrayOver (.object "MeldHost$Numbers") ∈ lw_tbl := mh_t1 (List.mem_of_getElem? (i := 116) rfl)
theorem k117 : Cond.methodLinkNest "MeldHost" 35 y_NU_init "MeldHost" ∈ mh_NW := mh_n1 117 rfl rfl
theorem k118 : Cond.fieldLink "MeldHost" 10 "MeldHost" "log" "Ljava/util/ArrayList;" ∈ mh_TB := mh_g1 118 rfl rfl
theorem k119 : Cond.fieldLink "MeldHost" 18 "MeldHost" "servers" "[LMeldHost$Server;" ∈ mh_TB := mh_g1 119 rfl rfl
theorem k120 : Cond.fieldLink "MeldHost" 25 "MeldHost" "drafts" "[LMeldHost$Intention;" ∈ mh_TB := mh_g1 120 rfl rfl
theorem k121 : Cond.fieldLink "MeldHost" 31 "MeldHost" "views" "[LMeldHost$Numbers;" ∈ mh_TB := mh_g1 121 rfl rfl
theorem k122 : Cond.fieldLink "MeldHost" 36 "MeldHost" "restarts" "I" ∈ mh_TB := mh_g1 122 rfl rfl
theorem k123 : Cond.laysFinal "MeldHost" "MeldHost" "log" "Ljava/util/ArrayList;" ∈ mh_TB := mh_g1 123 rfl rfl
theorem k125 : Cond.laysFinal "MeldHost" "MeldHost" "servers" "[LMeldHost$Server;" ∈ mh_TB := mh_g1 125 rfl rfl
theorem k127 : Cond.laysFinal "MeldHost" "MeldHost" "drafts" "[LMeldHost$Intention;" ∈ mh_TB := mh_g1 127 rfl rfl
theorem k129 : Cond.laysFinal "MeldHost" "MeldHost" "views" "[LMeldHost$Numbers;" ∈ mh_TB := mh_g1 129 rfl rfl
theorem k131 : Cond.lays "MeldHost" "MeldHost" "restarts" "I" ∈ mh_TB := mh_g1 131 rfl rfl
theorem k133 : Cond.superclass "MeldHost" "java/lang/Object" ∈ mh_TB := mh_g1 133 rfl rfl
theorem k134 : Cond.methodLink "MeldHostLaw" 71 y_LW_begin ∈ mh_TB := mh_g1 134 rfl rfl
theorem k135 : Cond.static y_LW_begin ∈ mh_TB := mh_g1 135 rfl rfl
theorem k136 : Cond.codeWith y_LW_begin method_3_code 5 (Option.some .int) [(0, 7, 10, 13), (0, 7, 14, 15)] ∈ mh_TB := mh_g1 136 rfl rfl
theorem k137 : Cond.classLink "MeldHostLaw" 13 "java/lang/IllegalArgumentException" ∈ mh_TB := mh_g1 137 rfl rfl
theorem k138 : Cond.classLink "MeldHostLaw" 15 "java/lang/IllegalStateException" ∈ mh_TB := mh_g1 138 rfl rfl
theorem k139 : Cond.methodLink "MeldHostLaw" 7 y_MH_begin ∈ mh_TB := mh_g1 139 rfl rfl
theorem k140 : Cond.instanceMethod y_MH_begin ∈ mh_TB := mh_g1 140 rfl rfl
theorem k141 : Cond.selects "MeldHost" y_MH_begin y_MH_begin ∈ mh_TB := mh_g1 141 rfl rfl
theorem k142 : Cond.code y_MH_begin prog_1_method_2_code 5 (Option.none : Option FieldType) ∈ mh_TB := mh_g1 142 rfl rfl
theorem k143 : Cond.methodLink "MeldHost" 40 y_MH_needBelow ∈ mh_TB := mh_g1 143 rfl rfl
theorem k144 : Cond.static y_MH_needBelow ∈ mh_TB := mh_g1 144 rfl rfl
theorem k145 : Cond.code y_MH_needBelow prog_1_method_16_code 2 (Option.none : Option FieldType) ∈ mh_TB := mh_g1 145 rfl rfl
theorem k146 : Cond.classLink "MeldHost" 165 "java/lang/IllegalArgumentException" ∈ mh_TB := mh_g1 146 rfl rfl
theorem k147 : Cond.instantiable "java/lang/IllegalArgumentException" 6 ∈ mh_TB := mh_g1 147 rfl rfl
theorem k148 : Cond.castable "java/lang/IllegalArgumentException" "java/lang/IllegalArgumentException" ∈ mh_NW := mh_n1 148 rfl rfl
theorem k149 : Cond.declares ⟨"java/lang/RuntimeException", "<init>", "()V"⟩ ∈ mh_NW := mh_n1 149 rfl rfl
theorem k150 : Cond.declares ⟨"java/lang/RuntimeException", "<init>", "(Ljava/lang/String;)V"⟩ ∈ mh_NW := mh_n1 150 rfl rfl
theorem k151 : Cond.declares ⟨"java/lang/Exception", "<init>", "()V"⟩ ∈ mh_NW := mh_n1 151 rfl rfl
theorem k152 : Cond.declares ⟨"java/lang/Exception", "<init>", "(Ljava/lang/String;)V"⟩ ∈ mh_NW := mh_n1 152 rfl rfl
theorem k153 : Cond.declares ⟨"java/lang/Throwable", "<init>", "()V"⟩ ∈ mh_NW := mh_n1 153 rfl rfl
theorem k154 : Cond.declares ⟨"java/lang/Throwable", "<init>", "(Ljava/lang/String;)V"⟩ ∈ mh_NW := mh_n1 154 rfl rfl
theorem k155 : Cond.selects "java/lang/IllegalArgumentException" ⟨"java/lang/Throwable", "fillInStackTrace", "(I)Ljava/lang/Throwable;"⟩ ⟨"java/lang/Throwable", "fillInStackTrace", "(I)Ljava/lang/Throwable;"⟩ ∈ mh_TB := mh_g1 155 rfl rfl
theorem k156 : Cond.selects "java/lang/IllegalArgumentException" ⟨"java/lang/Throwable", "fillInStackTrace", "()Ljava/lang/Throwable;"⟩ ⟨"java/lang/Throwable", "fillInStackTrace", "()Ljava/lang/Throwable;"⟩ ∈ mh_TB := mh_g1 156 rfl rfl
theorem k157 : Cond.lays "java/lang/IllegalArgumentException" "java/lang/Throwable" "cause" "Ljava/lang/Throwable;" ∈ mh_TB := mh_g1 157 rfl rfl
theorem k158 : Cond.lays "java/lang/Throwable" "java/lang/Throwable" "cause" "Ljava/lang/Throwable;" ∈ mh_TB := mh_g1 158 rfl rfl
theorem k159 : Cond.lays "java/lang/IllegalArgumentException" "java/lang/Throwable" "stackTrace" "[Ljava/lang/StackTraceElement;" ∈ mh_TB := mh_g1 159 rfl rfl
theorem k160 : Cond.lays "java/lang/Throwable" "java/lang/Throwable" "stackTrace" "[Ljava/lang/StackTraceElement;" ∈ mh_TB := mh_g1 160 rfl rfl
theorem k161 : Cond.lays "java/lang/IllegalArgumentException" "java/lang/Throwable" "suppressedExceptions" "Ljava/util/List;" ∈ mh_TB := mh_g1 161 rfl rfl
theorem k162 : Cond.lays "java/lang/Throwable" "java/lang/Throwable" "suppressedExceptions" "Ljava/util/List;" ∈ mh_TB := mh_g1 162 rfl rfl
theorem k163 : Cond.lays "java/lang/IllegalArgumentException" "java/lang/Throwable" "detailMessage" "Ljava/lang/String;" ∈ mh_TB := mh_g1 163 rfl rfl
theorem k164 : Cond.lays "java/lang/Throwable" "java/lang/Throwable" "detailMessage" "Ljava/lang/String;" ∈ mh_TB := mh_g1 164 rfl rfl
theorem k165 : Cond.lays "java/lang/IllegalArgumentException" "java/lang/Throwable" "backtrace" "Ljava/lang/Object;" ∈ mh_TB := mh_g1 165 rfl rfl
theorem k166 : Cond.lays "java/lang/Throwable" "java/lang/Throwable" "backtrace" "Ljava/lang/Object;" ∈ mh_TB := mh_g1 166 rfl rfl
theorem k167 : Cond.fieldLink "java/lang/Throwable" 198 "java/lang/Throwable" "backtrace" "Ljava/lang/Object;" ∈ mh_TB := mh_g1 167 rfl rfl
theorem k168 : Cond.superclass "java/lang/Throwable" "java/lang/Object" ∈ mh_TB := mh_g1 168 rfl rfl
theorem k169 : Cond.instanceMethod ⟨"java/lang/Throwable", "<init>", "()V"⟩ ∈ mh_TB := mh_g1 169 rfl rfl
theorem k171 : Cond.methodLink "java/lang/Throwable" 1 objectInit ∈ mh_TB := mh_g1 171 rfl rfl
theorem k172 : Cond.fieldLink "java/lang/Throwable" 13 "java/lang/Throwable" "UNASSIGNED_STACK" "[Ljava/lang/StackTraceElement;" ∈ mh_TB := mh_g1 172 rfl rfl
theorem k173 : Cond.laysStatic "java/lang/Throwable" "UNASSIGNED_STACK" "[Ljava/lang/StackTraceElement;" ∈ lw_tbl := mh_t1 (List.mem_of_getElem? (i := 173) rfl)
theorem k174 : Cond.fieldLink "java/lang/Throwable" 20 "java/lang/Throwable" "SUPPRESSED_SENTINEL" "Ljava/util/List;" ∈ mh_TB := mh_g1 174 rfl rfl
theorem k175 : Cond.laysStatic "java/lang/Throwable" "SUPPRESSED_SENTINEL" "Ljava/util/List;" ∈ lw_tbl := mh_t1 (List.mem_of_getElem? (i := 175) rfl)
theorem k176 : Cond.methodLink "java/lang/Throwable" 27 ⟨"java/lang/Throwable", "fillInStackTrace", "()Ljava/lang/Throwable;"⟩ ∈ mh_TB := mh_g1 176 rfl rfl
theorem k177 : Cond.instanceMethod ⟨"java/lang/Throwable", "fillInStackTrace", "()Ljava/lang/Throwable;"⟩ ∈ mh_TB := mh_g1 177 rfl rfl
theorem k178 : Cond.sameMethod "java/lang/Throwable" "java/lang/Throwable" "fillInStackTrace" "()Ljava/lang/Throwable;" ∈ mh_TB := mh_g1 178 rfl rfl
theorem k179 : Cond.selects "java/lang/IllegalStateException" ⟨"java/lang/Throwable", "fillInStackTrace", "()Ljava/lang/Throwable;"⟩ ⟨"java/lang/Throwable", "fillInStackTrace", "()Ljava/lang/Throwable;"⟩ ∈ mh_TB := mh_g1 179 rfl rfl
theorem k180 : Cond.selects "java/lang/IndexOutOfBoundsException" ⟨"java/lang/Throwable", "fillInStackTrace", "()Ljava/lang/Throwable;"⟩ ⟨"java/lang/Throwable", "fillInStackTrace", "()Ljava/lang/Throwable;"⟩ ∈ mh_TB := mh_g1 180 rfl rfl
theorem k181 : Cond.selects "java/lang/UnsupportedOperationException" ⟨"java/lang/Throwable", "fillInStackTrace", "()Ljava/lang/Throwable;"⟩ ⟨"java/lang/Throwable", "fillInStackTrace", "()Ljava/lang/Throwable;"⟩ ∈ mh_TB := mh_g1 181 rfl rfl
theorem k182 : Cond.codeSync ⟨"java/lang/Throwable", "fillInStackTrace", "()Ljava/lang/Throwable;"⟩ prog_21_method_18_code 1 (Option.some (.object "java/lang/Throwable")) ∈ mh_TB := mh_g1 182 rfl rfl
theorem k183 : Cond.methodLink "java/lang/Throwable" 202 ⟨"java/lang/Throwable", "fillInStackTrace", "(I)Ljava/lang/Throwable;"⟩ ∈ mh_TB := mh_g1 183 rfl rfl
theorem k185 : Cond.instanceMethod ⟨"java/lang/Throwable", "fillInStackTrace", "(I)Ljava/lang/Throwable;"⟩ ∈ mh_TB := mh_g1 185 rfl rfl
theorem k186 : Cond.instantiable "java/lang/Throwable" 6 ∈ mh_TB := mh_g1 186 rfl rfl
theorem k187 : Cond.native ⟨"java/lang/Throwable", "fillInStackTrace", "(I)Ljava/lang/Throwable;"⟩ ∈ mh_TB := mh_g1 187 rfl rfl
theorem k188 : Cond.stringRef "MeldHost" 167 "an argument is out of its bounds" ∈ lw_tbl := mh_t1 (List.mem_of_getElem? (i := 188) rfl)
theorem k189 : Cond.methodLink "MeldHost" 169 ⟨"java/lang/IllegalArgumentException", "<init>", "(Ljava/lang/String;)V"⟩ ∈ mh_TB := mh_g1 189 rfl rfl
theorem k190 : Cond.instanceMethod ⟨"java/lang/IllegalArgumentException", "<init>", "(Ljava/lang/String;)V"⟩ ∈ mh_TB := mh_g1 190 rfl rfl
theorem k192 : Cond.methodLink "java/lang/IllegalArgumentException" 7 ⟨"java/lang/RuntimeException", "<init>", "(Ljava/lang/String;)V"⟩ ∈ mh_TB := mh_g1 192 rfl rfl
theorem k193 : Cond.instanceMethod ⟨"java/lang/RuntimeException", "<init>", "(Ljava/lang/String;)V"⟩ ∈ mh_TB := mh_g1 193 rfl rfl
theorem k195 : Cond.methodLink "java/lang/RuntimeException" 7 ⟨"java/lang/Exception", "<init>", "(Ljava/lang/String;)V"⟩ ∈ mh_TB := mh_g1 195 rfl rfl
theorem k196 : Cond.instanceMethod ⟨"java/lang/Exception", "<init>", "(Ljava/lang/String;)V"⟩ ∈ mh_TB := mh_g1 196 rfl rfl
theorem k198 : Cond.methodLink "java/lang/Exception" 7 ⟨"java/lang/Throwable", "<init>", "(Ljava/lang/String;)V"⟩ ∈ mh_TB := mh_g1 198 rfl rfl
theorem k199 : Cond.instanceMethod ⟨"java/lang/Throwable", "<init>", "(Ljava/lang/String;)V"⟩ ∈ mh_TB := mh_g1 199 rfl rfl
theorem k201 : Cond.fieldLink "java/lang/Throwable" 198 "java/lang/Throwable" "backtrace" "Ljava/lang/Object;" ∈ mh_TB := mh_g1 201 rfl rfl
theorem k202 : Cond.fieldLink "java/lang/Throwable" 31 "java/lang/Throwable" "detailMessage" "Ljava/lang/String;" ∈ mh_TB := mh_g1 202 rfl rfl
theorem k203 : Cond.fieldLink "java/lang/Throwable" 7 "java/lang/Throwable" "cause" "Ljava/lang/Throwable;" ∈ mh_TB := mh_g1 203 rfl rfl
theorem k204 : Cond.fieldLink "java/lang/Throwable" 17 "java/lang/Throwable" "stackTrace" "[Ljava/lang/StackTraceElement;" ∈ mh_TB := mh_g1 204 rfl rfl
theorem k205 : Cond.fieldLink "java/lang/Throwable" 24 "java/lang/Throwable" "suppressedExceptions" "Ljava/util/List;" ∈ mh_TB := mh_g1 205 rfl rfl
theorem k210 : Cond.lays "java/lang/IllegalArgumentException" "java/lang/Throwable" "depth" "I" ∈ mh_TB := mh_g1 210 rfl rfl
theorem k213 : Cond.superclass "java/lang/IllegalArgumentException" "java/lang/RuntimeException" ∈ mh_TB := mh_g1 213 rfl rfl
theorem k214 : Cond.arrayClass .byte ∈ mh_TB := mh_g1 214 rfl rfl
theorem k215 : Cond.classLink "MeldHost" 44 "java/lang/IllegalStateException" ∈ mh_TB := mh_g1 215 rfl rfl
theorem k216 : Cond.instantiable "java/lang/IllegalStateException" 6 ∈ mh_TB := mh_g1 216 rfl rfl
theorem k217 : Cond.castable "java/lang/IllegalStateException" "java/lang/IllegalStateException" ∈ mh_NW := mh_n1 217 rfl rfl
theorem k218 : Cond.selects "java/lang/IllegalStateException" ⟨"java/lang/Throwable", "fillInStackTrace", "(I)Ljava/lang/Throwable;"⟩ ⟨"java/lang/Throwable", "fillInStackTrace", "(I)Ljava/lang/Throwable;"⟩ ∈ mh_TB := mh_g1 218 rfl rfl
theorem k219 : Cond.lays "java/lang/IllegalStateException" "java/lang/Throwable" "cause" "Ljava/lang/Throwable;" ∈ mh_TB := mh_g1 219 rfl rfl
theorem k220 : Cond.lays "java/lang/IllegalStateException" "java/lang/Throwable" "stackTrace" "[Ljava/lang/StackTraceElement;" ∈ mh_TB := mh_g1 220 rfl rfl
theorem k221 : Cond.lays "java/lang/IllegalStateException" "java/lang/Throwable" "suppressedExceptions" "Ljava/util/List;" ∈ mh_TB := mh_g1 221 rfl rfl
theorem k222 : Cond.lays "java/lang/IllegalStateException" "java/lang/Throwable" "detailMessage" "Ljava/lang/String;" ∈ mh_TB := mh_g1 222 rfl rfl
theorem k223 : Cond.lays "java/lang/IllegalStateException" "java/lang/Throwable" "backtrace" "Ljava/lang/Object;" ∈ mh_TB := mh_g1 223 rfl rfl
theorem k224 : Cond.stringRef "MeldHost" 46 "the transaction is open" ∈ lw_tbl := mh_t1 (List.mem_of_getElem? (i := 224) rfl)
theorem k225 : Cond.methodLink "MeldHost" 48 ⟨"java/lang/IllegalStateException", "<init>", "(Ljava/lang/String;)V"⟩ ∈ mh_TB := mh_g1 225 rfl rfl
theorem k226 : Cond.instanceMethod ⟨"java/lang/IllegalStateException", "<init>", "(Ljava/lang/String;)V"⟩ ∈ mh_TB := mh_g1 226 rfl rfl
theorem k228 : Cond.methodLink "java/lang/IllegalStateException" 7 ⟨"java/lang/RuntimeException", "<init>", "(Ljava/lang/String;)V"⟩ ∈ mh_TB := mh_g1 228 rfl rfl
theorem k229 : Cond.lays "java/lang/IllegalStateException" "java/lang/Throwable" "depth" "I" ∈ mh_TB := mh_g1 229 rfl rfl
theorem k230 : Cond.superclass "java/lang/IllegalStateException" "java/lang/RuntimeException" ∈ mh_TB := mh_g1 230 rfl rfl
theorem k231 : Cond.instantiable "MeldHost$Intention" 12 ∈ mh_TB := mh_g1 231 rfl rfl
theorem k232 : Cond.methodLink "MeldHost" 54 y_IN_init ∈ mh_TB := mh_g1 232 rfl rfl
theorem k233 : Cond.instanceMethod y_IN_init ∈ mh_TB := mh_g1 233 rfl rfl
theorem k234 : Cond.code y_IN_init prog_2_method_1_code 4 (Option.none : Option FieldType) ∈ mh_TB := mh_g1 234 rfl rfl
theorem k235 : Cond.methodLink "MeldHost$Intention" 3 objectInit ∈ mh_TB := mh_g1 235 rfl rfl
theorem k236 : Cond.classLink "MeldHost$Intention" 9 "MeldHost$KeySet" ∈ mh_TB := mh_g1 236 rfl rfl
theorem k237 : Cond.methodLinkNest "MeldHost$Intention" 11 y_KS_init "MeldHost" ∈ mh_NW := mh_n1 237 rfl rfl
theorem k238 : Cond.fieldLink "MeldHost$Intention" 36 "MeldHost$Intention" "server" "I" ∈ mh_TB := mh_g1 238 rfl rfl
theorem k239 : Cond.fieldLinkNest "MeldHost" 146 "MeldHost$Intention" "server" "I" "MeldHost" ∈ mh_NW := mh_n1 239 rfl rfl
theorem k240 : Cond.fieldLink "MeldHost$Intention" 40 "MeldHost$Intention" "snapshot" "I" ∈ mh_TB := mh_g2 0 rfl rfl
theorem k241 : Cond.fieldLinkNest "MeldHost" 201 "MeldHost$Intention" "snapshot" "I" "MeldHost" ∈ mh_NW := mh_n2 1 rfl rfl
theorem k242 : Cond.fieldLink "MeldHost$Intention" 43 "MeldHost$Intention" "level" "I" ∈ mh_TB := mh_g2 2 rfl rfl
theorem k243 : Cond.fieldLink "MeldHost$Intention" 12 "MeldHost$Intention" "readKeys" "LMeldHost$KeySet;" ∈ mh_TB := mh_g2 3 rfl rfl
theorem k244 : Cond.fieldLink "MeldHost$Intention" 18 "MeldHost$Intention" "lows" "[I" ∈ mh_TB := mh_g2 4 rfl rfl
theorem k245 : Cond.fieldLink "MeldHost$Intention" 22 "MeldHost$Intention" "highs" "[I" ∈ mh_TB := mh_g2 5 rfl rfl
theorem k246 : Cond.fieldLink "MeldHost$Intention" 25 "MeldHost$Intention" "writtenKeys" "[I" ∈ mh_TB := mh_g2 6 rfl rfl
theorem k247 : Cond.fieldLink "MeldHost$Intention" 28 "MeldHost$Intention" "hasNumber" "[Z" ∈ mh_TB := mh_g2 7 rfl rfl
theorem k248 : Cond.fieldLink "MeldHost$Intention" 32 "MeldHost$Intention" "newNumbers" "[J" ∈ mh_TB := mh_g2 8 rfl rfl
theorem k249 : Cond.fieldLink "MeldHost$Intention" 54 "MeldHost$Intention" "parts" "I" ∈ mh_TB := mh_g2 9 rfl rfl
theorem k250 : Cond.fieldLinkNest "MeldHost" 91 "MeldHost$Intention" "parts" "I" "MeldHost" ∈ mh_NW := mh_n2 10 rfl rfl
theorem k251 : Cond.fieldLink "MeldHost$Intention" 61 "MeldHost$Intention" "writes" "I" ∈ mh_TB := mh_g2 11 rfl rfl
theorem k252 : Cond.fieldLinkNest "MeldHost" 106 "MeldHost$Intention" "writes" "I" "MeldHost" ∈ mh_NW := mh_n2 12 rfl rfl
theorem k253 : Cond.fieldLinkNest "MeldHost$Server" 28 "MeldHost$Intention" "good" "Z" "MeldHost" ∈ mh_NW := mh_n2 13 rfl rfl
theorem k254 : Cond.fieldLinkNest "MeldHost" 119 "MeldHost$Intention" "good" "Z" "MeldHost" ∈ mh_NW := mh_n2 14 rfl rfl
theorem k255 : Cond.laysFinal "MeldHost$Intention" "MeldHost$Intention" "server" "I" ∈ mh_TB := mh_g2 15 rfl rfl
theorem k257 : Cond.laysFinal "MeldHost$Intention" "MeldHost$Intention" "snapshot" "I" ∈ mh_TB := mh_g2 17 rfl rfl
theorem k259 : Cond.laysFinal "MeldHost$Intention" "MeldHost$Intention" "level" "I" ∈ mh_TB := mh_g2 19 rfl rfl
theorem k261 : Cond.laysFinal "MeldHost$Intention" "MeldHost$Intention" "readKeys" "LMeldHost$KeySet;" ∈ mh_TB := mh_g2 21 rfl rfl
theorem k263 : Cond.laysFinal "MeldHost$Intention" "MeldHost$Intention" "lows" "[I" ∈ mh_TB := mh_g2 23 rfl rfl
theorem k265 : Cond.laysFinal "MeldHost$Intention" "MeldHost$Intention" "highs" "[I" ∈ mh_TB := mh_g2 25 rfl rfl
theorem k267 : Cond.laysFinal "MeldHost$Intention" "MeldHost$Intention" "writtenKeys" "[I" ∈ mh_TB := mh_g2 27 rfl rfl
theorem k269 : Cond.laysFinal "MeldHost$Intention" "MeldHost$Intention" "hasNumber" "[Z" ∈ mh_TB := mh_g2 29 rfl rfl
theorem k271 : Cond.laysFinal "MeldHost$Intention" "MeldHost$Intention" "newNumbers" "[J" ∈ mh_TB := mh_g2 31 rfl rfl
theorem k273 : Cond.lays "MeldHost$Intention" "MeldHost$Intention" "parts" "I" ∈ mh_TB := mh_g2 33 rfl rfl
theorem k275 : Cond.lays "MeldHost$Intention" "MeldHost$Intention" "writes" "I" ∈ mh_TB := mh_g2 35 rfl rfl
theorem k277 : Cond.lays "MeldHost$Intention" "MeldHost$Intention" "good" "Z" ∈ mh_TB := mh_g2 37 rfl rfl
theorem k279 : Cond.superclass "MeldHost$Intention" "java/lang/Object" ∈ mh_TB := mh_g2 39 rfl rfl
theorem k280 : Cond.arrayClass .boolean ∈ mh_TB := mh_g2 40 rfl rfl
theorem k281 : Cond.methodLink "MeldHost" 61 y_NU_copyFrom ∈ mh_TB := mh_g2 41 rfl rfl
theorem k282 : Cond.instanceMethod y_NU_copyFrom ∈ mh_TB := mh_g2 42 rfl rfl
theorem k283 : Cond.selects "MeldHost$Numbers" y_NU_copyFrom y_NU_copyFrom ∈ mh_TB := mh_g2 43 rfl rfl
theorem k284 : Cond.code y_NU_copyFrom prog_4_method_5_code 2 (Option.none : Option FieldType) ∈ mh_TB := mh_g2 44 rfl rfl
theorem k285 : Cond.methodLink "MeldHost$Numbers" 32 y_KS_copyFrom ∈ mh_TB := mh_g2 45 rfl rfl
theorem k286 : Cond.instanceMethod y_KS_copyFrom ∈ mh_TB := mh_g2 46 rfl rfl
theorem k287 : Cond.selects "MeldHost$KeySet" y_KS_copyFrom y_KS_copyFrom ∈ mh_TB := mh_g2 47 rfl rfl
theorem k288 : Cond.code y_KS_copyFrom prog_3_method_6_code 2 (Option.none : Option FieldType) ∈ mh_TB := mh_g2 48 rfl rfl
theorem k289 : Cond.methodLink "MeldHost$KeySet" 23 ⟨"java/lang/System", "arraycopy", "(Ljava/lang/Object;ILjava/lang/Object;II)V"⟩ ∈ mh_TB := mh_g2 49 rfl rfl
theorem k290 : Cond.static ⟨"java/lang/System", "arraycopy", "(Ljava/lang/Object;ILjava/lang/Object;II)V"⟩ ∈ mh_TB := mh_g2 50 rfl rfl
theorem k291 : Cond.native ⟨"java/lang/System", "arraycopy", "(Ljava/lang/Object;ILjava/lang/Object;II)V"⟩ ∈ mh_TB := mh_g2 51 rfl rfl
theorem k292 : Cond.methodLink "MeldHost$Numbers" 36 ⟨"java/lang/System", "arraycopy", "(Ljava/lang/Object;ILjava/lang/Object;II)V"⟩ ∈ mh_TB := mh_g2 52 rfl rfl
theorem k293 : Cond.methodLink "MeldHostLaw" 81 y_LW_get ∈ mh_TB := mh_g2 53 rfl rfl
theorem k294 : Cond.static y_LW_get ∈ mh_TB := mh_g2 54 rfl rfl
theorem k295 : Cond.codeWith y_LW_get method_4_code 5 (Option.some .int) [(0, 9, 12, 13), (0, 9, 16, 15), (0, 9, 20, 21)] ∈ mh_TB := mh_g2 55 rfl rfl
theorem k296 : Cond.classLink "MeldHostLaw" 21 "java/lang/UnsupportedOperationException" ∈ mh_TB := mh_g2 56 rfl rfl
theorem k297 : Cond.methodLink "MeldHostLaw" 17 y_MH_get ∈ mh_TB := mh_g2 57 rfl rfl
theorem k298 : Cond.instanceMethod y_MH_get ∈ mh_TB := mh_g2 58 rfl rfl
theorem k299 : Cond.selects "MeldHost" y_MH_get y_MH_get ∈ mh_TB := mh_g2 59 rfl rfl
theorem k300 : Cond.code y_MH_get prog_1_method_3_code 3 (Option.some .long) ∈ mh_TB := mh_g2 60 rfl rfl
theorem k301 : Cond.methodLink "MeldHost" 65 y_MH_openDraft ∈ mh_TB := mh_g2 61 rfl rfl
theorem k303 : Cond.instanceMethod y_MH_openDraft ∈ mh_TB := mh_g2 63 rfl rfl
theorem k304 : Cond.code y_MH_openDraft prog_1_method_18_code 3 (Option.some (.object "MeldHost$Intention")) ∈ mh_TB := mh_g2 64 rfl rfl
theorem k305 : Cond.stringRef "MeldHost" 170 "the transaction is not open" ∈ lw_tbl := mh_t2 (List.mem_of_getElem? (i := 65) rfl)
theorem k306 : Cond.methodLink "MeldHost" 69 y_IN_readKey ∈ mh_TB := mh_g2 66 rfl rfl
theorem k307 : Cond.instanceMethod y_IN_readKey ∈ mh_TB := mh_g2 67 rfl rfl
theorem k308 : Cond.selects "MeldHost$Intention" y_IN_readKey y_IN_readKey ∈ mh_TB := mh_g2 68 rfl rfl
theorem k309 : Cond.code y_IN_readKey prog_2_method_2_code 2 (Option.none : Option FieldType) ∈ mh_TB := mh_g2 69 rfl rfl
theorem k310 : Cond.methodLink "MeldHost$Intention" 46 y_IN_hasWritten ∈ mh_TB := mh_g2 70 rfl rfl
theorem k312 : Cond.instanceMethod y_IN_hasWritten ∈ mh_TB := mh_g2 72 rfl rfl
theorem k313 : Cond.code y_IN_hasWritten prog_2_method_7_code 2 (Option.some .boolean) ∈ mh_TB := mh_g2 73 rfl rfl
theorem k314 : Cond.methodLink "MeldHost$Intention" 57 y_IN_placeOf ∈ mh_TB := mh_g2 74 rfl rfl
theorem k316 : Cond.instanceMethod y_IN_placeOf ∈ mh_TB := mh_g2 76 rfl rfl
theorem k317 : Cond.code y_IN_placeOf prog_2_method_6_code 3 (Option.some .int) ∈ mh_TB := mh_g2 77 rfl rfl
theorem k318 : Cond.methodLink "MeldHost$Intention" 50 y_KS_add ∈ mh_TB := mh_g2 78 rfl rfl
theorem k319 : Cond.instanceMethod y_KS_add ∈ mh_TB := mh_g2 79 rfl rfl
theorem k320 : Cond.selects "MeldHost$KeySet" y_KS_add y_KS_add ∈ mh_TB := mh_g2 80 rfl rfl
theorem k321 : Cond.code y_KS_add prog_3_method_3_code 2 (Option.none : Option FieldType) ∈ mh_TB := mh_g2 81 rfl rfl
theorem k322 : Cond.methodLink "MeldHost" 73 y_MH_numberIn ∈ mh_TB := mh_g2 82 rfl rfl
theorem k323 : Cond.static y_MH_numberIn ∈ mh_TB := mh_g2 83 rfl rfl
theorem k324 : Cond.code y_MH_numberIn prog_1_method_20_code 2 (Option.some .long) ∈ mh_TB := mh_g2 84 rfl rfl
theorem k325 : Cond.methodLink "MeldHost" 178 y_KS_has ∈ mh_TB := mh_g2 85 rfl rfl
theorem k326 : Cond.instanceMethod y_KS_has ∈ mh_TB := mh_g2 86 rfl rfl
theorem k327 : Cond.selects "MeldHost$KeySet" y_KS_has y_KS_has ∈ mh_TB := mh_g2 87 rfl rfl
theorem k328 : Cond.code y_KS_has prog_3_method_2_code 2 (Option.some .boolean) ∈ mh_TB := mh_g2 88 rfl rfl
theorem k329 : Cond.classLink "MeldHost" 184 "java/lang/UnsupportedOperationException" ∈ mh_TB := mh_g2 89 rfl rfl
theorem k330 : Cond.instantiable "java/lang/UnsupportedOperationException" 6 ∈ mh_TB := mh_g2 90 rfl rfl
theorem k331 : Cond.castable "java/lang/UnsupportedOperationException" "java/lang/UnsupportedOperationException" ∈ mh_NW := mh_n2 91 rfl rfl
theorem k332 : Cond.selects "java/lang/UnsupportedOperationException" ⟨"java/lang/Throwable", "fillInStackTrace", "(I)Ljava/lang/Throwable;"⟩ ⟨"java/lang/Throwable", "fillInStackTrace", "(I)Ljava/lang/Throwable;"⟩ ∈ mh_TB := mh_g2 92 rfl rfl
theorem k333 : Cond.lays "java/lang/UnsupportedOperationException" "java/lang/Throwable" "cause" "Ljava/lang/Throwable;" ∈ mh_TB := mh_g2 93 rfl rfl
theorem k334 : Cond.lays "java/lang/UnsupportedOperationException" "java/lang/Throwable" "stackTrace" "[Ljava/lang/StackTraceElement;" ∈ mh_TB := mh_g2 94 rfl rfl
theorem k335 : Cond.lays "java/lang/UnsupportedOperationException" "java/lang/Throwable" "suppressedExceptions" "Ljava/util/List;" ∈ mh_TB := mh_g2 95 rfl rfl
theorem k336 : Cond.lays "java/lang/UnsupportedOperationException" "java/lang/Throwable" "detailMessage" "Ljava/lang/String;" ∈ mh_TB := mh_g2 96 rfl rfl
theorem k337 : Cond.lays "java/lang/UnsupportedOperationException" "java/lang/Throwable" "backtrace" "Ljava/lang/Object;" ∈ mh_TB := mh_g2 97 rfl rfl
theorem k338 : Cond.stringRef "MeldHost" 186 "the key has no number" ∈ lw_tbl := mh_t2 (List.mem_of_getElem? (i := 98) rfl)
theorem k339 : Cond.methodLink "MeldHost" 188 ⟨"java/lang/UnsupportedOperationException", "<init>", "(Ljava/lang/String;)V"⟩ ∈ mh_TB := mh_g2 99 rfl rfl
theorem k340 : Cond.instanceMethod ⟨"java/lang/UnsupportedOperationException", "<init>", "(Ljava/lang/String;)V"⟩ ∈ mh_TB := mh_g2 100 rfl rfl
theorem k342 : Cond.methodLink "java/lang/UnsupportedOperationException" 7 ⟨"java/lang/RuntimeException", "<init>", "(Ljava/lang/String;)V"⟩ ∈ mh_TB := mh_g2 102 rfl rfl
theorem k343 : Cond.lays "java/lang/UnsupportedOperationException" "java/lang/Throwable" "depth" "I" ∈ mh_TB := mh_g2 103 rfl rfl
theorem k344 : Cond.superclass "java/lang/UnsupportedOperationException" "java/lang/RuntimeException" ∈ mh_TB := mh_g2 104 rfl rfl
theorem k345 : Cond.methodLink "MeldHostLaw" 87 y_LW_put ∈ mh_TB := mh_g2 105 rfl rfl
theorem k346 : Cond.static y_LW_put ∈ mh_TB := mh_g2 106 rfl rfl
theorem k347 : Cond.codeWith y_LW_put method_5_code 7 (Option.some .int) [(0, 12, 15, 13), (0, 12, 19, 15), (0, 12, 23, 27)] ∈ mh_TB := mh_g2 107 rfl rfl
theorem k348 : Cond.classLink "MeldHostLaw" 27 "java/lang/IndexOutOfBoundsException" ∈ mh_TB := mh_g2 108 rfl rfl
theorem k349 : Cond.methodLink "MeldHostLaw" 23 y_MH_put ∈ mh_TB := mh_g2 109 rfl rfl
theorem k350 : Cond.instanceMethod y_MH_put ∈ mh_TB := mh_g2 110 rfl rfl
theorem k351 : Cond.selects "MeldHost" y_MH_put y_MH_put ∈ mh_TB := mh_g2 111 rfl rfl
theorem k352 : Cond.code y_MH_put prog_1_method_4_code 6 (Option.some .int) ∈ mh_TB := mh_g2 112 rfl rfl
theorem k353 : Cond.methodLink "MeldHost" 77 y_MH_writeKey ∈ mh_TB := mh_g2 113 rfl rfl
theorem k354 : Cond.static y_MH_writeKey ∈ mh_TB := mh_g2 114 rfl rfl
theorem k355 : Cond.code y_MH_writeKey prog_1_method_21_code 5 (Option.some .int) ∈ mh_TB := mh_g2 115 rfl rfl
theorem k356 : Cond.methodLink "MeldHost" 192 y_IN_hasRoomFor ∈ mh_TB := mh_g2 116 rfl rfl
theorem k357 : Cond.instanceMethod y_IN_hasRoomFor ∈ mh_TB := mh_g2 117 rfl rfl
theorem k358 : Cond.selects "MeldHost$Intention" y_IN_hasRoomFor y_IN_hasRoomFor ∈ mh_TB := mh_g2 118 rfl rfl
theorem k359 : Cond.code y_IN_hasRoomFor prog_2_method_4_code 2 (Option.some .boolean) ∈ mh_TB := mh_g2 119 rfl rfl
theorem k360 : Cond.classLink "MeldHost" 94 "java/lang/IndexOutOfBoundsException" ∈ mh_TB := mh_g2 120 rfl rfl
theorem k361 : Cond.instantiable "java/lang/IndexOutOfBoundsException" 6 ∈ mh_TB := mh_g2 121 rfl rfl
theorem k362 : Cond.castable "java/lang/IndexOutOfBoundsException" "java/lang/IndexOutOfBoundsException" ∈ mh_NW := mh_n2 122 rfl rfl
theorem k363 : Cond.selects "java/lang/IndexOutOfBoundsException" ⟨"java/lang/Throwable", "fillInStackTrace", "(I)Ljava/lang/Throwable;"⟩ ⟨"java/lang/Throwable", "fillInStackTrace", "(I)Ljava/lang/Throwable;"⟩ ∈ mh_TB := mh_g2 123 rfl rfl
theorem k364 : Cond.lays "java/lang/IndexOutOfBoundsException" "java/lang/Throwable" "cause" "Ljava/lang/Throwable;" ∈ mh_TB := mh_g2 124 rfl rfl
theorem k365 : Cond.lays "java/lang/IndexOutOfBoundsException" "java/lang/Throwable" "stackTrace" "[Ljava/lang/StackTraceElement;" ∈ mh_TB := mh_g2 125 rfl rfl
theorem k366 : Cond.lays "java/lang/IndexOutOfBoundsException" "java/lang/Throwable" "suppressedExceptions" "Ljava/util/List;" ∈ mh_TB := mh_g2 126 rfl rfl
theorem k367 : Cond.lays "java/lang/IndexOutOfBoundsException" "java/lang/Throwable" "detailMessage" "Ljava/lang/String;" ∈ mh_TB := mh_g2 127 rfl rfl
theorem k368 : Cond.lays "java/lang/IndexOutOfBoundsException" "java/lang/Throwable" "backtrace" "Ljava/lang/Object;" ∈ mh_TB := mh_g2 128 rfl rfl
theorem k369 : Cond.stringRef "MeldHost" 195 "there would be nine keys" ∈ lw_tbl := mh_t2 (List.mem_of_getElem? (i := 129) rfl)
theorem k370 : Cond.methodLink "MeldHost" 98 ⟨"java/lang/IndexOutOfBoundsException", "<init>", "(Ljava/lang/String;)V"⟩ ∈ mh_TB := mh_g2 130 rfl rfl
theorem k371 : Cond.instanceMethod ⟨"java/lang/IndexOutOfBoundsException", "<init>", "(Ljava/lang/String;)V"⟩ ∈ mh_TB := mh_g2 131 rfl rfl
theorem k373 : Cond.methodLink "java/lang/IndexOutOfBoundsException" 7 ⟨"java/lang/RuntimeException", "<init>", "(Ljava/lang/String;)V"⟩ ∈ mh_TB := mh_g2 133 rfl rfl
theorem k374 : Cond.lays "java/lang/IndexOutOfBoundsException" "java/lang/Throwable" "depth" "I" ∈ mh_TB := mh_g2 134 rfl rfl
theorem k375 : Cond.superclass "java/lang/IndexOutOfBoundsException" "java/lang/RuntimeException" ∈ mh_TB := mh_g2 135 rfl rfl
theorem k376 : Cond.methodLink "MeldHost" 197 y_IN_write ∈ mh_TB := mh_g2 136 rfl rfl
theorem k377 : Cond.instanceMethod y_IN_write ∈ mh_TB := mh_g2 137 rfl rfl
theorem k378 : Cond.selects "MeldHost$Intention" y_IN_write y_IN_write ∈ mh_TB := mh_g2 138 rfl rfl
theorem k379 : Cond.code y_IN_write prog_2_method_5_code 6 (Option.none : Option FieldType) ∈ mh_TB := mh_g2 139 rfl rfl
theorem k380 : Cond.methodLink "MeldHost$Intention" 64 y_MA_max ∈ mh_TB := mh_g2 140 rfl rfl
theorem k381 : Cond.static y_MA_max ∈ mh_TB := mh_g2 141 rfl rfl
theorem k382 : Cond.code y_MA_max prog_17_method_65_code 2 (Option.some .int) ∈ mh_TB := mh_g2 142 rfl rfl
theorem k383 : Cond.methodLink "MeldHost" 81 y_NU_give ∈ mh_TB := mh_g2 143 rfl rfl
theorem k384 : Cond.instanceMethod y_NU_give ∈ mh_TB := mh_g2 144 rfl rfl
theorem k385 : Cond.selects "MeldHost$Numbers" y_NU_give y_NU_give ∈ mh_TB := mh_g2 145 rfl rfl
theorem k386 : Cond.code y_NU_give prog_4_method_2_code 4 (Option.none : Option FieldType) ∈ mh_TB := mh_g2 146 rfl rfl
theorem k387 : Cond.methodLink "MeldHost$Numbers" 22 y_KS_add ∈ mh_TB := mh_g2 147 rfl rfl
theorem k388 : Cond.methodLink "MeldHostLaw" 91 y_LW_delete ∈ mh_TB := mh_g2 148 rfl rfl
theorem k389 : Cond.static y_LW_delete ∈ mh_TB := mh_g2 149 rfl rfl
theorem k390 : Cond.codeWith y_LW_delete method_6_code 5 (Option.some .int) [(0, 10, 13, 13), (0, 10, 17, 15), (0, 10, 21, 27)] ∈ mh_TB := mh_g2 150 rfl rfl
theorem k391 : Cond.methodLink "MeldHostLaw" 29 y_MH_delete ∈ mh_TB := mh_g2 151 rfl rfl
theorem k392 : Cond.instanceMethod y_MH_delete ∈ mh_TB := mh_g2 152 rfl rfl
theorem k393 : Cond.selects "MeldHost" y_MH_delete y_MH_delete ∈ mh_TB := mh_g2 153 rfl rfl
theorem k394 : Cond.code y_MH_delete prog_1_method_5_code 4 (Option.some .int) ∈ mh_TB := mh_g2 154 rfl rfl
theorem k395 : Cond.methodLink "MeldHost" 85 y_NU_take ∈ mh_TB := mh_g2 155 rfl rfl
theorem k396 : Cond.instanceMethod y_NU_take ∈ mh_TB := mh_g2 156 rfl rfl
theorem k397 : Cond.selects "MeldHost$Numbers" y_NU_take y_NU_take ∈ mh_TB := mh_g2 157 rfl rfl
theorem k398 : Cond.code y_NU_take prog_4_method_3_code 2 (Option.none : Option FieldType) ∈ mh_TB := mh_g2 158 rfl rfl
theorem k399 : Cond.methodLink "MeldHost$Numbers" 26 y_KS_drop ∈ mh_TB := mh_g2 159 rfl rfl
theorem k400 : Cond.instanceMethod y_KS_drop ∈ mh_TB := mh_g2 160 rfl rfl
theorem k401 : Cond.selects "MeldHost$KeySet" y_KS_drop y_KS_drop ∈ mh_TB := mh_g2 161 rfl rfl
theorem k402 : Cond.code y_KS_drop prog_3_method_4_code 2 (Option.none : Option FieldType) ∈ mh_TB := mh_g2 162 rfl rfl
theorem k403 : Cond.constantLong "MeldHost$KeySet" 15 (-1 : Int64) ∈ mh_TB := mh_g2 163 rfl rfl
theorem k404 : Cond.methodLink "MeldHostLaw" 94 y_LW_part ∈ mh_TB := mh_g2 164 rfl rfl
theorem k405 : Cond.static y_LW_part ∈ mh_TB := mh_g2 165 rfl rfl
theorem k406 : Cond.codeWith y_LW_part method_7_code 7 (Option.some .int) [(0, 13, 16, 13), (0, 13, 20, 15), (0, 13, 24, 27)] ∈ mh_TB := mh_g2 166 rfl rfl
theorem k407 : Cond.methodLink "MeldHostLaw" 33 y_MH_part ∈ mh_TB := mh_g2 167 rfl rfl
theorem k408 : Cond.instanceMethod y_MH_part ∈ mh_TB := mh_g2 168 rfl rfl
theorem k409 : Cond.selects "MeldHost" y_MH_part y_MH_part ∈ mh_TB := mh_g2 169 rfl rfl
theorem k410 : Cond.code y_MH_part prog_1_method_6_code 6 (Option.some .long) ∈ mh_TB := mh_g2 170 rfl rfl
theorem k411 : Cond.methodLink "MeldHost" 88 y_MH_needPart ∈ mh_TB := mh_g2 171 rfl rfl
theorem k412 : Cond.static y_MH_needPart ∈ mh_TB := mh_g2 172 rfl rfl
theorem k413 : Cond.code y_MH_needPart prog_1_method_17_code 3 (Option.none : Option FieldType) ∈ mh_TB := mh_g2 173 rfl rfl
theorem k414 : Cond.stringRef "MeldHost" 96 "there would be nine parts" ∈ lw_tbl := mh_t2 (List.mem_of_getElem? (i := 174) rfl)
theorem k415 : Cond.methodLink "MeldHost" 99 y_IN_readPart ∈ mh_TB := mh_g2 175 rfl rfl
theorem k416 : Cond.instanceMethod y_IN_readPart ∈ mh_TB := mh_g2 176 rfl rfl
theorem k417 : Cond.selects "MeldHost$Intention" y_IN_readPart y_IN_readPart ∈ mh_TB := mh_g2 177 rfl rfl
theorem k418 : Cond.code y_IN_readPart prog_2_method_3_code 3 (Option.none : Option FieldType) ∈ mh_TB := mh_g2 178 rfl rfl
theorem k419 : Cond.methodLink "MeldHost" 102 y_NU_tell ∈ mh_TB := mh_g2 179 rfl rfl
theorem k420 : Cond.instanceMethod y_NU_tell ∈ mh_TB := mh_g2 180 rfl rfl
theorem k421 : Cond.selects "MeldHost$Numbers" y_NU_tell y_NU_tell ∈ mh_TB := mh_g2 181 rfl rfl
theorem k422 : Cond.code y_NU_tell prog_4_method_6_code 4 (Option.some .long) ∈ mh_TB := mh_g2 182 rfl rfl
theorem k423 : Cond.methodLink "MeldHost$Numbers" 42 y_NU_howMany ∈ mh_TB := mh_g2 183 rfl rfl
theorem k425 : Cond.instanceMethod y_NU_howMany ∈ mh_TB := mh_g2 185 rfl rfl
theorem k426 : Cond.code y_NU_howMany prog_4_method_7_code 5 (Option.some .int) ∈ mh_TB := mh_g2 186 rfl rfl
theorem k427 : Cond.methodLink "MeldHost$Numbers" 56 y_KS_has ∈ mh_TB := mh_g2 187 rfl rfl
theorem k428 : Cond.methodLink "MeldHost$Numbers" 46 y_NU_sum ∈ mh_TB := mh_g2 188 rfl rfl
theorem k430 : Cond.instanceMethod y_NU_sum ∈ mh_TB := mh_g2 190 rfl rfl
theorem k431 : Cond.code y_NU_sum prog_4_method_8_code 6 (Option.some .long) ∈ mh_TB := mh_g2 191 rfl rfl
theorem k432 : Cond.methodLink "MeldHost$Numbers" 50 y_NU_least ∈ mh_TB := mh_g2 192 rfl rfl
theorem k434 : Cond.instanceMethod y_NU_least ∈ mh_TB := mh_g2 194 rfl rfl
theorem k435 : Cond.code y_NU_least prog_4_method_9_code 4 (Option.some .int) ∈ mh_TB := mh_g2 195 rfl rfl
theorem k436 : Cond.methodLink "MeldHost$Numbers" 53 y_NU_greatest ∈ mh_TB := mh_g2 196 rfl rfl
theorem k438 : Cond.instanceMethod y_NU_greatest ∈ mh_TB := mh_g2 198 rfl rfl
theorem k439 : Cond.code y_NU_greatest prog_4_method_10_code 4 (Option.some .int) ∈ mh_TB := mh_g2 199 rfl rfl
theorem k440 : Cond.methodLink "MeldHostLaw" 98 y_LW_commit ∈ mh_TB := mh_g2 200 rfl rfl
theorem k441 : Cond.static y_LW_commit ∈ mh_TB := mh_g2 201 rfl rfl
theorem k442 : Cond.codeWith y_LW_commit method_8_code 4 (Option.some .int) [(0, 9, 12, 13), (0, 9, 15, 15), (0, 9, 18, 27)] ∈ mh_TB := mh_g2 202 rfl rfl
theorem k443 : Cond.methodLink "MeldHostLaw" 37 y_MH_commit ∈ mh_TB := mh_g2 203 rfl rfl
theorem k444 : Cond.instanceMethod y_MH_commit ∈ mh_TB := mh_g2 204 rfl rfl
theorem k445 : Cond.selects "MeldHost" y_MH_commit y_MH_commit ∈ mh_TB := mh_g2 205 rfl rfl
theorem k446 : Cond.code y_MH_commit prog_1_method_7_code 3 (Option.some .int) ∈ mh_TB := mh_g2 206 rfl rfl
theorem k447 : Cond.methodLink "MeldHost" 109 y_AL_size ∈ mh_TB := mh_g2 207 rfl rfl
theorem k448 : Cond.instanceMethod y_AL_size ∈ mh_TB := mh_g2 208 rfl rfl
theorem k449 : Cond.selects "java/util/ArrayList" y_AL_size y_AL_size ∈ mh_TB := mh_g2 209 rfl rfl
theorem k450 : Cond.code y_AL_size prog_25_method_8_code 1 (Option.some .int) ∈ mh_TB := mh_g2 210 rfl rfl
theorem k451 : Cond.stringRef "MeldHost" 113 "the log is full" ∈ lw_tbl := mh_t2 (List.mem_of_getElem? (i := 211) rfl)
theorem k452 : Cond.methodLink "MeldHost" 115 y_MH_canBeDone ∈ mh_TB := mh_g2 212 rfl rfl
theorem k454 : Cond.instanceMethod y_MH_canBeDone ∈ mh_TB := mh_g2 214 rfl rfl
theorem k455 : Cond.code y_MH_canBeDone prog_1_method_22_code 4 (Option.some .boolean) ∈ mh_TB := mh_g2 215 rfl rfl
theorem k456 : Cond.methodLink "MeldHost" 133 y_AL_get ∈ mh_TB := mh_g2 216 rfl rfl
theorem k457 : Cond.instanceMethod y_AL_get ∈ mh_TB := mh_g2 217 rfl rfl
theorem k458 : Cond.selects "java/util/ArrayList" y_AL_get y_AL_get ∈ mh_TB := mh_g2 218 rfl rfl
theorem k459 : Cond.code y_AL_get prog_25_method_20_code 2 (Option.some (.object "java/lang/Object")) ∈ mh_TB := mh_g2 219 rfl rfl
theorem k460 : Cond.methodLink "java/util/ArrayList" 118 y_OB_checkIndex ∈ mh_TB := mh_g2 220 rfl rfl
theorem k461 : Cond.static y_OB_checkIndex ∈ mh_TB := mh_g2 221 rfl rfl
theorem k462 : Cond.code y_OB_checkIndex prog_29_method_17_code 2 (Option.some .int) ∈ mh_TB := mh_g2 222 rfl rfl
theorem k463 : Cond.methodLink "java/util/Objects" 105 y_PR_checkIndex ∈ mh_TB := mh_g2 223 rfl rfl
theorem k464 : Cond.static y_PR_checkIndex ∈ mh_TB := mh_g2 224 rfl rfl
theorem k465 : Cond.code y_PR_checkIndex prog_33_method_11_code 3 (Option.some .int) ∈ mh_TB := mh_g2 225 rfl rfl
theorem k466 : Cond.methodLink "java/util/ArrayList" 123 y_AL_elementData ∈ mh_TB := mh_g2 226 rfl rfl
theorem k467 : Cond.instanceMethod y_AL_elementData ∈ mh_TB := mh_g2 227 rfl rfl
theorem k468 : Cond.selects "java/util/ArrayList" y_AL_elementData y_AL_elementData ∈ mh_TB := mh_g2 228 rfl rfl
theorem k469 : Cond.code y_AL_elementData prog_25_method_18_code 2 (Option.some (.object "java/lang/Object")) ∈ mh_TB := mh_g2 229 rfl rfl
theorem k470 : Cond.methodLink "MeldHost" 204 y_IN_isHitBy ∈ mh_TB := mh_g2 230 rfl rfl
theorem k471 : Cond.instanceMethod y_IN_isHitBy ∈ mh_TB := mh_g2 231 rfl rfl
theorem k472 : Cond.selects "MeldHost$Intention" y_IN_isHitBy y_IN_isHitBy ∈ mh_TB := mh_g2 232 rfl rfl
theorem k473 : Cond.code y_IN_isHitBy prog_2_method_9_code 4 (Option.some .boolean) ∈ mh_TB := mh_g2 233 rfl rfl
theorem k474 : Cond.methodLink "MeldHost$Intention" 73 y_IN_hasRead ∈ mh_TB := mh_g2 234 rfl rfl
theorem k476 : Cond.instanceMethod y_IN_hasRead ∈ mh_TB := mh_g2 236 rfl rfl
theorem k477 : Cond.code y_IN_hasRead prog_2_method_8_code 3 (Option.some .boolean) ∈ mh_TB := mh_g2 237 rfl rfl
theorem k478 : Cond.methodLink "MeldHost$Intention" 70 y_KS_has ∈ mh_TB := mh_g2 238 rfl rfl
theorem k479 : Cond.methodLink "MeldHost" 123 y_AL_add1 ∈ mh_TB := mh_g2 239 rfl rfl
theorem k480 : Cond.instanceMethod y_AL_add1 ∈ mh_TB := mh_g3 0 rfl rfl
theorem k481 : Cond.selects "java/util/ArrayList" y_AL_add1 y_AL_add1 ∈ mh_TB := mh_g3 1 rfl rfl
theorem k482 : Cond.code y_AL_add1 prog_25_method_25_code 2 (Option.some .boolean) ∈ mh_TB := mh_g3 2 rfl rfl
theorem k483 : Cond.methodLink "java/util/ArrayList" 131 y_AL_add3 ∈ mh_TB := mh_g3 3 rfl rfl
theorem k485 : Cond.instanceMethod y_AL_add3 ∈ mh_TB := mh_g3 5 rfl rfl
theorem k486 : Cond.code y_AL_add3 prog_25_method_24_code 4 (Option.none : Option FieldType) ∈ mh_TB := mh_g3 6 rfl rfl
theorem k487 : Cond.methodLink "java/util/ArrayList" 129 y_AL_grow0 ∈ mh_TB := mh_g3 7 rfl rfl
theorem k489 : Cond.instanceMethod y_AL_grow0 ∈ mh_TB := mh_g3 9 rfl rfl
theorem k490 : Cond.code y_AL_grow0 prog_25_method_7_code 1 (Option.some (.array (.object "java/lang/Object"))) ∈ mh_TB := mh_g3 10 rfl rfl
theorem k491 : Cond.methodLink "java/util/ArrayList" 69 y_AL_grow1 ∈ mh_TB := mh_g3 11 rfl rfl
theorem k493 : Cond.instanceMethod y_AL_grow1 ∈ mh_TB := mh_g3 13 rfl rfl
theorem k494 : Cond.code y_AL_grow1 prog_25_method_6_code 4 (Option.some (.array (.object "java/lang/Object"))) ∈ mh_TB := mh_g3 14 rfl rfl
theorem k495 : Cond.methodLink "java/util/ArrayList" 73 y_AS_newLength ∈ mh_TB := mh_g3 15 rfl rfl
theorem k496 : Cond.static y_AS_newLength ∈ mh_TB := mh_g3 16 rfl rfl
theorem k497 : Cond.code y_AS_newLength prog_32_method_27_code 4 (Option.some .int) ∈ mh_TB := mh_g3 17 rfl rfl
theorem k498 : Cond.methodLink "jdk/internal/util/ArraysSupport" 194 y_MA_max ∈ mh_TB := mh_g3 18 rfl rfl
theorem k499 : Cond.constant "jdk/internal/util/ArraysSupport" 200 (2147483639 : Int32) ∈ mh_TB := mh_g3 19 rfl rfl
theorem k500 : Cond.methodLink "jdk/internal/util/ArraysSupport" 201 y_AS_hugeLength ∈ mh_TB := mh_g3 20 rfl rfl
theorem k501 : Cond.static y_AS_hugeLength ∈ mh_TB := mh_g3 21 rfl rfl
theorem k502 : Cond.code y_AS_hugeLength prog_32_method_28_code 3 (Option.some .int) ∈ mh_TB := mh_g3 22 rfl rfl
theorem k503 : Cond.methodLink "java/util/ArrayList" 66 y_AR_copyOf2 ∈ mh_TB := mh_g3 23 rfl rfl
theorem k504 : Cond.static y_AR_copyOf2 ∈ mh_TB := mh_g3 24 rfl rfl
theorem k505 : Cond.code y_AR_copyOf2 prog_26_method_119_code 2 (Option.some (.array (.object "java/lang/Object"))) ∈ mh_TB := mh_g3 25 rfl rfl
theorem k506 : Cond.methodLink "java/util/Arrays" 86 ⟨"java/lang/Object", "getClass", "()Ljava/lang/Class;"⟩ ∈ mh_TB := mh_g3 26 rfl rfl
theorem k507 : Cond.instanceMethod ⟨"java/lang/Object", "getClass", "()Ljava/lang/Class;"⟩ ∈ mh_TB := mh_g3 27 rfl rfl
theorem k508 : Cond.sameMethod "java/lang/Object" "java/lang/Object" "getClass" "()Ljava/lang/Class;" ∈ mh_TB := mh_g3 28 rfl rfl
theorem k509 : Cond.selects "MeldHost" ⟨"java/lang/Object", "getClass", "()Ljava/lang/Class;"⟩ ⟨"java/lang/Object", "getClass", "()Ljava/lang/Class;"⟩ ∈ mh_TB := mh_g3 29 rfl rfl
theorem k510 : Cond.selects "MeldHost$Intention" ⟨"java/lang/Object", "getClass", "()Ljava/lang/Class;"⟩ ⟨"java/lang/Object", "getClass", "()Ljava/lang/Class;"⟩ ∈ mh_TB := mh_g3 30 rfl rfl
theorem k511 : Cond.selects "MeldHost$KeySet" ⟨"java/lang/Object", "getClass", "()Ljava/lang/Class;"⟩ ⟨"java/lang/Object", "getClass", "()Ljava/lang/Class;"⟩ ∈ mh_TB := mh_g3 31 rfl rfl
theorem k512 : Cond.selects "MeldHost$Numbers" ⟨"java/lang/Object", "getClass", "()Ljava/lang/Class;"⟩ ⟨"java/lang/Object", "getClass", "()Ljava/lang/Class;"⟩ ∈ mh_TB := mh_g3 32 rfl rfl
theorem k513 : Cond.selects "MeldHost$Server" ⟨"java/lang/Object", "getClass", "()Ljava/lang/Class;"⟩ ⟨"java/lang/Object", "getClass", "()Ljava/lang/Class;"⟩ ∈ mh_TB := mh_g3 33 rfl rfl
theorem k514 : Cond.selects "MeldHostModel" ⟨"java/lang/Object", "getClass", "()Ljava/lang/Class;"⟩ ⟨"java/lang/Object", "getClass", "()Ljava/lang/Class;"⟩ ∈ mh_TB := mh_g3 34 rfl rfl
theorem k515 : Cond.selects "MeldHostModel$Work" ⟨"java/lang/Object", "getClass", "()Ljava/lang/Class;"⟩ ⟨"java/lang/Object", "getClass", "()Ljava/lang/Class;"⟩ ∈ mh_TB := mh_g3 35 rfl rfl
theorem k516 : Cond.selects "java/lang/IllegalArgumentException" ⟨"java/lang/Object", "getClass", "()Ljava/lang/Class;"⟩ ⟨"java/lang/Object", "getClass", "()Ljava/lang/Class;"⟩ ∈ mh_TB := mh_g3 36 rfl rfl
theorem k517 : Cond.selects "java/lang/IllegalStateException" ⟨"java/lang/Object", "getClass", "()Ljava/lang/Class;"⟩ ⟨"java/lang/Object", "getClass", "()Ljava/lang/Class;"⟩ ∈ mh_TB := mh_g3 37 rfl rfl
theorem k518 : Cond.selects "java/lang/IndexOutOfBoundsException" ⟨"java/lang/Object", "getClass", "()Ljava/lang/Class;"⟩ ⟨"java/lang/Object", "getClass", "()Ljava/lang/Class;"⟩ ∈ mh_TB := mh_g3 38 rfl rfl
theorem k519 : Cond.selects "java/lang/UnsupportedOperationException" ⟨"java/lang/Object", "getClass", "()Ljava/lang/Class;"⟩ ⟨"java/lang/Object", "getClass", "()Ljava/lang/Class;"⟩ ∈ mh_TB := mh_g3 39 rfl rfl
theorem k520 : Cond.selects "java/util/ArrayList" ⟨"java/lang/Object", "getClass", "()Ljava/lang/Class;"⟩ ⟨"java/lang/Object", "getClass", "()Ljava/lang/Class;"⟩ ∈ mh_TB := mh_g3 40 rfl rfl
theorem k521 : Cond.native ⟨"java/lang/Object", "getClass", "()Ljava/lang/Class;"⟩ ∈ mh_TB := mh_g3 41 rfl rfl
theorem k522 : Cond.methodLink "java/util/Arrays" 300 y_AR_copyOf3 ∈ mh_TB := mh_g3 42 rfl rfl
theorem k523 : Cond.static y_AR_copyOf3 ∈ mh_TB := mh_g3 43 rfl rfl
theorem k524 : Cond.code y_AR_copyOf3 prog_26_method_120_code 4 (Option.some (.array (.object "java/lang/Object"))) ∈ mh_TB := mh_g3 44 rfl rfl
theorem k525 : Cond.classLink "java/util/Arrays" 110 "[Ljava/lang/Object;" ∈ mh_TB := mh_g3 45 rfl rfl
theorem k526 : Cond.arrayOver (.object "java/lang/Object") ∈ lw_tbl := mh_t3 (List.mem_of_getElem? (i := 46) rfl)
theorem k527 : Cond.classLink "java/util/Arrays" 2 "java/lang/Object" ∈ mh_TB := mh_g3 47 rfl rfl
theorem k528 : Cond.methodLink "java/util/Arrays" 304 y_MA_min ∈ mh_TB := mh_g3 48 rfl rfl
theorem k529 : Cond.static y_MA_min ∈ mh_TB := mh_g3 49 rfl rfl
theorem k530 : Cond.code y_MA_min prog_17_method_69_code 2 (Option.some .int) ∈ mh_TB := mh_g3 50 rfl rfl
theorem k531 : Cond.methodLink "java/util/Arrays" 150 ⟨"java/lang/System", "arraycopy", "(Ljava/lang/Object;ILjava/lang/Object;II)V"⟩ ∈ mh_TB := mh_g3 51 rfl rfl
theorem k532 : Cond.methodLink "java/util/ArrayList" 79 y_MA_max ∈ mh_TB := mh_g3 52 rfl rfl
theorem k533 : Cond.classLink "java/util/ArrayList" 7 "java/lang/Object" ∈ mh_TB := mh_g3 53 rfl rfl
theorem k534 : Cond.methodLink "MeldHostLaw" 102 y_LW_abort ∈ mh_TB := mh_g3 54 rfl rfl
theorem k535 : Cond.static y_LW_abort ∈ mh_TB := mh_g3 55 rfl rfl
theorem k536 : Cond.codeWith y_LW_abort method_9_code 3 (Option.some .int) [(0, 5, 8, 13), (0, 5, 11, 15)] ∈ mh_TB := mh_g3 56 rfl rfl
theorem k537 : Cond.methodLink "MeldHostLaw" 41 y_MH_abort ∈ mh_TB := mh_g3 57 rfl rfl
theorem k538 : Cond.instanceMethod y_MH_abort ∈ mh_TB := mh_g3 58 rfl rfl
theorem k539 : Cond.selects "MeldHost" y_MH_abort y_MH_abort ∈ mh_TB := mh_g3 59 rfl rfl
theorem k540 : Cond.code y_MH_abort prog_1_method_8_code 2 (Option.none : Option FieldType) ∈ mh_TB := mh_g3 60 rfl rfl
theorem k541 : Cond.methodLink "MeldHostLaw" 106 y_LW_advance ∈ mh_TB := mh_g3 61 rfl rfl
theorem k542 : Cond.static y_LW_advance ∈ mh_TB := mh_g3 62 rfl rfl
theorem k543 : Cond.codeWith y_LW_advance method_10_code 5 (Option.some .int) [(0, 10, 13, 13)] ∈ mh_TB := mh_g3 63 rfl rfl
theorem k544 : Cond.methodLink "MeldHostLaw" 45 y_MH_advance ∈ mh_TB := mh_g3 64 rfl rfl
theorem k545 : Cond.instanceMethod y_MH_advance ∈ mh_TB := mh_g3 65 rfl rfl
theorem k546 : Cond.selects "MeldHost" y_MH_advance y_MH_advance ∈ mh_TB := mh_g3 66 rfl rfl
theorem k547 : Cond.code y_MH_advance prog_1_method_9_code 6 (Option.some .int) ∈ mh_TB := mh_g3 67 rfl rfl
theorem k548 : Cond.methodLink "MeldHost" 127 y_MA_min ∈ mh_TB := mh_g3 68 rfl rfl
theorem k549 : Cond.methodLink "MeldHost" 137 y_SV_goThrough ∈ mh_TB := mh_g3 69 rfl rfl
theorem k550 : Cond.instanceMethod y_SV_goThrough ∈ mh_TB := mh_g3 70 rfl rfl
theorem k551 : Cond.selects "MeldHost$Server" y_SV_goThrough y_SV_goThrough ∈ mh_TB := mh_g3 71 rfl rfl
theorem k552 : Cond.code y_SV_goThrough prog_5_method_2_code 2 (Option.none : Option FieldType) ∈ mh_TB := mh_g3 72 rfl rfl
theorem k553 : Cond.methodLink "MeldHost$Server" 34 y_IN_writeInto ∈ mh_TB := mh_g3 73 rfl rfl
theorem k554 : Cond.instanceMethod y_IN_writeInto ∈ mh_TB := mh_g3 74 rfl rfl
theorem k555 : Cond.selects "MeldHost$Intention" y_IN_writeInto y_IN_writeInto ∈ mh_TB := mh_g3 75 rfl rfl
theorem k556 : Cond.code y_IN_writeInto prog_2_method_10_code 3 (Option.none : Option FieldType) ∈ mh_TB := mh_g3 76 rfl rfl
theorem k557 : Cond.methodLink "MeldHost$Intention" 76 y_NU_give ∈ mh_TB := mh_g3 77 rfl rfl
theorem k558 : Cond.methodLink "MeldHost$Intention" 82 y_NU_take ∈ mh_TB := mh_g3 78 rfl rfl
theorem k559 : Cond.methodLink "MeldHost$Server" 42 y_IN_signInto ∈ mh_TB := mh_g3 79 rfl rfl
theorem k560 : Cond.instanceMethod y_IN_signInto ∈ mh_TB := mh_g3 80 rfl rfl
theorem k561 : Cond.selects "MeldHost$Intention" y_IN_signInto y_IN_signInto ∈ mh_TB := mh_g3 81 rfl rfl
theorem k562 : Cond.code y_IN_signInto prog_2_method_11_code 4 (Option.none : Option FieldType) ∈ mh_TB := mh_g3 82 rfl rfl
theorem k563 : Cond.methodLink "MeldHostLaw" 109 y_LW_restart ∈ mh_TB := mh_g3 83 rfl rfl
theorem k564 : Cond.static y_LW_restart ∈ mh_TB := mh_g3 84 rfl rfl
theorem k565 : Cond.codeWith y_LW_restart method_11_code 3 (Option.some .int) [(0, 5, 8, 13), (0, 5, 11, 15)] ∈ mh_TB := mh_g3 85 rfl rfl
theorem k566 : Cond.methodLink "MeldHostLaw" 48 y_MH_restart ∈ mh_TB := mh_g3 86 rfl rfl
theorem k567 : Cond.instanceMethod y_MH_restart ∈ mh_TB := mh_g3 87 rfl rfl
theorem k568 : Cond.selects "MeldHost" y_MH_restart y_MH_restart ∈ mh_TB := mh_g3 88 rfl rfl
theorem k569 : Cond.code y_MH_restart prog_1_method_10_code 3 (Option.none : Option FieldType) ∈ mh_TB := mh_g3 89 rfl rfl
theorem k570 : Cond.stringRef "MeldHost" 141 "there were four restarts" ∈ lw_tbl := mh_t3 (List.mem_of_getElem? (i := 90) rfl)
theorem k571 : Cond.methodLink "MeldHost" 143 y_SV_startOver ∈ mh_TB := mh_g3 91 rfl rfl
theorem k572 : Cond.instanceMethod y_SV_startOver ∈ mh_TB := mh_g3 92 rfl rfl
theorem k573 : Cond.selects "MeldHost$Server" y_SV_startOver y_SV_startOver ∈ mh_TB := mh_g3 93 rfl rfl
theorem k574 : Cond.code y_SV_startOver prog_5_method_3_code 1 (Option.none : Option FieldType) ∈ mh_TB := mh_g3 94 rfl rfl
theorem k575 : Cond.methodLink "MeldHost$Server" 48 y_NU_takeAll ∈ mh_TB := mh_g3 95 rfl rfl
theorem k576 : Cond.instanceMethod y_NU_takeAll ∈ mh_TB := mh_g3 96 rfl rfl
theorem k577 : Cond.selects "MeldHost$Numbers" y_NU_takeAll y_NU_takeAll ∈ mh_TB := mh_g3 97 rfl rfl
theorem k578 : Cond.code y_NU_takeAll prog_4_method_4_code 1 (Option.none : Option FieldType) ∈ mh_TB := mh_g3 98 rfl rfl
theorem k579 : Cond.methodLink "MeldHost$Numbers" 29 y_KS_dropAll ∈ mh_TB := mh_g3 99 rfl rfl
theorem k580 : Cond.instanceMethod y_KS_dropAll ∈ mh_TB := mh_g3 100 rfl rfl
theorem k581 : Cond.selects "MeldHost$KeySet" y_KS_dropAll y_KS_dropAll ∈ mh_TB := mh_g3 101 rfl rfl
theorem k582 : Cond.code y_KS_dropAll prog_3_method_5_code 1 (Option.none : Option FieldType) ∈ mh_TB := mh_g3 102 rfl rfl
theorem k583 : Cond.methodLink "MeldHost$KeySet" 17 y_AR_fillJ ∈ mh_TB := mh_g3 103 rfl rfl
theorem k584 : Cond.static y_AR_fillJ ∈ mh_TB := mh_g3 104 rfl rfl
theorem k585 : Cond.code y_AR_fillJ prog_26_method_101_code 5 (Option.none : Option FieldType) ∈ mh_TB := mh_g3 105 rfl rfl
theorem k586 : Cond.methodLink "MeldHostLaw" 112 y_LW_state ∈ mh_TB := mh_g3 106 rfl rfl
theorem k587 : Cond.static y_LW_state ∈ mh_TB := mh_g3 107 rfl rfl
theorem k588 : Cond.codeWith y_LW_state method_12_code 5 (Option.some .int) [(0, 9, 12, 13), (0, 9, 16, 21)] ∈ mh_TB := mh_g3 108 rfl rfl
theorem k589 : Cond.methodLink "MeldHostLaw" 51 y_MH_state ∈ mh_TB := mh_g3 109 rfl rfl
theorem k590 : Cond.instanceMethod y_MH_state ∈ mh_TB := mh_g3 110 rfl rfl
theorem k591 : Cond.selects "MeldHost" y_MH_state y_MH_state ∈ mh_TB := mh_g3 111 rfl rfl
theorem k592 : Cond.code y_MH_state prog_1_method_11_code 3 (Option.some .long) ∈ mh_TB := mh_g3 112 rfl rfl
theorem k593 : Cond.methodLink "MeldHostLaw" 115 y_LW_look ∈ mh_TB := mh_g3 113 rfl rfl
theorem k594 : Cond.static y_LW_look ∈ mh_TB := mh_g3 114 rfl rfl
theorem k595 : Cond.codeWith y_LW_look method_13_code 7 (Option.some .int) [(0, 13, 16, 13)] ∈ mh_TB := mh_g3 115 rfl rfl
theorem k596 : Cond.methodLink "MeldHostLaw" 54 y_MH_look ∈ mh_TB := mh_g3 116 rfl rfl
theorem k597 : Cond.instanceMethod y_MH_look ∈ mh_TB := mh_g3 117 rfl rfl
theorem k598 : Cond.selects "MeldHost" y_MH_look y_MH_look ∈ mh_TB := mh_g3 118 rfl rfl
theorem k599 : Cond.code y_MH_look prog_1_method_12_code 5 (Option.some .long) ∈ mh_TB := mh_g3 119 rfl rfl
theorem k600 : Cond.methodLink "MeldHostLaw" 118 y_LW_verdict ∈ mh_TB := mh_g3 120 rfl rfl
theorem k601 : Cond.static y_LW_verdict ∈ mh_TB := mh_g3 121 rfl rfl
theorem k602 : Cond.codeWith y_LW_verdict method_14_code 5 (Option.some .int) [(0, 10, 13, 13), (0, 10, 17, 27)] ∈ mh_TB := mh_g3 122 rfl rfl
theorem k603 : Cond.methodLink "MeldHostLaw" 57 y_MH_verdict ∈ mh_TB := mh_g3 123 rfl rfl
theorem k604 : Cond.instanceMethod y_MH_verdict ∈ mh_TB := mh_g3 124 rfl rfl
theorem k605 : Cond.selects "MeldHost" y_MH_verdict y_MH_verdict ∈ mh_TB := mh_g3 125 rfl rfl
theorem k606 : Cond.code y_MH_verdict prog_1_method_13_code 4 (Option.some .int) ∈ mh_TB := mh_g3 126 rfl rfl
theorem k607 : Cond.methodLink "MeldHost" 149 y_MH_logged ∈ mh_TB := mh_g3 127 rfl rfl
theorem k609 : Cond.instanceMethod y_MH_logged ∈ mh_TB := mh_g3 129 rfl rfl
theorem k610 : Cond.code y_MH_logged prog_1_method_19_code 2 (Option.some (.object "MeldHost$Intention")) ∈ mh_TB := mh_g3 130 rfl rfl
theorem k611 : Cond.stringRef "MeldHost" 172 "there is no such intention" ∈ lw_tbl := mh_t3 (List.mem_of_getElem? (i := 131) rfl)
theorem k612 : Cond.methodLink "MeldHostLaw" 121 y_LW_intention ∈ mh_TB := mh_g3 132 rfl rfl
theorem k613 : Cond.static y_LW_intention ∈ mh_TB := mh_g3 133 rfl rfl
theorem k614 : Cond.codeWith y_LW_intention method_15_code 5 (Option.some .int) [(0, 10, 13, 13), (0, 10, 17, 27)] ∈ mh_TB := mh_g3 134 rfl rfl
theorem k615 : Cond.methodLink "MeldHostLaw" 60 y_MH_intention ∈ mh_TB := mh_g3 135 rfl rfl
theorem k616 : Cond.instanceMethod y_MH_intention ∈ mh_TB := mh_g3 136 rfl rfl
theorem k617 : Cond.selects "MeldHost" y_MH_intention y_MH_intention ∈ mh_TB := mh_g3 137 rfl rfl
theorem k618 : Cond.code y_MH_intention prog_1_method_14_code 3 (Option.some .int) ∈ mh_TB := mh_g3 138 rfl rfl
theorem k619 : Cond.methodLink "MeldHost" 152 y_IN_tell ∈ mh_TB := mh_g3 139 rfl rfl
theorem k620 : Cond.instanceMethod y_IN_tell ∈ mh_TB := mh_g3 140 rfl rfl
theorem k621 : Cond.selects "MeldHost$Intention" y_IN_tell y_IN_tell ∈ mh_TB := mh_g3 141 rfl rfl
theorem k622 : Cond.code y_IN_tell prog_2_method_12_code 2 (Option.some .int) ∈ mh_TB := mh_g3 142 rfl rfl
theorem k623 : Cond.methodLink "MeldHost$Intention" 85 y_KS_size ∈ mh_TB := mh_g3 143 rfl rfl
theorem k624 : Cond.instanceMethod y_KS_size ∈ mh_TB := mh_g3 144 rfl rfl
theorem k625 : Cond.selects "MeldHost$KeySet" y_KS_size y_KS_size ∈ mh_TB := mh_g3 145 rfl rfl
theorem k626 : Cond.code y_KS_size prog_3_method_7_code 3 (Option.some .int) ∈ mh_TB := mh_g3 146 rfl rfl
theorem k627 : Cond.methodLink "MeldHost$KeySet" 29 y_LG_bitCount ∈ mh_TB := mh_g3 147 rfl rfl
theorem k628 : Cond.static y_LG_bitCount ∈ mh_TB := mh_g3 148 rfl rfl
theorem k629 : Cond.code y_LG_bitCount prog_16_method_50_code 2 (Option.some .int) ∈ mh_TB := mh_g3 149 rfl rfl
theorem k630 : Cond.constantLong "java/lang/Long" 314 (6148914691236517205 : Int64) ∈ mh_TB := mh_g3 150 rfl rfl
theorem k631 : Cond.constantLong "java/lang/Long" 316 (3689348814741910323 : Int64) ∈ mh_TB := mh_g3 151 rfl rfl
theorem k632 : Cond.constantLong "java/lang/Long" 318 (1085102592571150095 : Int64) ∈ mh_TB := mh_g3 152 rfl rfl
theorem k633 : Cond.methodLink "MeldHostLaw" 124 y_LW_count ∈ mh_TB := mh_g3 153 rfl rfl
theorem k634 : Cond.static y_LW_count ∈ mh_TB := mh_g3 154 rfl rfl
theorem k635 : Cond.codeWith y_LW_count method_16_code 6 (Option.some .int) [(0, 12, 15, 13)] ∈ mh_TB := mh_g3 155 rfl rfl
theorem k636 : Cond.methodLink "MeldHostLaw" 63 y_MH_count ∈ mh_TB := mh_g3 156 rfl rfl
theorem k637 : Cond.instanceMethod y_MH_count ∈ mh_TB := mh_g3 157 rfl rfl
theorem k638 : Cond.selects "MeldHost" y_MH_count y_MH_count ∈ mh_TB := mh_g3 158 rfl rfl
theorem k639 : Cond.code y_MH_count prog_1_method_15_code 4 (Option.some .int) ∈ mh_TB := mh_g3 159 rfl rfl
theorem k640 : Cond.methodLink "MeldHost" 155 y_MH_howManyOpen ∈ mh_TB := mh_g3 160 rfl rfl
theorem k642 : Cond.instanceMethod y_MH_howManyOpen ∈ mh_TB := mh_g3 162 rfl rfl
theorem k643 : Cond.code y_MH_howManyOpen prog_1_method_23_code 3 (Option.some .int) ∈ mh_TB := mh_g3 163 rfl rfl
theorem k644 : Cond.classLink "MeldHostLaw" 68 "MeldHostModel" ∈ mh_TB := mh_g3 164 rfl rfl
theorem k645 : Cond.instantiable "MeldHostModel" 8 ∈ mh_TB := mh_g3 165 rfl rfl
theorem k646 : Cond.methodLink "MeldHostLaw" 70 y_MM_init ∈ mh_TB := mh_g3 166 rfl rfl
theorem k647 : Cond.instanceMethod y_MM_init ∈ mh_TB := mh_g3 167 rfl rfl
theorem k648 : Cond.code y_MM_init prog_7_method_1_code 2 (Option.none : Option FieldType) ∈ mh_TB := mh_g3 168 rfl rfl
theorem k649 : Cond.methodLink "MeldHostModel" 1 objectInit ∈ mh_TB := mh_g3 169 rfl rfl
theorem k650 : Cond.classLink "MeldHostModel" 9 "MeldHostModel$Work" ∈ mh_TB := mh_g3 170 rfl rfl
theorem k651 : Cond.arrayOver (.object "MeldHostModel$Work") ∈ lw_tbl := mh_t3 (List.mem_of_getElem? (i := 171) rfl)
theorem k652 : Cond.instantiable "MeldHostModel$Work" 14 ∈ mh_TB := mh_g3 172 rfl rfl
theorem k653 : Cond.methodLinkNest "MeldHostModel" 30 y_WK_init "MeldHostModel" ∈ mh_NW := mh_n3 173 rfl rfl
theorem k654 : Cond.instanceMethod y_WK_init ∈ mh_TB := mh_g3 174 rfl rfl
theorem k655 : Cond.code y_WK_init prog_8_method_1_code 1 (Option.none : Option FieldType) ∈ mh_TB := mh_g3 175 rfl rfl
theorem k656 : Cond.methodLink "MeldHostModel$Work" 3 objectInit ∈ mh_TB := mh_g3 176 rfl rfl
theorem k657 : Cond.fieldLink "MeldHostModel" 72 "MeldHostModel$Work" "snapshot" "I" ∈ mh_TB := mh_g3 177 rfl rfl
theorem k658 : Cond.fieldLink "MeldHostModel" 69 "MeldHostModel$Work" "level" "I" ∈ mh_TB := mh_g3 178 rfl rfl
theorem k659 : Cond.fieldLink "MeldHostModel" 66 "MeldHostModel$Work" "server" "I" ∈ mh_TB := mh_g3 179 rfl rfl
theorem k660 : Cond.fieldLink "MeldHostModel$Work" 32 "MeldHostModel$Work" "parts" "I" ∈ mh_TB := mh_g3 180 rfl rfl
theorem k661 : Cond.fieldLink "MeldHostModel" 100 "MeldHostModel$Work" "parts" "I" ∈ mh_TB := mh_g3 181 rfl rfl
theorem k662 : Cond.fieldLink "MeldHostModel$Work" 36 "MeldHostModel$Work" "writes" "I" ∈ mh_TB := mh_g3 182 rfl rfl
theorem k663 : Cond.fieldLink "MeldHostModel" 43 "MeldHostModel$Work" "writes" "I" ∈ mh_TB := mh_g3 183 rfl rfl
theorem k664 : Cond.fieldLink "MeldHostModel$Work" 39 "MeldHostModel$Work" "reads" "I" ∈ mh_TB := mh_g3 184 rfl rfl
theorem k665 : Cond.fieldLink "MeldHostModel" 85 "MeldHostModel$Work" "reads" "I" ∈ mh_TB := mh_g3 185 rfl rfl
theorem k666 : Cond.fieldLink "MeldHostModel" 61 "MeldHostModel$Work" "open" "Z" ∈ mh_TB := mh_g3 186 rfl rfl
theorem k667 : Cond.fieldLink "MeldHostModel$Work" 42 "MeldHostModel$Work" "good" "Z" ∈ mh_TB := mh_g3 187 rfl rfl
theorem k668 : Cond.fieldLink "MeldHostModel" 35 "MeldHostModel$Work" "good" "Z" ∈ mh_TB := mh_g3 188 rfl rfl
theorem k669 : Cond.fieldLink "MeldHostModel$Work" 9 "MeldHostModel$Work" "read" "[Z" ∈ mh_TB := mh_g3 189 rfl rfl
theorem k670 : Cond.fieldLink "MeldHostModel" 82 "MeldHostModel$Work" "read" "[Z" ∈ mh_TB := mh_g3 190 rfl rfl
theorem k671 : Cond.fieldLink "MeldHostModel$Work" 15 "MeldHostModel$Work" "low" "[I" ∈ mh_TB := mh_g3 191 rfl rfl
theorem k672 : Cond.fieldLink "MeldHostModel" 103 "MeldHostModel$Work" "low" "[I" ∈ mh_TB := mh_g3 192 rfl rfl
theorem k673 : Cond.fieldLink "MeldHostModel$Work" 19 "MeldHostModel$Work" "high" "[I" ∈ mh_TB := mh_g3 193 rfl rfl
theorem k674 : Cond.fieldLink "MeldHostModel" 106 "MeldHostModel$Work" "high" "[I" ∈ mh_TB := mh_g3 194 rfl rfl
theorem k675 : Cond.fieldLink "MeldHostModel$Work" 22 "MeldHostModel$Work" "key" "[I" ∈ mh_TB := mh_g3 195 rfl rfl
theorem k676 : Cond.fieldLink "MeldHostModel" 46 "MeldHostModel$Work" "key" "[I" ∈ mh_TB := mh_g3 196 rfl rfl
theorem k677 : Cond.fieldLink "MeldHostModel$Work" 25 "MeldHostModel$Work" "value" "[J" ∈ mh_TB := mh_g3 197 rfl rfl
theorem k678 : Cond.fieldLink "MeldHostModel" 49 "MeldHostModel$Work" "value" "[J" ∈ mh_TB := mh_g3 198 rfl rfl
theorem k679 : Cond.fieldLink "MeldHostModel$Work" 29 "MeldHostModel$Work" "none" "[Z" ∈ mh_TB := mh_g3 199 rfl rfl
theorem k680 : Cond.fieldLink "MeldHostModel" 50 "MeldHostModel$Work" "none" "[Z" ∈ mh_TB := mh_g3 200 rfl rfl
theorem k681 : Cond.lays "MeldHostModel$Work" "MeldHostModel$Work" "snapshot" "I" ∈ mh_TB := mh_g3 201 rfl rfl
theorem k683 : Cond.lays "MeldHostModel$Work" "MeldHostModel$Work" "level" "I" ∈ mh_TB := mh_g3 203 rfl rfl
theorem k685 : Cond.lays "MeldHostModel$Work" "MeldHostModel$Work" "server" "I" ∈ mh_TB := mh_g3 205 rfl rfl
theorem k687 : Cond.lays "MeldHostModel$Work" "MeldHostModel$Work" "parts" "I" ∈ mh_TB := mh_g3 207 rfl rfl
theorem k689 : Cond.lays "MeldHostModel$Work" "MeldHostModel$Work" "writes" "I" ∈ mh_TB := mh_g3 209 rfl rfl
theorem k691 : Cond.lays "MeldHostModel$Work" "MeldHostModel$Work" "reads" "I" ∈ mh_TB := mh_g3 211 rfl rfl
theorem k693 : Cond.lays "MeldHostModel$Work" "MeldHostModel$Work" "open" "Z" ∈ mh_TB := mh_g3 213 rfl rfl
theorem k695 : Cond.lays "MeldHostModel$Work" "MeldHostModel$Work" "good" "Z" ∈ mh_TB := mh_g3 215 rfl rfl
theorem k697 : Cond.laysFinal "MeldHostModel$Work" "MeldHostModel$Work" "read" "[Z" ∈ mh_TB := mh_g3 217 rfl rfl
theorem k699 : Cond.laysFinal "MeldHostModel$Work" "MeldHostModel$Work" "low" "[I" ∈ mh_TB := mh_g3 219 rfl rfl
theorem k701 : Cond.laysFinal "MeldHostModel$Work" "MeldHostModel$Work" "high" "[I" ∈ mh_TB := mh_g3 221 rfl rfl
theorem k703 : Cond.laysFinal "MeldHostModel$Work" "MeldHostModel$Work" "key" "[I" ∈ mh_TB := mh_g3 223 rfl rfl
theorem k705 : Cond.laysFinal "MeldHostModel$Work" "MeldHostModel$Work" "value" "[J" ∈ mh_TB := mh_g3 225 rfl rfl
theorem k707 : Cond.laysFinal "MeldHostModel$Work" "MeldHostModel$Work" "none" "[Z" ∈ mh_TB := mh_g3 227 rfl rfl
theorem k709 : Cond.superclass "MeldHostModel$Work" "java/lang/Object" ∈ mh_TB := mh_g3 229 rfl rfl
theorem k710 : Cond.fieldLink "MeldHostModel" 31 "MeldHostModel" "err" "I" ∈ mh_TB := mh_g3 230 rfl rfl
theorem k711 : Cond.fieldLink "MeldHostModel" 11 "MeldHostModel" "log" "[LMeldHostModel$Work;" ∈ mh_TB := mh_g3 231 rfl rfl
theorem k712 : Cond.fieldLink "MeldHostModel" 15 "MeldHostModel" "open" "[LMeldHostModel$Work;" ∈ mh_TB := mh_g3 232 rfl rfl
theorem k713 : Cond.fieldLink "MeldHostModel" 18 "MeldHostModel" "at" "[I" ∈ mh_TB := mh_g3 233 rfl rfl
theorem k714 : Cond.fieldLink "MeldHostModel" 22 "MeldHostModel" "value" "[J" ∈ mh_TB := mh_g3 234 rfl rfl
theorem k715 : Cond.fieldLink "MeldHostModel" 26 "MeldHostModel" "has" "[Z" ∈ mh_TB := mh_g3 235 rfl rfl
theorem k716 : Cond.fieldLink "MeldHostModel" 113 "MeldHostModel" "many" "I" ∈ mh_TB := mh_g3 236 rfl rfl
theorem k717 : Cond.fieldLink "MeldHostModel" 125 "MeldHostModel" "restarts" "I" ∈ mh_TB := mh_g3 237 rfl rfl
theorem k718 : Cond.lays "MeldHostModel" "MeldHostModel" "err" "I" ∈ mh_TB := mh_g3 238 rfl rfl
theorem k720 : Cond.laysFinal "MeldHostModel" "MeldHostModel" "log" "[LMeldHostModel$Work;" ∈ mh_TB := mh_g4 0 rfl rfl
theorem k722 : Cond.laysFinal "MeldHostModel" "MeldHostModel" "open" "[LMeldHostModel$Work;" ∈ mh_TB := mh_g4 2 rfl rfl
theorem k724 : Cond.laysFinal "MeldHostModel" "MeldHostModel" "at" "[I" ∈ mh_TB := mh_g4 4 rfl rfl
theorem k726 : Cond.laysFinal "MeldHostModel" "MeldHostModel" "value" "[J" ∈ mh_TB := mh_g4 6 rfl rfl
theorem k728 : Cond.laysFinal "MeldHostModel" "MeldHostModel" "has" "[Z" ∈ mh_TB := mh_g4 8 rfl rfl
theorem k730 : Cond.lays "MeldHostModel" "MeldHostModel" "many" "I" ∈ mh_TB := mh_g4 10 rfl rfl
theorem k732 : Cond.lays "MeldHostModel" "MeldHostModel" "restarts" "I" ∈ mh_TB := mh_g4 12 rfl rfl
theorem k734 : Cond.superclass "MeldHostModel" "java/lang/Object" ∈ mh_TB := mh_g4 14 rfl rfl
theorem k735 : Cond.methodLink "MeldHostLaw" 77 y_MM_thrown ∈ mh_TB := mh_g4 15 rfl rfl
theorem k736 : Cond.instanceMethod y_MM_thrown ∈ mh_TB := mh_g4 16 rfl rfl
theorem k737 : Cond.selects "MeldHostModel" y_MM_thrown y_MM_thrown ∈ mh_TB := mh_g4 17 rfl rfl
theorem k738 : Cond.code y_MM_thrown prog_7_method_2_code 1 (Option.some .int) ∈ mh_TB := mh_g4 18 rfl rfl
theorem k739 : Cond.methodLink "MeldHostLaw" 76 y_MM_begin ∈ mh_TB := mh_g4 19 rfl rfl
theorem k740 : Cond.instanceMethod y_MM_begin ∈ mh_TB := mh_g4 20 rfl rfl
theorem k741 : Cond.selects "MeldHostModel" y_MM_begin y_MM_begin ∈ mh_TB := mh_g4 21 rfl rfl
theorem k742 : Cond.code y_MM_begin prog_7_method_8_code 5 (Option.none : Option FieldType) ∈ mh_TB := mh_g4 22 rfl rfl
theorem k743 : Cond.methodLink "MeldHostModel" 53 y_MM_in ∈ mh_TB := mh_g4 23 rfl rfl
theorem k744 : Cond.static y_MM_in ∈ mh_TB := mh_g4 24 rfl rfl
theorem k745 : Cond.code y_MM_in prog_7_method_4_code 2 (Option.some .boolean) ∈ mh_TB := mh_g4 25 rfl rfl
theorem k746 : Cond.methodLink "MeldHostModel" 57 y_MM_fails ∈ mh_TB := mh_g4 26 rfl rfl
theorem k748 : Cond.instanceMethod y_MM_fails ∈ mh_TB := mh_g4 28 rfl rfl
theorem k749 : Cond.code y_MM_fails prog_7_method_3_code 3 (Option.some .boolean) ∈ mh_TB := mh_g4 29 rfl rfl
theorem k750 : Cond.methodLink "MeldHostModel" 63 y_WK_clear ∈ mh_TB := mh_g4 30 rfl rfl
theorem k751 : Cond.instanceMethod y_WK_clear ∈ mh_TB := mh_g4 31 rfl rfl
theorem k752 : Cond.selects "MeldHostModel$Work" y_WK_clear y_WK_clear ∈ mh_TB := mh_g4 32 rfl rfl
theorem k753 : Cond.code y_WK_clear prog_8_method_2_code 2 (Option.none : Option FieldType) ∈ mh_TB := mh_g4 33 rfl rfl
theorem k754 : Cond.methodLink "MeldHostLaw" 84 y_MM_get ∈ mh_TB := mh_g4 34 rfl rfl
theorem k755 : Cond.instanceMethod y_MM_get ∈ mh_TB := mh_g4 35 rfl rfl
theorem k756 : Cond.selects "MeldHostModel" y_MM_get y_MM_get ∈ mh_TB := mh_g4 36 rfl rfl
theorem k757 : Cond.code y_MM_get prog_7_method_10_code 4 (Option.some .long) ∈ mh_TB := mh_g4 37 rfl rfl
theorem k758 : Cond.methodLink "MeldHostModel" 75 y_MM_shut ∈ mh_TB := mh_g4 38 rfl rfl
theorem k760 : Cond.instanceMethod y_MM_shut ∈ mh_TB := mh_g4 40 rfl rfl
theorem k761 : Cond.code y_MM_shut prog_7_method_9_code 3 (Option.some .boolean) ∈ mh_TB := mh_g4 41 rfl rfl
theorem k762 : Cond.methodLink "MeldHostModel" 78 y_WK_written ∈ mh_TB := mh_g4 42 rfl rfl
theorem k763 : Cond.instanceMethod y_WK_written ∈ mh_TB := mh_g4 43 rfl rfl
theorem k764 : Cond.selects "MeldHostModel$Work" y_WK_written y_WK_written ∈ mh_TB := mh_g4 44 rfl rfl
theorem k765 : Cond.code y_WK_written prog_8_method_3_code 3 (Option.some .int) ∈ mh_TB := mh_g4 45 rfl rfl
theorem k766 : Cond.methodLink "MeldHostModel" 88 y_MM_upTo ∈ mh_TB := mh_g4 46 rfl rfl
theorem k768 : Cond.instanceMethod y_MM_upTo ∈ mh_TB := mh_g4 48 rfl rfl
theorem k769 : Cond.code y_MM_upTo prog_7_method_5_code 3 (Option.none : Option FieldType) ∈ mh_TB := mh_g4 49 rfl rfl
theorem k770 : Cond.methodLink "MeldHostModel" 39 y_MM_apply ∈ mh_TB := mh_g4 50 rfl rfl
theorem k772 : Cond.instanceMethod y_MM_apply ∈ mh_TB := mh_g4 52 rfl rfl
theorem k773 : Cond.code y_MM_apply prog_7_method_6_code 3 (Option.none : Option FieldType) ∈ mh_TB := mh_g4 53 rfl rfl
theorem k774 : Cond.methodLink "MeldHostLaw" 90 y_MM_put ∈ mh_TB := mh_g4 54 rfl rfl
theorem k775 : Cond.instanceMethod y_MM_put ∈ mh_TB := mh_g4 55 rfl rfl
theorem k776 : Cond.selects "MeldHostModel" y_MM_put y_MM_put ∈ mh_TB := mh_g4 56 rfl rfl
theorem k777 : Cond.code y_MM_put prog_7_method_12_code 5 (Option.some .int) ∈ mh_TB := mh_g4 57 rfl rfl
theorem k778 : Cond.methodLink "MeldHostModel" 92 y_MM_write ∈ mh_TB := mh_g4 58 rfl rfl
theorem k780 : Cond.instanceMethod y_MM_write ∈ mh_TB := mh_g4 60 rfl rfl
theorem k781 : Cond.code y_MM_write prog_7_method_11_code 8 (Option.some .int) ∈ mh_TB := mh_g4 61 rfl rfl
theorem k782 : Cond.methodLink "MeldHostLaw" 93 y_MM_delete ∈ mh_TB := mh_g4 62 rfl rfl
theorem k783 : Cond.instanceMethod y_MM_delete ∈ mh_TB := mh_g4 63 rfl rfl
theorem k784 : Cond.selects "MeldHostModel" y_MM_delete y_MM_delete ∈ mh_TB := mh_g4 64 rfl rfl
theorem k785 : Cond.code y_MM_delete prog_7_method_13_code 3 (Option.some .int) ∈ mh_TB := mh_g4 65 rfl rfl
theorem k786 : Cond.methodLink "MeldHostLaw" 97 y_MM_part ∈ mh_TB := mh_g4 66 rfl rfl
theorem k787 : Cond.instanceMethod y_MM_part ∈ mh_TB := mh_g4 67 rfl rfl
theorem k788 : Cond.selects "MeldHostModel" y_MM_part y_MM_part ∈ mh_TB := mh_g4 68 rfl rfl
theorem k789 : Cond.code y_MM_part prog_7_method_15_code 6 (Option.some .long) ∈ mh_TB := mh_g4 69 rfl rfl
theorem k790 : Cond.methodLink "MeldHostModel" 96 y_MM_bad ∈ mh_TB := mh_g4 70 rfl rfl
theorem k791 : Cond.static y_MM_bad ∈ mh_TB := mh_g4 71 rfl rfl
theorem k792 : Cond.code y_MM_bad prog_7_method_14_code 3 (Option.some .boolean) ∈ mh_TB := mh_g4 72 rfl rfl
theorem k793 : Cond.methodLink "MeldHostModel" 109 y_MM_told ∈ mh_TB := mh_g4 73 rfl rfl
theorem k795 : Cond.instanceMethod y_MM_told ∈ mh_TB := mh_g4 75 rfl rfl
theorem k796 : Cond.code y_MM_told prog_7_method_7_code 10 (Option.some .long) ∈ mh_TB := mh_g4 76 rfl rfl
theorem k797 : Cond.methodLink "MeldHostLaw" 101 y_MM_commit ∈ mh_TB := mh_g4 77 rfl rfl
theorem k798 : Cond.instanceMethod y_MM_commit ∈ mh_TB := mh_g4 78 rfl rfl
theorem k799 : Cond.selects "MeldHostModel" y_MM_commit y_MM_commit ∈ mh_TB := mh_g4 79 rfl rfl
theorem k800 : Cond.code y_MM_commit prog_7_method_17_code 3 (Option.some .int) ∈ mh_TB := mh_g4 80 rfl rfl
theorem k801 : Cond.methodLink "MeldHostModel" 116 y_MM_good ∈ mh_TB := mh_g4 81 rfl rfl
theorem k803 : Cond.instanceMethod y_MM_good ∈ mh_TB := mh_g4 83 rfl rfl
theorem k804 : Cond.code y_MM_good prog_7_method_16_code 8 (Option.some .boolean) ∈ mh_TB := mh_g4 84 rfl rfl
theorem k805 : Cond.methodLink "MeldHostLaw" 105 y_MM_abort ∈ mh_TB := mh_g4 85 rfl rfl
theorem k806 : Cond.instanceMethod y_MM_abort ∈ mh_TB := mh_g4 86 rfl rfl
theorem k807 : Cond.selects "MeldHostModel" y_MM_abort y_MM_abort ∈ mh_TB := mh_g4 87 rfl rfl
theorem k808 : Cond.code y_MM_abort prog_7_method_18_code 2 (Option.none : Option FieldType) ∈ mh_TB := mh_g4 88 rfl rfl
theorem k809 : Cond.methodLink "MeldHostLaw" 108 y_MM_advance ∈ mh_TB := mh_g4 89 rfl rfl
theorem k810 : Cond.instanceMethod y_MM_advance ∈ mh_TB := mh_g4 90 rfl rfl
theorem k811 : Cond.selects "MeldHostModel" y_MM_advance y_MM_advance ∈ mh_TB := mh_g4 91 rfl rfl
theorem k812 : Cond.code y_MM_advance prog_7_method_19_code 4 (Option.some .int) ∈ mh_TB := mh_g4 92 rfl rfl
theorem k813 : Cond.methodLink "MeldHostModel" 119 y_MA_min ∈ mh_TB := mh_g4 93 rfl rfl
theorem k814 : Cond.methodLink "MeldHostLaw" 111 y_MM_restart ∈ mh_TB := mh_g4 94 rfl rfl
theorem k815 : Cond.instanceMethod y_MM_restart ∈ mh_TB := mh_g4 95 rfl rfl
theorem k816 : Cond.selects "MeldHostModel" y_MM_restart y_MM_restart ∈ mh_TB := mh_g4 96 rfl rfl
theorem k817 : Cond.code y_MM_restart prog_7_method_20_code 3 (Option.none : Option FieldType) ∈ mh_TB := mh_g4 97 rfl rfl
theorem k818 : Cond.methodLink "MeldHostLaw" 114 y_MM_state ∈ mh_TB := mh_g4 98 rfl rfl
theorem k819 : Cond.instanceMethod y_MM_state ∈ mh_TB := mh_g4 99 rfl rfl
theorem k820 : Cond.selects "MeldHostModel" y_MM_state y_MM_state ∈ mh_TB := mh_g4 100 rfl rfl
theorem k821 : Cond.code y_MM_state prog_7_method_21_code 3 (Option.some .long) ∈ mh_TB := mh_g4 101 rfl rfl
theorem k822 : Cond.methodLink "MeldHostLaw" 117 y_MM_look ∈ mh_TB := mh_g4 102 rfl rfl
theorem k823 : Cond.instanceMethod y_MM_look ∈ mh_TB := mh_g4 103 rfl rfl
theorem k824 : Cond.selects "MeldHostModel" y_MM_look y_MM_look ∈ mh_TB := mh_g4 104 rfl rfl
theorem k825 : Cond.code y_MM_look prog_7_method_22_code 5 (Option.some .long) ∈ mh_TB := mh_g4 105 rfl rfl
theorem k826 : Cond.methodLink "MeldHostLaw" 120 y_MM_verdict ∈ mh_TB := mh_g4 106 rfl rfl
theorem k827 : Cond.instanceMethod y_MM_verdict ∈ mh_TB := mh_g4 107 rfl rfl
theorem k828 : Cond.selects "MeldHostModel" y_MM_verdict y_MM_verdict ∈ mh_TB := mh_g4 108 rfl rfl
theorem k829 : Cond.code y_MM_verdict prog_7_method_23_code 3 (Option.some .int) ∈ mh_TB := mh_g4 109 rfl rfl
theorem k830 : Cond.methodLink "MeldHostLaw" 123 y_MM_intention ∈ mh_TB := mh_g4 110 rfl rfl
theorem k831 : Cond.instanceMethod y_MM_intention ∈ mh_TB := mh_g4 111 rfl rfl
theorem k832 : Cond.selects "MeldHostModel" y_MM_intention y_MM_intention ∈ mh_TB := mh_g4 112 rfl rfl
theorem k833 : Cond.code y_MM_intention prog_7_method_24_code 4 (Option.some .int) ∈ mh_TB := mh_g4 113 rfl rfl
theorem k834 : Cond.methodLink "MeldHostLaw" 127 y_MM_count ∈ mh_TB := mh_g4 114 rfl rfl
theorem k835 : Cond.instanceMethod y_MM_count ∈ mh_TB := mh_g4 115 rfl rfl
theorem k836 : Cond.selects "MeldHostModel" y_MM_count y_MM_count ∈ mh_TB := mh_g4 116 rfl rfl
theorem k837 : Cond.code y_MM_count prog_7_method_25_code 7 (Option.some .int) ∈ mh_TB := mh_g4 117 rfl rfl
theorem k838 : Cond.constantLong "MeldHostLaw" 85 (4294967295 : Int64) ∈ mh_TB := mh_g4 118 rfl rfl
theorem k839 : Cond.sameMethod "java/lang/Throwable" "java/lang/Throwable" "fillInStackTrace" "(I)Ljava/lang/Throwable;" ∈ mh_TB := mh_g4 119 rfl rfl
theorem k840 : Cond.castable "MeldHost$Intention" "MeldHost$Intention" ∈ mh_NW := mh_n4 120 rfl rfl
theorem k841 : Cond.sameMethod "[Ljava/lang/Object;" "java/lang/Object" "getClass" "()Ljava/lang/Class;" ∈ mh_TB := mh_g4 121 rfl rfl
theorem k842 : Cond.selects "[Ljava/lang/Object;" ⟨"java/lang/Object", "getClass", "()Ljava/lang/Class;"⟩ ⟨"java/lang/Object", "getClass", "()Ljava/lang/Class;"⟩ ∈ mh_TB := mh_g4 122 rfl rfl
theorem k843 : Cond.declares ⟨"java/lang/Object", "getClass", "()Ljava/lang/Class;"⟩ ∈ mh_NW := mh_n4 123 rfl rfl
theorem k844 : Cond.castable "MeldHost" "java/lang/Object" ∈ mh_NW := mh_n4 124 rfl rfl
theorem k845 : Cond.castable "MeldHost$Server" "java/lang/Object" ∈ mh_NW := mh_n4 125 rfl rfl
theorem k846 : Cond.castable "MeldHost$Numbers" "java/lang/Object" ∈ mh_NW := mh_n4 126 rfl rfl
theorem k847 : Cond.castable "MeldHost$KeySet" "java/lang/Object" ∈ mh_NW := mh_n4 127 rfl rfl
theorem k848 : Cond.castable "MeldHostModel" "java/lang/Object" ∈ mh_NW := mh_n4 128 rfl rfl
theorem k849 : Cond.castable "MeldHostModel$Work" "java/lang/Object" ∈ mh_NW := mh_n4 129 rfl rfl
theorem k850 : Cond.castable "MeldHost$Intention" "java/lang/Object" ∈ mh_NW := mh_n4 130 rfl rfl
theorem k851 : Cond.castable "java/lang/String" "java/lang/Object" ∈ mh_NW := mh_n4 131 rfl rfl
theorem kp0 : Cond.selects "java/lang/Throwable" ⟨"java/lang/Throwable", "fillInStackTrace", "(I)Ljava/lang/Throwable;"⟩ ⟨"java/lang/Throwable", "fillInStackTrace", "(I)Ljava/lang/Throwable;"⟩ ∈ mh_TB := mh_inP 0 rfl rfl
theorem kp1 : Cond.selects "MeldHost" y_MH_openDraft y_MH_openDraft ∈ mh_TB := mh_inP 1 rfl rfl
theorem kp2 : Cond.selects "MeldHost$Intention" y_IN_hasWritten y_IN_hasWritten ∈ mh_TB := mh_inP 2 rfl rfl
theorem kp3 : Cond.selects "MeldHost$Intention" y_IN_placeOf y_IN_placeOf ∈ mh_TB := mh_inP 3 rfl rfl
theorem kp4 : Cond.selects "MeldHost$Numbers" y_NU_howMany y_NU_howMany ∈ mh_TB := mh_inP 4 rfl rfl
theorem kp5 : Cond.selects "MeldHost$Numbers" y_NU_sum y_NU_sum ∈ mh_TB := mh_inP 5 rfl rfl
theorem kp6 : Cond.selects "MeldHost$Numbers" y_NU_least y_NU_least ∈ mh_TB := mh_inP 6 rfl rfl
theorem kp7 : Cond.selects "MeldHost$Numbers" y_NU_greatest y_NU_greatest ∈ mh_TB := mh_inP 7 rfl rfl
theorem kp8 : Cond.selects "MeldHost" y_MH_canBeDone y_MH_canBeDone ∈ mh_TB := mh_inP 8 rfl rfl
theorem kp9 : Cond.selects "MeldHost$Intention" y_IN_hasRead y_IN_hasRead ∈ mh_TB := mh_inP 9 rfl rfl
theorem kp10 : Cond.selects "java/util/ArrayList" y_AL_add3 y_AL_add3 ∈ mh_TB := mh_inP 10 rfl rfl
theorem kp11 : Cond.selects "java/util/ArrayList" y_AL_grow0 y_AL_grow0 ∈ mh_TB := mh_inP 11 rfl rfl
theorem kp12 : Cond.selects "java/util/ArrayList" y_AL_grow1 y_AL_grow1 ∈ mh_TB := mh_inP 12 rfl rfl
theorem kp13 : Cond.selects "MeldHost" y_MH_logged y_MH_logged ∈ mh_TB := mh_inP 13 rfl rfl
theorem kp14 : Cond.selects "MeldHost" y_MH_howManyOpen y_MH_howManyOpen ∈ mh_TB := mh_inP 14 rfl rfl
theorem kp15 : Cond.selects "MeldHostModel" y_MM_fails y_MM_fails ∈ mh_TB := mh_inP 15 rfl rfl
theorem kp16 : Cond.selects "MeldHostModel" y_MM_shut y_MM_shut ∈ mh_TB := mh_inP 16 rfl rfl
theorem kp17 : Cond.selects "MeldHostModel" y_MM_upTo y_MM_upTo ∈ mh_TB := mh_inP 17 rfl rfl
theorem kp18 : Cond.selects "MeldHostModel" y_MM_apply y_MM_apply ∈ mh_TB := mh_inP 18 rfl rfl
theorem kp19 : Cond.selects "MeldHostModel" y_MM_write y_MM_write ∈ mh_TB := mh_inP 19 rfl rfl
theorem kp20 : Cond.selects "MeldHostModel" y_MM_told y_MM_told ∈ mh_TB := mh_inP 20 rfl rfl
theorem kp21 : Cond.selects "MeldHostModel" y_MM_good y_MM_good ∈ mh_TB := mh_inP 21 rfl rfl
end
section
/-! a static field that holds a reference, below b, which nobody writes -/
def mh_zl (C n d : String) (b : Nat) (U : State) (H : Heap) : Prop := ∃ (c : ClassId) (k : Class) (i : Nat) (f : Field) (a : Nat) (cell : Cell) (v : Value), U.vm.findClass C = some c ∧ U.fieldFound? C n d = some (c, k, i, f) ∧ f.isStatic = true ∧ k.statics = some a ∧ H[a]? = some cell ∧ cell.vm.isStatics = true ∧ cell.cls = c ∧ f.slot < cell.slots.size ∧ k.staticTypes[f.slot]? = some f.type ∧ a < b ∧ cell.slots[f.slot]? = some v ∧ v.isRef = true
theorem mh_zl.to {C n d : String} {b : Nat} {u U : State} {H H1 : Heap} (h : mh_zl C n d b u H) (hvm : u.vm.Alike U.vm) (hq : ∀ a : Nat, a < H.size → a < b → H1[a]? = H[a]?) : mh_zl C n d b U H1 := by
  obtain ⟨c, k, i, f, a, cell, v, h1, h2, h3, h4, h5, h6, h7, h8, h9, h10, h11, h12⟩ := h
  obtain ⟨k', hi', he⟩ := State.fieldFound?_setVm hvm h2
  exact ⟨c, k', i, f, a, cell, v, by rw [hvm.findClass]; exact h1, hi', h3, by rw [he]; exact h4, by rw [hq a (Array.getElem?_eq_some_iff.mp h5).1 h10]; exact h5, h6, h7, h8, by rw [he]; exact h9, h10, h11, h12⟩
theorem mh_zl.lay {C n d : String} {b : Nat} {s : State} {args : Array Value} (h : mh_zl C n d b s s.heap) : (Cond.laysStatic C n d).before args s = true := by
  obtain ⟨c, k, i, f, a, cell, v, h1, h2, h3, h4, h5, h6, h7, h8, h9, h10, h11, h12⟩ := h
  show (Cond.laysStatic C n d).holds args s none s [] = true
  exact Cond.laysStatic_of h1 h2 h3 h4 h5 h6 h7 h8 h9
theorem mh_zl.isRef {C n d : String} {b : Nat} {s : State} {args : Array Value} (h : mh_zl C n d b s s.heap) : (Cond.isRef (.static C n d)).before args s = true := by
  obtain ⟨c, k, i, f, a, cell, v, h1, h2, h3, h4, h5, h6, h7, h8, h9, h10, h11, h12⟩ := h
  have he : (Term.static C n d).eval args s none [] s = some v := by
    simp [Term.eval, State.fieldNamed?, h2, h3, h4, h5, h6, h11]
  simp only [Cond.before, Cond.holds, Cond.value, he]
  cases v <;> simp_all [Value.isRef]
theorem mh_zl.of {args : Array Value} {s : State} {C n d : String} {b : Nat} (hl : (Cond.laysStatic C n d).before args s = true) (h : (Cond.isRef (.static C n d)).before args s = true) (hb : s.heap.size ≤ b) : mh_zl C n d b s s.heap := by
  obtain ⟨c, k, i, f, a, cell, h1, h2, h3, h4, h5, h6, h7, h8, h9⟩ := Cond.laysStatic_spec hl
  obtain ⟨u, hu⟩ := Cond.staticRefV h2 h3 h4 h5 h6 (args := args) (first := s) (o := none) (idx := []) h
  exact ⟨c, k, i, f, a, cell, u.v, h1, h2, h3, h4, h5, h6, h7, h8, h9, Nat.lt_of_lt_of_le (Array.getElem?_eq_some_iff.mp h5).1 hb, hu, u.2⟩
/-- the four words of Throwable's statics; the others of a list -/
def mh_xo (w : Cond) : Bool := !(decide (w = .isRef (.static Bundle.tN "UNASSIGNED_STACK" Bundle.steD))) && !(decide (w = .isRef (.static Bundle.tN "SUPPRESSED_SENTINEL" Bundle.listD))) && !(decide (w = .laysStatic Bundle.tN "UNASSIGNED_STACK" Bundle.steD)) && !(decide (w = .laysStatic Bundle.tN "SUPPRESSED_SENTINEL" Bundle.listD))
theorem mh_own {args : Array Value} {s : State} {b : Nat} {L : List Cond} (h1 : ∀ w ∈ L.filter mh_xo, w.before args s = true) (hU : mh_zl Bundle.tN "UNASSIGNED_STACK" Bundle.steD b s s.heap) (hN : mh_zl Bundle.tN "SUPPRESSED_SENTINEL" Bundle.listD b s s.heap) : ∀ w ∈ L, w.before args s = true := by
  intro w hw
  by_cases e1 : w = .isRef (.static Bundle.tN "UNASSIGNED_STACK" Bundle.steD)
  · rw [e1]; exact hU.isRef
  · by_cases e2 : w = .isRef (.static Bundle.tN "SUPPRESSED_SENTINEL" Bundle.listD)
    · rw [e2]; exact hN.isRef
    · by_cases e3 : w = .laysStatic Bundle.tN "UNASSIGNED_STACK" Bundle.steD
      · rw [e3]; exact hU.lay
      · by_cases e4 : w = .laysStatic Bundle.tN "SUPPRESSED_SENTINEL" Bundle.listD
        · rw [e4]; exact hN.lay
        · exact h1 w (List.mem_filter.mpr ⟨hw, by simp [mh_xo, e1, e2, e3, e4]⟩)
section MHT
variable {p : Program} {l : Launch} {e : Env} {R : Room} {s : State} {m₀ : MethodId} {args : Array Value} {below : List Frame} {meth : Method} {c : Code} {V : State} {locs : List Loc} {cells slots : Nat}
set_option maxHeartbeats 1000000 in
/-- an exception's constructor with a message, stack traces off: nothing but the new cell changes -/
theorem mh_ctorS (X : Stand p l e R s m₀ args below meth c V locs cells slots) (hexec : p.tables.exec = Jvm.exec) (htr : e.platform.stackTraces = false) {own cls : String} {names : List String} {ic b : Nat}
    (hown : s.vm.findClass own = some m₀.cls) (hcls : Bundle.fit cls = true) (hnames : ∀ n ∈ names, Bundle.fit n = true)
    (h : ∀ a ∈ Bundle.ownAtoms own ic cls names, a.before args s = true) (hU : mh_zl Bundle.tN "UNASSIGNED_STACK" Bundle.steD b s s.heap) (hlocs : ∀ x ∈ locs, b ≤ x.base)
    {a : Addr} {cX : ClassId} {kX : Class} (hfoundX : s.vm.findClass cls = some cX) (hkX : s.vm.classes[cX]? = some kX) (hcell : V.heap[a]? = some (freshCell cX kX)) (hnew : s.heap.size ≤ a)
    {msg : Value} (hmsg : msg.isRef = true)
    {g : JFrame} (hg : g.method = m₀) (hsize : g.locals.size = c.maxLocals) {rest : List Value} (hstack : g.stack = msg :: .ref a :: .ref a :: rest)
    (hd6 : decode c.code g.pc = .ok (.invokespecial ic, 3))
    (hRframes : names.length + 3 < R.frames) (hRlocals : 2 * g.monitorRoom + ((Value.ref a :: rest).map fun v => v.category).sum + (13 * (names.length + 1) + 42) ≤ R.locals) :
    ∃ (vm' : Vm) (ce : Cell) (L : List Loc), Stand p l e R s m₀ args below meth c ((V.setVm vm').setCell a ce) (locs ++ L) cells slots ∧ (∀ y ∈ L, y.base = a) ∧ ce.cls = cX ∧ ce.vm = .none ∧
      ∀ target, Steps p.tables e below (((V.setVm vm').setCell a ce).setTop { g with stack := .ref a :: rest, pc := g.pc + 3 }) target → Steps p.tables e below (V.setTop g) target := by
  have howns : e.platform.frameOwnsMonitors = true := by rw [X.admits.platform]
  have hfin : e.platform.finalization = false := by rw [X.admits.platform]
  have hpl : e.platform.magicAccessors = ({} : Platform).magicAccessors := by rw [X.admits.platform]
  have a' : ∀ x, x ∈ Bundle.ownAtoms own ic cls names → x.holds args s none s [] = true := fun x hx => h x hx
  obtain ⟨T, Z0, L, -, Y⟩ := ThrowableC.of_atoms (args := args) howns hfin hpl (fun x hx => h x (by simp [Bundle.ownAtoms, hx]))
  obtain ⟨Z, M, LZ, LM, hnZ⟩ := Init0T.ofS_atoms (args := args) hpl L Y (fun x hx => h x (by simp [Bundle.ownAtoms, hx]))
  obtain ⟨P1, Ps, hlen, L1, hL, hP1m, hlink1, hlink⟩ := Bundle.chainS (args := args) hpl hnZ names cls hcls hnames (fun x hx => h x (by simp [Bundle.ownAtoms, hx]))
  have hfound : s.vm.findClass cls = some P1.m.cls := findClass_of_methodNamed hP1m
  cases Option.some.inj (hfoundX.symm.trans hfound)
  obtain ⟨c1, kX', hc1, hk, hord, -, -, hn6⟩ := Cond.instantiable_spec (a' (.instantiable cls 6) (by simp [Bundle.ownAtoms]))
  cases Option.some.inj (hc1.symm.trans hfound)
  cases Option.some.inj (hkX.symm.trans hk)
  have hsel0 : selectMethod e.platform s.vm P1.m.cls T.fill0 = .method T.fill0 := by
    obtain ⟨c2, r2, m2, q1, q2, q3, q4, -⟩ := Cond.selects_spec (a' (.selects cls Bundle.tFill0 Bundle.tFill0) (by simp [Bundle.ownAtoms]))
    cases Option.some.inj (q1.symm.trans hfound)
    cases Option.some.inj (q2.symm.trans (State.methodFound?_of_named Y.fill0 (by decide)))
    cases Option.some.inj (q3.symm.trans Y.fill0)
    rw [Launch.admits_selectMethod X.admits]; exact q4
  have hselF : selectMethod e.platform s.vm P1.m.cls T.fill = .method T.fill := by
    obtain ⟨c2, r2, m2, q1, q2, q3, q4, -⟩ := Cond.selects_spec (a' (.selects cls Bundle.tFill Bundle.tFill) (by simp [Bundle.ownAtoms]))
    cases Option.some.inj (q1.symm.trans hfound)
    cases Option.some.inj (q2.symm.trans (State.methodFound?_of_named Y.fill (by decide)))
    cases Option.some.inj (q3.symm.trans Y.fill)
    rw [Launch.admits_selectMethod X.admits]; exact q4
  obtain ⟨cellS0, hcS0, hiss⟩ := Y.statics
  have hlow : T.aS < b := by
    obtain ⟨c9, k9, i9, f9, a9, cell9, v9, -, g2, -, g4, -, -, -, -, -, g10, -, -⟩ := hU
    have e9 := Option.some.inj (g2.symm.trans Y.unassigned)
    have e10 : k9 = T.kT := congrArg (fun z => z.2.1) e9
    rw [e10, L.statics] at g4
    rw [Option.some.inj g4]; exact g10
  obtain ⟨u0, hu0⟩ := Cond.staticRefV Y.unassigned L.unassignedStatic L.statics hcS0 hiss (a' (.isRef (.static Bundle.tN "UNASSIGNED_STACK" Bundle.steD)) (by simp [Bundle.ownAtoms]))
  obtain ⟨sen, hsen⟩ := Cond.staticRefV Y.sentinel L.sentinelStatic L.statics hcS0 hiss (a' (.isRef (.static Bundle.tN "SUPPRESSED_SENTINEL" Bundle.listD)) (by simp [Bundle.ownAtoms]))
  obtain ⟨ci198, i198, fB, hk198, hg198, ha198, hsB, -, hnB, htB, hffB⟩ := Cond.ownField (t := .object "java/lang/Object") Y.found L.cls (by decide +kernel) (a' (.fieldLink Bundle.tN 198 Bundle.tN "backtrace" "Ljava/lang/Object;") (by simp [Bundle.ownAtoms])) (a' (.lays Bundle.tN Bundle.tN "backtrace" "Ljava/lang/Object;") (by simp [Bundle.ownAtoms])) e.platform hpl
  obtain ⟨cellS, hcS', heS, -, hkeep⟩ := X.same.2.2.2.2.2 T.aS cellS0 hcS0
  have hcellS : V.heap[T.aS]? = some cellS := hcS'
  have hout' : ∀ i, (⟨T.aS, i⟩ : Loc) ∉ locs := fun i hmem => absurd (hlocs _ hmem) (Nat.not_le.mpr hlow)
  have hknownS : cellS.vm ≠ .unknown := by
    rw [heS]; intro hu
    rw [show cellS0.vm = .unknown from hu] at hiss
    cases hiss
  have hneS : T.aS ≠ a := Nat.ne_of_lt (Nat.lt_of_lt_of_le (Array.getElem?_eq_some_iff.mp hcS0).1 hnew)
  obtain ⟨iM, hffM⟩ := Y.msg
  obtain ⟨tyC, dC, hdC, hdnC⟩ := Cond.laysAt hfound hk Y.cause (a' (.lays cls Bundle.tN "cause" "Ljava/lang/Throwable;") (by simp [Bundle.ownAtoms]))
  obtain ⟨tyS, dS, hdS, hdnS⟩ := Cond.laysAt hfound hk Y.stack (a' (.lays cls Bundle.tN "stackTrace" Bundle.steD) (by simp [Bundle.ownAtoms]))
  obtain ⟨tyP, dP, hdP, hdnP⟩ := Cond.laysAt hfound hk Y.supp (a' (.lays cls Bundle.tN "suppressedExceptions" Bundle.listD) (by simp [Bundle.ownAtoms]))
  obtain ⟨tyM, dM, hdM, hdnM⟩ := Cond.laysAt hfound hk hffM (a' (.lays cls Bundle.tN "detailMessage" "Ljava/lang/String;") (by simp [Bundle.ownAtoms]))
  obtain ⟨tyB, dB, hdB, hdnB⟩ := Cond.laysAt hfound hk hffB (a' (.lays cls Bundle.tN "backtrace" "Ljava/lang/Object;") (by simp [Bundle.ownAtoms]))
  have bC := Cond.laysApart hdB hdC hdnB hdnC (by rw [hnB, Y.causeName]; decide)
  have bS := Cond.laysApart hdB hdS hdnB hdnS (by rw [hnB, Y.stackName]; decide)
  have bP := Cond.laysApart hdB hdP hdnB hdnP (by rw [hnB, Y.suppName]; decide)
  have hskip : SkipFacts T e.platform s (fun u => u) u0 ((preparedCellV T.toThrowableT (freshCell P1.m.cls kX) a u0 sen).withEntry V.cur) :=
    ⟨{ ci198 := ci198, i198 := i198, fBack := fB }, ⟨hk198, hg198, ha198, hsB⟩, by
      have := fresh_default (c := P1.m.cls) tyB
      rw [htB] at this
      simpa [preparedCellV, Cell.setSlot, Cell.withEntry, Array.getElem?_setIfInBounds, bC, bS, bP, bC.symm, bS.symm, bP.symm, defaultValue] using this, fun _ _ => rfl⟩
  obtain ⟨tm, methC, cdC, kC, vm₁, hnC, -, -, -, -, -, -, -, hW₁, st1⟩ := Steps.initColdS (tb := p.tables) (e := e) (below := below) (s := s) (U := V) X.here hexec X.warmed hpl hown (t := Bundle.initS cls) rfl rfl (Bundle.fit_spec hcls).2
    (a' (.methodLink own ic (Bundle.initS cls)) (by simp [Bundle.ownAtoms])) (h (.instanceMethod (Bundle.initS cls)) (by cases names <;> simp [Bundle.ownAtoms, Bundle.chainSAtoms, Bundle.passSAtoms])) (bytes := Bundle.six) (maxL := 2) (h (.code (Bundle.initS cls) Bundle.six 2 none) (by cases names <;> simp [Bundle.ownAtoms, Bundle.chainSAtoms, Bundle.passSAtoms]))
    (f := g) hg (a := a) (msg := msg) (rest := .ref a :: rest) hstack hd6
  cases Option.some.inj (hnC.symm.trans hP1m)
  have X₁ := X.noted hW₁
  obtain ⟨vm₂, X₂, st2⟩ := X₁.ctorMessageOffV hexec (g := { g with stack := .ref a :: rest }) hg hsize T L Z LZ M LM (P1 :: Ps)
    (fun P hP => by rcases List.mem_cons.mp hP with rfl | hP; exact L1; exact hL P hP) ⟨hlink1, hlink⟩ (u0 := u0) (sen := sen) (self := a) hmsg (cell := freshCell P1.m.cls kX) (cellS := cellS)
    hcell (fun _ => by simp) (by simp) rfl rfl hsel0 hselF hcellS hneS hknownS (by rw [hkeep _ (hout' _)]; exact hu0) (by rw [hkeep _ (hout' _)]; exact hsen)
    (Takes.of_laid hk hord tyC (by rw [Y.causeType]; rfl)) (Takes.of_laid hk hord tyS (by rw [Y.stackType]; exact fits_refV_array _ u0)) (Takes.of_laid hk hord tyP (by rw [Y.suppType]; exact fits_refV_object _ sen))
    (Takes.of_laid hk hord tyM (by rw [Y.msgType]; exact fits_refV_object _ ⟨msg, hmsg⟩)) Y.objLocals hskip htr [] hd6
    (by simp only [List.length_cons, hlen]; omega) (by simp only [List.length_cons, hlen]; exact hRlocals)
  refine ⟨vm₂, _, _, X₂, fun y hy => ?_, rfl, rfl, fun target hwalk => st1 _ (fun acts => ?_)⟩
  · simp only [List.mem_cons, List.not_mem_nil, or_false] at hy
    rcases hy with rfl | rfl | rfl | rfl | rfl <;> rfl
  · rw [doInvoke_state]
    exact st2 _ hwalk
/-- a handler of the method's own table takes it: the rows ahead pass it, cold or warm -/
def mh_hp (pl : Platform) (s₀ : State) (d : ClassId) (pc : Nat) (thrown : ClassId) (y : ExceptionTableEntry) : Prop :=
  covers y pc = false ∨ (y.catchType ≠ 0 ∧ ∃ c, s₀.vm.ClassLinks pl d y.catchType c ∧ s₀.vm.assignable thrown c = false)
theorem mh_goLink {Q : Handler → Pre} {E : CtlPost} {e : Env} {d : Bool} {acts : List Action} {s : State} {f : JFrame} {a : Addr} {x : ExceptionTableEntry} {t : List ExceptionTableEntry} {c : ClassId} {cell : Cell} (hx : covers x f.pc = true) (h0 : x.catchType ≠ 0)
    (hl : s.vm.ClassLinks e.platform f.method.cls x.catchType c) (hcell : s.heap[a]? = some cell) (hobj : ∀ k, cell.vm ≠ .statics k)
    (hk : ∃ k, s.vm.classes[cell.cls]? = some k) (hc : ∃ k, s.vm.classes[c]? = some k) :
    wp (findHandler.go f a (x :: t)) Q E e d acts s ↔ if s.vm.assignable cell.cls c = true then Q (.found x.handlerPc) d acts (s.setVm (s.vm.noted f.method.cls x.catchType (.cls c))) else wp (findHandler.go f a t) Q E e d acts (s.setVm (s.vm.noted f.method.cls x.catchType (.cls c))) := by
  simp only [covers] at hx
  obtain ⟨ha, ht⟩ := (resolveClass_links e.toSetting hl).op (op := VmOp.resolveClass f.method.cls x.catchType) rfl
  have hal : s.vm.Alike (s.vm.noted f.method.cls x.catchType (.cls c)) := (Vm.Alike.refl s.vm).noted _ _ _
  obtain ⟨k1, hk1⟩ := hk
  obtain ⟨k2, hk2⟩ := hc
  obtain ⟨k1', hk1', -⟩ := hal.2.2 _ _ hk1
  obtain ⟨k2', hk2', -⟩ := hal.2.2 _ _ hk2
  cases hf : s.vm.assignable cell.cls c with
  | true =>
    have hf' : (s.vm.noted f.method.cls x.catchType (.cls c)).assignable cell.cls c = true := by rw [hal.assignable]; exact hf
    simp [findHandler.go, hx, h0, ha, ht, hcell, hobj, hk1', hk2', hf', VmOp.dirties, VmOp.acts]
  | false =>
    have hf' : (s.vm.noted f.method.cls x.catchType (.cls c)).assignable cell.cls c = false := by rw [hal.assignable]; exact hf
    simp [findHandler.go, hx, h0, ha, ht, hcell, hobj, hk1', hk2', hf', VmOp.dirties, VmOp.acts]
theorem mh_goRows {e : Env} {s₀ : State} {f : JFrame} {a : Addr} {cell : Cell} (hobj : ∀ k, cell.vm ≠ .statics k) (hk0 : ∃ k, s₀.vm.classes[cell.cls]? = some k)
    (x : ExceptionTableEntry) (rest : List ExceptionTableEntry) (hx : covers x f.pc = true) (h0 : x.catchType ≠ 0) {cT : ClassId} (hlT : s₀.vm.ClassLinks e.platform f.method.cls x.catchType cT) (hfit : s₀.vm.assignable cell.cls cT = true) :
    ∀ (pre : List ExceptionTableEntry) (S : State), s₀.WarmedH S.vm → S.heap[a]? = some cell → (∀ y ∈ pre, mh_hp e.platform s₀ f.method.cls f.pc cell.cls y) →
      ∃ vm', s₀.WarmedH vm' ∧ ∀ (Q : Handler → Pre) (E : CtlPost) (d : Bool) (acts : List Action), wp (findHandler.go f a (pre ++ x :: rest)) Q E e d acts S ↔ Q (.found x.handlerPc) d acts (S.setVm vm') := by
  obtain ⟨k0, hk0⟩ := hk0
  intro pre
  induction pre with
  | nil =>
    intro S hW hcell _
    obtain ⟨k0', hk0', -⟩ := hW.alike.2.2 _ _ hk0
    obtain ⟨dk, _, _, kt, hd, _, _, _, _, hkt, _, hopen⟩ := hlT.here
    obtain ⟨kt', hkt', -⟩ := hW.alike.2.2 _ _ hkt
    refine ⟨_, hW.noted hd hopen (State.rightAt_cls hlT), fun Q E d acts => ?_⟩
    rw [List.nil_append, mh_goLink hx h0 (hW.classLinks hlT) hcell hobj ⟨k0', hk0'⟩ ⟨kt', hkt'⟩, if_pos (by rw [hW.alike.assignable]; exact hfit)]
  | cons y ys ih =>
    intro S hW hcell hpass
    obtain ⟨k0', hk0', -⟩ := hW.alike.2.2 _ _ hk0
    have hrest : ∀ z ∈ ys, mh_hp e.platform s₀ f.method.cls f.pc cell.cls z := fun z hz => hpass z (List.mem_cons_of_mem _ hz)
    by_cases hcov : covers y f.pc = true
    · rcases hpass y (List.mem_cons_self ..) with h | ⟨hy0, c, hl, hno⟩
      · rw [h] at hcov; cases hcov
      · obtain ⟨dk, _, _, kt, hd, _, _, _, _, hkt, _, hopen⟩ := hl.here
        obtain ⟨kt', hkt', -⟩ := hW.alike.2.2 _ _ hkt
        obtain ⟨vm', hW', hq⟩ := ih (S.setVm (S.vm.noted f.method.cls y.catchType (.cls c))) (hW.noted hd hopen (State.rightAt_cls hl)) hcell hrest
        refine ⟨vm', hW', fun Q E d acts => ?_⟩
        rw [List.cons_append, mh_goLink hcov hy0 (hW.classLinks hl) hcell hobj ⟨k0', hk0'⟩ ⟨kt', hkt'⟩, if_neg (by rw [hW.alike.assignable, hno]; decide)]
        exact hq Q E d acts
    · obtain ⟨vm', hW', hq⟩ := ih S hW hcell hrest
      refine ⟨vm', hW', fun Q E d acts => ?_⟩
      rw [List.cons_append, W.findHandler_go_skip (by simpa using hcov)]
      exact hq Q E d acts
theorem mh_caught (X : Stand p l e R s m₀ args below meth c V locs cells slots) (a : Addr) {g : JFrame} (hg : g.method = m₀) {cell : Cell} (hcell : V.heap[a]? = some cell) (hobj : cell.vm = .none)
    (pre : List ExceptionTableEntry) (x : ExceptionTableEntry) (rest : List ExceptionTableEntry) (hsplit : c.exceptionTable.toList = pre ++ x :: rest)
    (hpass : ∀ y ∈ pre, mh_hp e.platform s m₀.cls g.pc cell.cls y) (hx : covers x g.pc = true) (h0 : x.catchType ≠ 0) {cT : ClassId} (hlT : s.vm.ClassLinks e.platform m₀.cls x.catchType cT) (hk0 : ∃ k, s.vm.classes[cell.cls]? = some k) (hfit : s.vm.assignable cell.cls cT = true) :
    ∃ vm', Stand p l e R s m₀ args below meth c (V.setVm vm') locs cells slots ∧
      ∀ target, Steps p.tables e below ((V.setVm vm').setTop { g with pc := x.handlerPc, stack := [.ref a] }) target → Steps p.tables e below ((V.setTop g).pushFrame (.throwing a)) target := by
  subst hg
  have hob : ∀ k, cell.vm ≠ .statics k := fun k h => by rw [hobj] at h; cases h
  obtain ⟨vm', hW', hq⟩ := mh_goRows (e := e) (s₀ := s) (f := g) (a := a) (cell := cell) hob hk0 x rest hx h0 hlT hfit pre ((V.setTop g).pushFrame (.throwing a)) X.warmed hcell hpass
  have hfind : ∀ (Q : Handler → Pre) (E : CtlPost) (d : Bool) (acts : List Action), wp (findHandler g a) Q E e d acts ((V.setTop g).pushFrame (.throwing a)) ↔ Q (.found x.handlerPc) d acts (((V.setTop g).pushFrame (.throwing a)).setVm vm') := by
    intro Q E d acts
    have h9 := W.findHandler_eq (s := (V.setTop g).pushFrame (.throwing a)) (f := g) (a := a) (Q := Q) (E := E) (e := e) (d := d) (acts := acts) (meth := meth) (code := c) X.method' X.code
    rw [hsplit] at h9
    exact h9.trans (hq Q E d acts)
  refine ⟨vm', X.noted hW', fun target hrest => ?_⟩
  obtain ⟨hgo, hw⟩ := X.here.throwing a
  have hstep : (stepThrowing e ((V.setTop g).pushFrame (.throwing a)) a (.java g :: V.frames.tail)).Is ((((V.setTop g).pushFrame (.throwing a)).setVm vm').setFrames (.java { g with pc := x.handlerPc, stack := [.ref a] } :: V.frames.tail)) [] := by
    simp only [stepThrowing, searchFrame, vmDo]
    generalize hr : Sem.go _ e false [] ((V.setTop g).pushFrame (.throwing a)) = res
    obtain ⟨as, rfl, ha⟩ := Sem.eq_ok_of hr (a := Handler.found x.handlerPc) (s' := ((V.setTop g).pushFrame (.throwing a)).setVm vm') (acts' := []) (by simp [hfind _ _ _ _])
    exact ⟨rfl, ha⟩
  refine Steps.head hgo hw ?_
  rw [stepThread_throwing (frames_entered X.here.top _), hstep.1]
  obtain ⟨g₀, hg0⟩ := Option.isSome_iff_exists.mp X.here.top
  obtain ⟨r, hr⟩ := State.topJava?_eq_some.mp hg0
  have hr' : (V.setVm vm').frames = .java g₀ :: r := hr
  have hsf : ∀ (u : State) (F G : List Frame), ((u.setFrames F).setVm vm').setFrames G = (u.setVm vm').setFrames G := fun u F G => by
    have h1 : (u.setFrames F).setVm vm' = (u.setVm vm').setFrames F := rfl
    rw [h1, State.setFrames_setFrames]
  rw [State.setTop_of_frames _ hr'] at hrest
  rw [hr, List.tail_cons, State.pushFrame, hsf, State.setTop_of_frames _ hr, hsf]
  exact hrest
end MHT
/-! the classes whose objects the worlds hold -/
def F_KS : u_T := fun k => match k with
  | _ => ("MeldHost$KeySet", "words", "[J", true)
def ty_KS : Nat → FieldType := fun k => match k with
  | _ => .array .long
def F_NU : u_T := fun k => match k with
  | 0 => ("MeldHost$Numbers", "present", "LMeldHost$KeySet;", true)
  | _ => ("MeldHost$Numbers", "numbers", "[J", true)
def ty_NU : Nat → FieldType := fun k => match k with
  | 0 => .object "MeldHost$KeySet"
  | _ => .array .long
def F_IN : u_T := fun k => match k with
  | 0 => ("MeldHost$Intention", "server", "I", true)
  | 1 => ("MeldHost$Intention", "snapshot", "I", true)
  | 2 => ("MeldHost$Intention", "level", "I", true)
  | 3 => ("MeldHost$Intention", "readKeys", "LMeldHost$KeySet;", true)
  | 4 => ("MeldHost$Intention", "lows", "[I", true)
  | 5 => ("MeldHost$Intention", "highs", "[I", true)
  | 6 => ("MeldHost$Intention", "writtenKeys", "[I", true)
  | 7 => ("MeldHost$Intention", "hasNumber", "[Z", true)
  | 8 => ("MeldHost$Intention", "newNumbers", "[J", true)
  | 9 => ("MeldHost$Intention", "parts", "I", false)
  | 10 => ("MeldHost$Intention", "writes", "I", false)
  | _ => ("MeldHost$Intention", "good", "Z", false)
def ty_IN : Nat → FieldType := fun k => match k with
  | 0 => .int
  | 1 => .int
  | 2 => .int
  | 3 => .object "MeldHost$KeySet"
  | 4 => .array .int
  | 5 => .array .int
  | 6 => .array .int
  | 7 => .array .boolean
  | 8 => .array .long
  | 9 => .int
  | 10 => .int
  | _ => .boolean
def F_SV : u_T := fun k => match k with
  | 0 => ("MeldHost$Server", "numbers", "LMeldHost$Numbers;", true)
  | 1 => ("MeldHost$Server", "lastWriter", "[I", true)
  | 2 => ("MeldHost$Server", "gone", "I", false)
  | _ => ("MeldHost$Server", "goodGone", "I", false)
def ty_SV : Nat → FieldType := fun k => match k with
  | 0 => .object "MeldHost$Numbers"
  | 1 => .array .int
  | 2 => .int
  | _ => .int
def F_MH : u_T := fun k => match k with
  | 0 => ("MeldHost", "log", "Ljava/util/ArrayList;", true)
  | 1 => ("MeldHost", "servers", "[LMeldHost$Server;", true)
  | 2 => ("MeldHost", "drafts", "[LMeldHost$Intention;", true)
  | 3 => ("MeldHost", "views", "[LMeldHost$Numbers;", true)
  | _ => ("MeldHost", "restarts", "I", false)
def ty_MH : Nat → FieldType := fun k => match k with
  | 0 => .object "java/util/ArrayList"
  | 1 => .array (.object "MeldHost$Server")
  | 2 => .array (.object "MeldHost$Intention")
  | 3 => .array (.object "MeldHost$Numbers")
  | _ => .int
def F_AL : u_T := fun k => match k with
  | 0 => ("java/util/AbstractList", "modCount", "I", false)
  | 1 => ("java/util/ArrayList", "elementData", "[Ljava/lang/Object;", false)
  | _ => ("java/util/ArrayList", "size", "I", false)
def ty_AL : Nat → FieldType := fun k => match k with
  | 0 => .int
  | 1 => .array (.object "java/lang/Object")
  | _ => .int
def F_WK : u_T := fun k => match k with
  | 0 => ("MeldHostModel$Work", "snapshot", "I", false)
  | 1 => ("MeldHostModel$Work", "level", "I", false)
  | 2 => ("MeldHostModel$Work", "server", "I", false)
  | 3 => ("MeldHostModel$Work", "parts", "I", false)
  | 4 => ("MeldHostModel$Work", "writes", "I", false)
  | 5 => ("MeldHostModel$Work", "reads", "I", false)
  | 6 => ("MeldHostModel$Work", "open", "Z", false)
  | 7 => ("MeldHostModel$Work", "good", "Z", false)
  | 8 => ("MeldHostModel$Work", "read", "[Z", true)
  | 9 => ("MeldHostModel$Work", "low", "[I", true)
  | 10 => ("MeldHostModel$Work", "high", "[I", true)
  | 11 => ("MeldHostModel$Work", "key", "[I", true)
  | 12 => ("MeldHostModel$Work", "value", "[J", true)
  | _ => ("MeldHostModel$Work", "none", "[Z", true)
def ty_WK : Nat → FieldType := fun k => match k with
  | 0 => .int
  | 1 => .int
  | 2 => .int
  | 3 => .int
  | 4 => .int
  | 5 => .int
  | 6 => .boolean
  | 7 => .boolean
  | 8 => .array .boolean
  | 9 => .array .int
  | 10 => .array .int
  | 11 => .array .int
  | 12 => .array .long
  | _ => .array .boolean
def F_MM : u_T := fun k => match k with
  | 0 => ("MeldHostModel", "err", "I", false)
  | 1 => ("MeldHostModel", "log", "[LMeldHostModel$Work;", true)
  | 2 => ("MeldHostModel", "open", "[LMeldHostModel$Work;", true)
  | 3 => ("MeldHostModel", "at", "[I", true)
  | 4 => ("MeldHostModel", "value", "[J", true)
  | 5 => ("MeldHostModel", "has", "[Z", true)
  | 6 => ("MeldHostModel", "many", "I", false)
  | _ => ("MeldHostModel", "restarts", "I", false)
def ty_MM : Nat → FieldType := fun k => match k with
  | 0 => .int
  | 1 => .array (.object "MeldHostModel$Work")
  | 2 => .array (.object "MeldHostModel$Work")
  | 3 => .array .int
  | 4 => .array .long
  | 5 => .array .boolean
  | 6 => .int
  | _ => .int
def F_IA : u_T := fun _ => ("", "", "", false)
def ty_IA : Nat → FieldType := fun _ => .int
def F_IS : u_T := fun _ => ("", "", "", false)
def ty_IS : Nat → FieldType := fun _ => .int
def F_IO : u_T := fun _ => ("", "", "", false)
def ty_IO : Nat → FieldType := fun _ => .int
def F_UO : u_T := fun _ => ("", "", "", false)
def ty_UO : Nat → FieldType := fun _ => .int
abbrev classes : List vw_C := [("MeldHost$KeySet", F_KS, 1), ("MeldHost$Numbers", F_NU, 2), ("MeldHost$Intention", F_IN, 12), ("MeldHost$Server", F_SV, 4), ("MeldHost", F_MH, 5), ("java/util/ArrayList", F_AL, 3), ("MeldHostModel$Work", F_WK, 14), ("MeldHostModel", F_MM, 8), ("java/lang/IllegalArgumentException", F_IA, 0), ("java/lang/IllegalStateException", F_IS, 0), ("java/lang/IndexOutOfBoundsException", F_IO, 0), ("java/lang/UnsupportedOperationException", F_UO, 0)]
theorem ty_KS_ok : ∀ k, k < 1 → parseFieldDescriptor (F_KS k).2.2.1 = some (ty_KS k) := by decide +kernel
theorem n_KS : ∀ a, a < 1 → ∀ b, b < 1 → a ≠ b → (F_KS a).2.1 ≠ (F_KS b).2.1 := by decide +kernel
theorem i_KS : ∀ x ∈ u_ws "MeldHost$KeySet" F_KS 1, x ∈ mh_TB := by
  have h : u_ws "MeldHost$KeySet" F_KS 1 = [Cond.laysFinal "MeldHost$KeySet" "MeldHost$KeySet" "words" "[J"] := rfl
  rw [h]
  exact List.forall_mem_cons.mpr ⟨k79, fun _ h => absurd h List.not_mem_nil⟩
theorem ty_NU_ok : ∀ k, k < 2 → parseFieldDescriptor (F_NU k).2.2.1 = some (ty_NU k) := by decide +kernel
theorem n_NU : ∀ a, a < 2 → ∀ b, b < 2 → a ≠ b → (F_NU a).2.1 ≠ (F_NU b).2.1 := by decide +kernel
theorem i_NU : ∀ x ∈ u_ws "MeldHost$Numbers" F_NU 2, x ∈ mh_TB := by
  have h : u_ws "MeldHost$Numbers" F_NU 2 = [Cond.laysFinal "MeldHost$Numbers" "MeldHost$Numbers" "present" "LMeldHost$KeySet;", Cond.laysFinal "MeldHost$Numbers" "MeldHost$Numbers" "numbers" "[J"] := rfl
  rw [h]
  exact List.forall_mem_cons.mpr ⟨k87, List.forall_mem_cons.mpr ⟨k89, fun _ h => absurd h List.not_mem_nil⟩⟩
theorem ty_IN_ok : ∀ k, k < 12 → parseFieldDescriptor (F_IN k).2.2.1 = some (ty_IN k) := by decide +kernel
theorem n_IN : ∀ a, a < 12 → ∀ b, b < 12 → a ≠ b → (F_IN a).2.1 ≠ (F_IN b).2.1 := by decide +kernel
theorem i_IN : ∀ x ∈ u_ws "MeldHost$Intention" F_IN 12, x ∈ mh_TB := by
  have h : u_ws "MeldHost$Intention" F_IN 12 = [Cond.laysFinal "MeldHost$Intention" "MeldHost$Intention" "server" "I", Cond.laysFinal "MeldHost$Intention" "MeldHost$Intention" "snapshot" "I", Cond.laysFinal "MeldHost$Intention" "MeldHost$Intention" "level" "I", Cond.laysFinal "MeldHost$Intention" "MeldHost$Intention" "readKeys" "LMeldHost$KeySet;", Cond.laysFinal "MeldHost$Intention" "MeldHost$Intention" "lows" "[I", Cond.laysFinal "MeldHost$Intention" "MeldHost$Intention" "highs" "[I", Cond.laysFinal "MeldHost$Intention" "MeldHost$Intention" "writtenKeys" "[I", Cond.laysFinal "MeldHost$Intention" "MeldHost$Intention" "hasNumber" "[Z", Cond.laysFinal "MeldHost$Intention" "MeldHost$Intention" "newNumbers" "[J", Cond.lays "MeldHost$Intention" "MeldHost$Intention" "parts" "I", Cond.lays "MeldHost$Intention" "MeldHost$Intention" "writes" "I", Cond.lays "MeldHost$Intention" "MeldHost$Intention" "good" "Z"] := rfl
  rw [h]
  exact List.forall_mem_cons.mpr ⟨k255, List.forall_mem_cons.mpr ⟨k257, List.forall_mem_cons.mpr ⟨k259, List.forall_mem_cons.mpr ⟨k261, List.forall_mem_cons.mpr ⟨k263, List.forall_mem_cons.mpr ⟨k265, List.forall_mem_cons.mpr ⟨k267, List.forall_mem_cons.mpr ⟨k269, List.forall_mem_cons.mpr ⟨k271, List.forall_mem_cons.mpr ⟨k273, List.forall_mem_cons.mpr ⟨k275, List.forall_mem_cons.mpr ⟨k277, fun _ h => absurd h List.not_mem_nil⟩⟩⟩⟩⟩⟩⟩⟩⟩⟩⟩⟩
theorem ty_SV_ok : ∀ k, k < 4 → parseFieldDescriptor (F_SV k).2.2.1 = some (ty_SV k) := by decide +kernel
theorem n_SV : ∀ a, a < 4 → ∀ b, b < 4 → a ≠ b → (F_SV a).2.1 ≠ (F_SV b).2.1 := by decide +kernel
theorem i_SV : ∀ x ∈ u_ws "MeldHost$Server" F_SV 4, x ∈ mh_TB := by
  have h : u_ws "MeldHost$Server" F_SV 4 = [Cond.laysFinal "MeldHost$Server" "MeldHost$Server" "numbers" "LMeldHost$Numbers;", Cond.laysFinal "MeldHost$Server" "MeldHost$Server" "lastWriter" "[I", Cond.lays "MeldHost$Server" "MeldHost$Server" "gone" "I", Cond.lays "MeldHost$Server" "MeldHost$Server" "goodGone" "I"] := rfl
  rw [h]
  exact List.forall_mem_cons.mpr ⟨k103, List.forall_mem_cons.mpr ⟨k105, List.forall_mem_cons.mpr ⟨k107, List.forall_mem_cons.mpr ⟨k109, fun _ h => absurd h List.not_mem_nil⟩⟩⟩⟩
theorem ty_MH_ok : ∀ k, k < 5 → parseFieldDescriptor (F_MH k).2.2.1 = some (ty_MH k) := by decide +kernel
theorem n_MH : ∀ a, a < 5 → ∀ b, b < 5 → a ≠ b → (F_MH a).2.1 ≠ (F_MH b).2.1 := by decide +kernel
theorem i_MH : ∀ x ∈ u_ws "MeldHost" F_MH 5, x ∈ mh_TB := by
  have h : u_ws "MeldHost" F_MH 5 = [Cond.laysFinal "MeldHost" "MeldHost" "log" "Ljava/util/ArrayList;", Cond.laysFinal "MeldHost" "MeldHost" "servers" "[LMeldHost$Server;", Cond.laysFinal "MeldHost" "MeldHost" "drafts" "[LMeldHost$Intention;", Cond.laysFinal "MeldHost" "MeldHost" "views" "[LMeldHost$Numbers;", Cond.lays "MeldHost" "MeldHost" "restarts" "I"] := rfl
  rw [h]
  exact List.forall_mem_cons.mpr ⟨k123, List.forall_mem_cons.mpr ⟨k125, List.forall_mem_cons.mpr ⟨k127, List.forall_mem_cons.mpr ⟨k129, List.forall_mem_cons.mpr ⟨k131, fun _ h => absurd h List.not_mem_nil⟩⟩⟩⟩⟩
theorem ty_AL_ok : ∀ k, k < 3 → parseFieldDescriptor (F_AL k).2.2.1 = some (ty_AL k) := by decide +kernel
theorem n_AL : ∀ a, a < 3 → ∀ b, b < 3 → a ≠ b → (F_AL a).2.1 ≠ (F_AL b).2.1 := by decide +kernel
theorem i_AL : ∀ x ∈ u_ws "java/util/ArrayList" F_AL 3, x ∈ mh_TB := by
  have h : u_ws "java/util/ArrayList" F_AL 3 = [Cond.lays "java/util/ArrayList" "java/util/AbstractList" "modCount" "I", Cond.lays "java/util/ArrayList" "java/util/ArrayList" "elementData" "[Ljava/lang/Object;", Cond.lays "java/util/ArrayList" "java/util/ArrayList" "size" "I"] := rfl
  rw [h]
  exact List.forall_mem_cons.mpr ⟨k56, List.forall_mem_cons.mpr ⟨k52, List.forall_mem_cons.mpr ⟨k54, fun _ h => absurd h List.not_mem_nil⟩⟩⟩
theorem ty_WK_ok : ∀ k, k < 14 → parseFieldDescriptor (F_WK k).2.2.1 = some (ty_WK k) := by decide +kernel
theorem n_WK : ∀ a, a < 14 → ∀ b, b < 14 → a ≠ b → (F_WK a).2.1 ≠ (F_WK b).2.1 := by decide +kernel
theorem i_WK : ∀ x ∈ u_ws "MeldHostModel$Work" F_WK 14, x ∈ mh_TB := by
  have h : u_ws "MeldHostModel$Work" F_WK 14 = [Cond.lays "MeldHostModel$Work" "MeldHostModel$Work" "snapshot" "I", Cond.lays "MeldHostModel$Work" "MeldHostModel$Work" "level" "I", Cond.lays "MeldHostModel$Work" "MeldHostModel$Work" "server" "I", Cond.lays "MeldHostModel$Work" "MeldHostModel$Work" "parts" "I", Cond.lays "MeldHostModel$Work" "MeldHostModel$Work" "writes" "I", Cond.lays "MeldHostModel$Work" "MeldHostModel$Work" "reads" "I", Cond.lays "MeldHostModel$Work" "MeldHostModel$Work" "open" "Z", Cond.lays "MeldHostModel$Work" "MeldHostModel$Work" "good" "Z", Cond.laysFinal "MeldHostModel$Work" "MeldHostModel$Work" "read" "[Z", Cond.laysFinal "MeldHostModel$Work" "MeldHostModel$Work" "low" "[I", Cond.laysFinal "MeldHostModel$Work" "MeldHostModel$Work" "high" "[I", Cond.laysFinal "MeldHostModel$Work" "MeldHostModel$Work" "key" "[I", Cond.laysFinal "MeldHostModel$Work" "MeldHostModel$Work" "value" "[J", Cond.laysFinal "MeldHostModel$Work" "MeldHostModel$Work" "none" "[Z"] := rfl
  rw [h]
  exact List.forall_mem_cons.mpr ⟨k681, List.forall_mem_cons.mpr ⟨k683, List.forall_mem_cons.mpr ⟨k685, List.forall_mem_cons.mpr ⟨k687, List.forall_mem_cons.mpr ⟨k689, List.forall_mem_cons.mpr ⟨k691, List.forall_mem_cons.mpr ⟨k693, List.forall_mem_cons.mpr ⟨k695, List.forall_mem_cons.mpr ⟨k697, List.forall_mem_cons.mpr ⟨k699, List.forall_mem_cons.mpr ⟨k701, List.forall_mem_cons.mpr ⟨k703, List.forall_mem_cons.mpr ⟨k705, List.forall_mem_cons.mpr ⟨k707, fun _ h => absurd h List.not_mem_nil⟩⟩⟩⟩⟩⟩⟩⟩⟩⟩⟩⟩⟩⟩
theorem ty_MM_ok : ∀ k, k < 8 → parseFieldDescriptor (F_MM k).2.2.1 = some (ty_MM k) := by decide +kernel
theorem n_MM : ∀ a, a < 8 → ∀ b, b < 8 → a ≠ b → (F_MM a).2.1 ≠ (F_MM b).2.1 := by decide +kernel
theorem i_MM : ∀ x ∈ u_ws "MeldHostModel" F_MM 8, x ∈ mh_TB := by
  have h : u_ws "MeldHostModel" F_MM 8 = [Cond.lays "MeldHostModel" "MeldHostModel" "err" "I", Cond.laysFinal "MeldHostModel" "MeldHostModel" "log" "[LMeldHostModel$Work;", Cond.laysFinal "MeldHostModel" "MeldHostModel" "open" "[LMeldHostModel$Work;", Cond.laysFinal "MeldHostModel" "MeldHostModel" "at" "[I", Cond.laysFinal "MeldHostModel" "MeldHostModel" "value" "[J", Cond.laysFinal "MeldHostModel" "MeldHostModel" "has" "[Z", Cond.lays "MeldHostModel" "MeldHostModel" "many" "I", Cond.lays "MeldHostModel" "MeldHostModel" "restarts" "I"] := rfl
  rw [h]
  exact List.forall_mem_cons.mpr ⟨k718, List.forall_mem_cons.mpr ⟨k720, List.forall_mem_cons.mpr ⟨k722, List.forall_mem_cons.mpr ⟨k724, List.forall_mem_cons.mpr ⟨k726, List.forall_mem_cons.mpr ⟨k728, List.forall_mem_cons.mpr ⟨k730, List.forall_mem_cons.mpr ⟨k732, fun _ h => absurd h List.not_mem_nil⟩⟩⟩⟩⟩⟩⟩⟩
theorem ty_IA_ok : ∀ k, k < 0 → parseFieldDescriptor (F_IA k).2.2.1 = some (ty_IA k) := by decide +kernel
theorem n_IA : ∀ a, a < 0 → ∀ b, b < 0 → a ≠ b → (F_IA a).2.1 ≠ (F_IA b).2.1 := by decide +kernel
theorem i_IA : ∀ x ∈ u_ws "java/lang/IllegalArgumentException" F_IA 0, x ∈ mh_TB := fun x h => by cases h
theorem ty_IS_ok : ∀ k, k < 0 → parseFieldDescriptor (F_IS k).2.2.1 = some (ty_IS k) := by decide +kernel
theorem n_IS : ∀ a, a < 0 → ∀ b, b < 0 → a ≠ b → (F_IS a).2.1 ≠ (F_IS b).2.1 := by decide +kernel
theorem i_IS : ∀ x ∈ u_ws "java/lang/IllegalStateException" F_IS 0, x ∈ mh_TB := fun x h => by cases h
theorem ty_IO_ok : ∀ k, k < 0 → parseFieldDescriptor (F_IO k).2.2.1 = some (ty_IO k) := by decide +kernel
theorem n_IO : ∀ a, a < 0 → ∀ b, b < 0 → a ≠ b → (F_IO a).2.1 ≠ (F_IO b).2.1 := by decide +kernel
theorem i_IO : ∀ x ∈ u_ws "java/lang/IndexOutOfBoundsException" F_IO 0, x ∈ mh_TB := fun x h => by cases h
theorem ty_UO_ok : ∀ k, k < 0 → parseFieldDescriptor (F_UO k).2.2.1 = some (ty_UO k) := by decide +kernel
theorem n_UO : ∀ a, a < 0 → ∀ b, b < 0 → a ≠ b → (F_UO a).2.1 ≠ (F_UO b).2.1 := by decide +kernel
theorem i_UO : ∀ x ∈ u_ws "java/lang/UnsupportedOperationException" F_UO 0, x ∈ mh_TB := fun x h => by cases h
def mh_tys (dA : Nat → ClassId) : List (ClassId × FieldType) := [(dA 0, .int), (dA 1, .long), (dA 2, .boolean), (dA 3, .object "java/lang/Object"), (dA 4, .object "MeldHost$Server"), (dA 5, .object "MeldHost$Intention"), (dA 6, .object "MeldHost$Numbers"), (dA 7, .object "MeldHostModel$Work")]
abbrev mh_A (b : Nat) : Nat → Prop := fun q => b ≤ q
/-- the class's String constants -/
def mh_str : List (Nat × String) := [(167, "an argument is out of its bounds"), (46, "the transaction is open"), (170, "the transaction is not open"), (186, "the key has no number"), (195, "there would be nine keys"), (96, "there would be nine parts"), (113, "the log is full"), (141, "there were four restarts"), (172, "there is no such intention")]
/-- which exception is none of which class -/
def mh_nc : List (String × String) := [("java/lang/IllegalArgumentException", "java/lang/IllegalStateException"), ("java/lang/IllegalArgumentException", "java/lang/IndexOutOfBoundsException"), ("java/lang/IllegalArgumentException", "java/lang/UnsupportedOperationException"), ("java/lang/IllegalStateException", "java/lang/IllegalArgumentException"), ("java/lang/IllegalStateException", "java/lang/IndexOutOfBoundsException"), ("java/lang/IllegalStateException", "java/lang/UnsupportedOperationException"), ("java/lang/IndexOutOfBoundsException", "java/lang/IllegalArgumentException"), ("java/lang/IndexOutOfBoundsException", "java/lang/IllegalStateException"), ("java/lang/IndexOutOfBoundsException", "java/lang/UnsupportedOperationException"), ("java/lang/UnsupportedOperationException", "java/lang/IllegalArgumentException"), ("java/lang/UnsupportedOperationException", "java/lang/IllegalStateException"), ("java/lang/UnsupportedOperationException", "java/lang/IndexOutOfBoundsException")]
/-- what is given of the heap below b, and of the tables beside their words: zs 0 is ArrayList's empty array, zs 1 the class object of Object[], zs of a String constant's place the String -/
def mh_Z (b : Nat) (zs : Nat → Nat) (U : State) (H : Heap) : Prop :=
  (va_AO "java/lang/Object" U ∧ va_AO "MeldHost$Server" U ∧ va_AO "MeldHost$Intention" U ∧ va_AO "MeldHost$Numbers" U ∧ va_AO "MeldHostModel$Work" U) ∧ (∀ q ∈ mh_str, vk_R "MeldHost" q.1 q.2 (zs q.1) U) ∧ (∀ q ∈ mh_nc, va_Nc q.1 q.2 U) ∧ va_Mi "[Ljava/lang/Object;" (zs 1) U ∧
  mh_zl Bundle.tN "UNASSIGNED_STACK" Bundle.steD b U H ∧ mh_zl Bundle.tN "SUPPRESSED_SENTINEL" Bundle.listD b U H ∧ va_Z "java/util/ArrayList" "DEFAULTCAPACITY_EMPTY_ELEMENTDATA" "[Ljava/lang/Object;" (.ref (zs 0)) (mh_A b) U H ∧ va_T (.object "java/lang/Object") (zs 0) 0 (fun _ => .null) (mh_A b) U H ∧
  ∃ cell : Cell, H[zs 0]? = some cell ∧ cell.vm.isStatics = false ∧ U.vm.findClass "[Ljava/lang/Object;" = some cell.cls
theorem mh_Z_to {b : Nat} {zs : Nat → Nat} {s U : State} {H H1 : Heap} (h : mh_Z b zs s H) (hW : s.WarmedH U.vm) (hq : ∀ a : Nat, a < H.size → a < b → H1[a]? = H[a]?) : mh_Z b zs U H1 := by
  obtain ⟨⟨a1, a2, a3, a4, a5⟩, h2, h3, h4, h5, h6, h7, h8, cell, g1, g2, g3⟩ := h
  have hal := hW.alike
  have hq' : ∀ a : Nat, a < H.size → ¬ mh_A b a → H1[a]? = H[a]? := fun a h1 h2 => hq a h1 (Nat.not_le.mp h2)
  have hz : ¬ mh_A b (zs 0) := by
    obtain ⟨_, _, _, _, _, _, _, h⟩ := h8
    exact h
  exact ⟨⟨a1.moved hal, a2.moved hal, a3.moved hal, a4.moved hal, a5.moved hal⟩, fun q hq => vk_R.warm hW (h2 q hq), fun q hq => (h3 q hq).moved hal, h4.moved hal, h5.to hal hq, h6.to hal hq, (va_Z.moved hal h7).kept hq', (va_T.moved hal h8).kept hq', cell,
    by rw [hq' _ (Array.getElem?_eq_some_iff.mp g1).1 hz]; exact g1, g2, by rw [hal.findClass]; exact g3⟩
theorem mh_Z_at {b : Nat} {zs : Nat → Nat} {s U : State} {locs : List Loc} (h : mh_Z b zs s s.heap) (hW : s.WarmedH U.vm) (hS : va_S (mh_A b) s.heap U.heap locs) : mh_Z b zs U U.heap := mh_Z_to h hW fun a h1 h2 => hS.2.1 a h1 (Nat.not_le.mpr h2)
theorem mh_Z_calling {b : Nat} {zs : Nat → Nat} {U : State} {g : JFrame} {mk : MethodId} {a : Array Value} (h : mh_Z b zs U U.heap) : mh_Z b zs (U.calling g mk a) (U.calling g mk a).heap := mh_Z_to (U := U.calling g mk a) (H1 := U.heap) h (State.WarmedH.refl U) fun _ _ _ => rfl
end
section
/-! WORLDS BY NAMES: a cell has a name (k, i); what the world holds there is its address and its contents; all lie at b or above it -/
abbrev mh_w : Type := Nat → Nat → Option (Nat × va_E)
def mh_set (w : mh_w) (k i : Nat) (q : Option (Nat × va_E)) : mh_w := fun k' => if k' = k then (fun i' => if i' = i then q else w k' i') else w k'
theorem mh_set_eq (w : mh_w) (k i : Nat) (q : Option (Nat × va_E)) : mh_set w k i q k i = q := by simp [mh_set]
theorem mh_set_i (w : mh_w) (k i : Nat) (q : Option (Nat × va_E)) {j : Nat} (h : j ≠ i) : mh_set w k i q k j = w k j := by simp [mh_set, h]
theorem mh_set_k (w : mh_w) (k i : Nat) (q : Option (Nat × va_E)) {k' : Nat} (h : k' ≠ k) : mh_set w k i q k' = w k' := by simp [mh_set, h]
theorem mh_set_ne (w : mh_w) (k i : Nat) (q : Option (Nat × va_E)) {k' j : Nat} (h : ¬ (k' = k ∧ j = i)) : mh_set w k i q k' j = w k' j := by
  by_cases hk : k' = k
  · subst hk
    exact mh_set_i w k' i q (fun e => h ⟨rfl, e⟩)
  · rw [mh_set_k w k i q hk]
theorem mh_set_apply (w : mh_w) (k i : Nat) (q : Option (Nat × va_E)) (k' j : Nat) : mh_set w k i q k' j = if k' = k ∧ j = i then q else w k' j := by
  by_cases h : k' = k ∧ j = i
  · obtain ⟨rfl, rfl⟩ := h
    rw [mh_set_eq, if_pos ⟨rfl, rfl⟩]
  · rw [mh_set_ne w k i q h, if_neg h]
def mh_P (D : va_G) (b : Nat) (w : mh_w) (H : Heap) : Prop :=
  (∀ (k i : Nat) (q : Nat × va_E), w k i = some q → va_at D classes q H ∧ b ≤ q.1) ∧ ∀ (k i k' i' : Nat) (q q' : Nat × va_E), w k i = some q → w k' i' = some q' → q.1 = q'.1 → k = k' ∧ i = i'
theorem mh_P.at {D : va_G} {b : Nat} {w : mh_w} {H : Heap} (h : mh_P D b w H) {k i : Nat} {q : Nat × va_E} (hq : w k i = some q) : va_at D classes q H := (h.1 k i q hq).1
theorem mh_P.le {D : va_G} {b : Nat} {w : mh_w} {H : Heap} (h : mh_P D b w H) {k i : Nat} {q : Nat × va_E} (hq : w k i = some q) : b ≤ q.1 := (h.1 k i q hq).2
theorem mh_P.get {D : va_G} {b : Nat} {w : mh_w} {H : Heap} (h : mh_P D b w H) {k i : Nat} {q : Nat × va_E} (hq : w k i = some q) : va_P D classes [q] H := by
  intro j x hx
  have hz : j < 1 := (List.getElem?_eq_some_iff.mp hx).1
  rw [show j = 0 by omega] at hx
  cases hx
  exact h.at hq
theorem mh_P.put {D : va_G} {b : Nat} {w : mh_w} {H H1 : Heap} {k i a : Nat} {e0 e : va_E} (h : mh_P D b w H) (h0 : w k i = some (a, e0)) (he : va_at D classes (a, e) H1) (oq : ∀ q : Nat, q ≠ a → H1[q]? = H[q]?) : mh_P D b (mh_set w k i (some (a, e))) H1 := by
  have key : ∀ (k' i' : Nat) (q : Nat × va_E), mh_set w k i (some (a, e)) k' i' = some q → (k' = k ∧ i' = i ∧ q = (a, e)) ∨ (¬ (k' = k ∧ i' = i) ∧ w k' i' = some q) := by
    intro k' i' q hq
    rw [mh_set_apply] at hq
    by_cases hc : k' = k ∧ i' = i
    · rw [if_pos hc] at hq
      exact Or.inl ⟨hc.1, hc.2, (Option.some.inj hq).symm⟩
    · rw [if_neg hc] at hq
      exact Or.inr ⟨hc, hq⟩
  refine ⟨fun k' i' q hq => ?_, fun k1 i1 k2 i2 q1 q2 h1 h2 hne => ?_⟩
  · rcases key k' i' q hq with ⟨rfl, rfl, rfl⟩ | ⟨hc, hq⟩
    · exact ⟨he, (show b ≤ a from h.le h0)⟩
    · exact ⟨(h.at hq).kept (oq q.1 (fun z => hc (h.2 k' i' k i q (a, e0) hq h0 z))), h.le hq⟩
  · rcases key k1 i1 q1 h1 with ⟨rfl, rfl, rfl⟩ | ⟨c1, g1⟩ <;> rcases key k2 i2 q2 h2 with ⟨rfl, rfl, rfl⟩ | ⟨c2, g2⟩
    · exact ⟨rfl, rfl⟩
    · exact h.2 _ _ _ _ _ _ h0 g2 hne
    · exact h.2 _ _ _ _ _ _ g1 h0 hne
    · exact h.2 _ _ _ _ _ _ g1 g2 hne
theorem mh_P.new {D : va_G} {b : Nat} {w : mh_w} {H H1 : Heap} {k i : Nat} {e : va_E} (h : mh_P D b w H) (hb : b ≤ H.size) (he : va_at D classes (H.size, e) H1) (oq : ∀ q : Nat, q < H.size → H1[q]? = H[q]?) : mh_P D b (mh_set w k i (some (H.size, e))) H1 := by
  have key : ∀ (k' i' : Nat) (q : Nat × va_E), mh_set w k i (some (H.size, e)) k' i' = some q → (k' = k ∧ i' = i ∧ q = (H.size, e)) ∨ (w k' i' = some q ∧ q.1 < H.size) := by
    intro k' i' q hq
    rw [mh_set_apply] at hq
    by_cases hc : k' = k ∧ i' = i
    · rw [if_pos hc] at hq
      exact Or.inl ⟨hc.1, hc.2, (Option.some.inj hq).symm⟩
    · rw [if_neg hc] at hq
      exact Or.inr ⟨hq, (h.at hq).lt⟩
  refine ⟨fun k' i' q hq => ?_, fun k1 i1 k2 i2 q1 q2 h1 h2 hne => ?_⟩
  · rcases key k' i' q hq with ⟨rfl, rfl, rfl⟩ | ⟨hq, hl⟩
    · exact ⟨he, hb⟩
    · exact ⟨(h.at hq).kept (oq q.1 hl), h.le hq⟩
  · rcases key k1 i1 q1 h1 with ⟨rfl, rfl, rfl⟩ | ⟨g1, l1⟩ <;> rcases key k2 i2 q2 h2 with ⟨rfl, rfl, rfl⟩ | ⟨g2, l2⟩
    · exact ⟨rfl, rfl⟩
    · exact absurd hne (Nat.ne_of_gt l2)
    · exact absurd hne (Nat.ne_of_lt l1)
    · exact h.2 _ _ _ _ _ _ g1 g2 hne
/-- a world whose names are some of another's, each name of its own -/
theorem mh_P.by {D : va_G} {b : Nat} {w w' : mh_w} {H : Heap} (h : mh_P D b w H) (r : Nat → Nat → Nat × Nat) (hr : ∀ (k i : Nat) (q : Nat × va_E), w' k i = some q → w (r k i).1 (r k i).2 = some q) (hi : ∀ (k i k' i' : Nat) (q q' : Nat × va_E), w' k i = some q → w' k' i' = some q' → r k i = r k' i' → k = k' ∧ i = i') : mh_P D b w' H := by
  refine ⟨fun k i q hq => h.1 _ _ q (hr k i q hq), fun k i k' i' q q' h1 h2 hne => ?_⟩
  obtain ⟨e1, e2⟩ := h.2 _ _ _ _ q q' (hr k i q h1) (hr k' i' q' h2) hne
  exact hi k i k' i' q q' h1 h2 (Prod.ext e1 e2)
theorem mh_P.drop {D : va_G} {b : Nat} {w : mh_w} {H : Heap} (h : mh_P D b w H) (k i : Nat) : mh_P D b (mh_set w k i none) H := by
  refine h.by (fun k i => (k, i)) (fun k' i' q hq => ?_) (fun k i k' i' q q' _ _ e => by cases e; exact ⟨rfl, rfl⟩)
  rw [mh_set_apply] at hq
  by_cases hc : k' = k ∧ i' = i
  · rw [if_pos hc] at hq; cases hq
  · rw [if_neg hc] at hq; exact hq
/-- two names that hold other things are two names -/
theorem mh_ne {w : mh_w} {k i k' i' : Nat} {q q' : Nat × va_E} (h : w k i = some q) (h' : w k' i' = some q') (hne : q.2 ≠ q'.2) : ¬ (k' = k ∧ i' = i) := by
  rintro ⟨rfl, rfl⟩
  exact hne (by rw [h] at h'; rw [Option.some.inj h'])
/-- the state at a method's start: what the tables say (mh_T), the statics (mh_Z), the world -/
def mh_OK (b : Nat) (dC : Nat → ClassId) (dI : Nat → Nat → Nat) (dA : Nat → ClassId) (zs : Nat → Nat) (w : mh_w) (U : State) : Prop :=
  (∀ x ∈ mh_NW, va_Nw x U) ∧ va_K (dC, dI) classes (mh_tys dA) U ∧ mh_Z b zs U U.heap ∧ b ≤ U.heap.size ∧ mh_P (dC, dI) b w U.heap
/-- a method's end -/
def mh_Q (b : Nat) (dC : Nat → ClassId) (dI : Nat → Nat → Nat) (P : Outcome → mh_w → Prop) (mc ms : Nat) : Array Value → State → Outcome → State → Prop := fun _ st o t =>
  ∃ w' : mh_w, P o w' ∧ mh_P (dC, dI) b w' t.heap ∧ va_F (mh_A b) st t ∧ ∃ L : List Loc, st.WarmedH t.vm ∧ st.sameButNew ({ t with vm := st.vm } : State) L mc ms ∧ ∀ q ∈ L, b ≤ q.base
/-- a method's contract: from the arguments av and the world w it comes to an end that P allows -/
def mh_Met (l : Launch) (b : Nat) (dC : Nat → ClassId) (dI : Nat → Nat → Nat) (dA : Nat → ClassId) (zs : Nat → Nat) (y : MethodName) (rm : Room) (av : List Value) (w : mh_w) (P : Outcome → mh_w → Prop) : Prop :=
  MetFree l y (headSpec mh_TB rm) (va_Pc av (mh_OK b dC dI dA zs w)) (fun _ _ _ _ _ => True) (mh_Q b dC dI P rm.cells rm.slots)
/-- what the body owes -/
def mh_MQ (below : List Frame) (b : Nat) (dC : Nat → ClassId) (dI : Nat → Nat → Nat) (P : Outcome → mh_w → Prop) (args : Array Value) (s : State) (mc ms : Nat) : State → Prop := fun t =>
  ∃ o, t.status = .running ∧ Ended t below o ∧ mh_Q b dC dI P mc ms args s o t
/-- the code of a method, with its table of handlers -/
def mh_cd (s : State) (y : MethodName) (cc : ByteArray) (n : Nat) (ret : Option FieldType) (hs : List (Nat × Nat × Nat × Nat)) : Prop :=
  ∃ m meth c, s.methodNamed? y = some m ∧ s.vm.method? m = some meth ∧ meth.code = some c ∧ c.code = cc ∧ c.maxLocals = n ∧
      c.exceptionTable.toList.map (fun h => (h.startPc, h.endPc, h.handlerPc, h.catchType)) = hs ∧ meth.sig.returnType = ret ∧ meth.locks = false ∧ parseMethodDescriptor y.desc = some meth.sig
def mh_cw (y : MethodName) (cc : ByteArray) (n : Nat) (ret : Option FieldType) (hs : List (Nat × Nat × Nat × Nat)) : Cond := match hs with
  | [] => .code y cc n ret
  | _ => .codeWith y cc n ret hs
theorem mh_cd_of {s : State} {args : Array Value} {y : MethodName} {cc : ByteArray} {n : Nat} {ret : Option FieldType} {hs : List (Nat × Nat × Nat × Nat)} (h : (mh_cw y cc n ret hs).before args s = true) : mh_cd s y cc n ret hs := by
  cases hs with
  | nil =>
    obtain ⟨m, hn⟩ := Cond.code_named (show (Cond.code y cc n ret).before args s = true from h)
    obtain ⟨meth, c, h1, h2, h3, h4, h5, h6, h7, h8⟩ := Cond.code_spec hn (show (Cond.code y cc n ret).before args s = true from h)
    have h9 : c.exceptionTable.size = 0 := by simpa [Array.isEmpty] using h7
    have h0 : c.exceptionTable.toList = [] := List.eq_nil_of_length_eq_zero (by simpa using h9)
    exact ⟨m, meth, c, hn, h1, h2, h3, h4, by rw [h0]; rfl, h5, h6, h8⟩
  | cons q l =>
    exact Cond.codeWith_spec (show (Cond.codeWith y cc n ret (q :: l)).holds args s none s [] = true from h)
theorem mh_pay {args : Array Value} {s : State} (hts : ∀ w ∈ mh_TB, w.before args s = true) : ∀ w ∈ mh_TB, ∀ (a' : Array Value) (U : State), s.WarmedH U.vm → w.before a' U = true :=
  fun w hw a' U hW => word_at hW (good_of_word (mh_TB_good w hw)) (hts w hw)
theorem mh_ofW {l : Launch} {b : Nat} {dC : Nat → ClassId} {dI : Nat → Nat → Nat} {dA : Nat → ClassId} {zs : Nat → Nat} {y : MethodName} {rm : Room} {av : List Value} {w : mh_w} {P : Outcome → mh_w → Prop}
    {cc : ByteArray} {n : Nat} {ret : Option FieldType} {hs : List (Nat × Nat × Nat × Nat)} (hy : plainFor y = true) (hc : mh_cw y cc n ret hs ∈ mh_TB)
    (body : ∀ (p : Program) (e : Env) (s : State) (m : MethodId) (below : List Frame) (meth : Method) (c : Code), p.tables.exec = Jvm.exec → c.code = cc → meth.sig.returnType = ret → c.maxLocals = n → s.vm.findClass y.cls = some m.cls →
      (∀ x ∈ mh_TB, x.before av.toArray s = true) → meth.locks = false → meth.name = y.name → c.exceptionTable.toList.map (fun h => (h.startPc, h.endPc, h.handlerPc, h.catchType)) = hs → mh_OK b dC dI dA zs w s → l.admits e →
      W p l e rm s m av.toArray below meth c s.heap [] 0 0 (mh_MQ below b dC dI P av.toArray s rm.cells rm.slots) (entryFrame m av.toArray n)) : mh_Met l b dC dI dA zs y rm av w P := by
  refine MetFree.of_bodySF (code := cc) (maxLocals := n) (ret := ret) hy ?_ ?_
  · intro args s m h hn
    obtain ⟨m', meth, c, h0, h1, h2, h3, h4, -, h5, h6, -⟩ := mh_cd_of (atoms_spec (ws := mh_TB) h _ hc)
    cases Option.some.inj (hn.symm.trans h0)
    exact ⟨meth, c, h1, h2, h3, h4, h5, h6⟩
  · intro p e s m args below meth c s₁ B hml hP _
    obtain ⟨rfl, hOK⟩ := hP
    have hh0 : s₁.heap = s.heap := by rw [B.state]; rfl
    have hts : ∀ x ∈ mh_TB, x.before av.toArray s = true := atoms_spec (ws := mh_TB) B.pre
    have X₀ := Stand.of_body B
    obtain ⟨m', meth', c', h0, h1, h2, -, -, h3, -, -, -⟩ := mh_cd_of (hts _ hc)
    cases Option.some.inj (B.named.symm.trans h0)
    cases Option.some.inj (B.method.symm.trans h1)
    cases Option.some.inj (X₀.code.symm.trans h2)
    obtain ⟨t, a1, o, b1, b2, b3⟩ := body p e s m below meth c B.exec B.bytes B.returns hml (findClass_of_methodNamed B.named) hts B.notSynchronized (name_of_methodNamed B.named B.method).1 h3 hOK X₀.admits s₁ hh0 X₀
    exact ⟨t, o, a1, b1, b2, b3⟩
end
section
/-- what stays the same all through a method's body -/
def mh_K0 (p : Program) (s : State) (m : MethodId) (args : Array Value) (c : Code) (own : String) (cc : ByteArray) (dC : Nat → ClassId) (dI : Nat → Nat → Nat) (dA : Nat → ClassId) : Prop :=
  p.tables.exec = Jvm.exec ∧ c.code = cc ∧ s.vm.findClass own = some m.cls ∧ (∀ x ∈ mh_TB, x.before args s = true) ∧ (∀ x ∈ mh_NW, va_Nw x s) ∧ va_K (dC, dI) classes (mh_tys dA) s
/-- a field that an instruction names: the class's number, the field's place -/
def mh_fl (own : String) (index ci j : Nat) : Prop := ∃ (C : String) (T : u_T) (N : Nat) (ref : String), classes[ci]? = some (C, T, N) ∧ j < N ∧ (∀ x ∈ u_ws C T N, x ∈ mh_TB) ∧
  (Cond.fieldLink own index ref (T j).2.1 (T j).2.2.1 ∈ mh_TB ∨ ∃ host, Cond.fieldLinkNest own index ref (T j).2.1 (T j).2.2.1 host ∈ mh_NW) ∧ ((T j).1 = ref ∨ Cond.sameField ref (T j).1 (T j).2.1 (T j).2.2.1 ∈ mh_TB)
/-- .. which may be written: its type, and that the class's fields have names of their own -/
def mh_fp (ci j : Nat) (fin : Bool) (ty : FieldType) : Prop := ∃ (C : String) (T : u_T) (N : Nat) (ty0 : Nat → FieldType), classes[ci]? = some (C, T, N) ∧ (∀ k, k < N → parseFieldDescriptor (T k).2.2.1 = some (ty0 k)) ∧
  (∀ a, a < N → ∀ b, b < N → a ≠ b → (T a).2.1 ≠ (T b).2.1) ∧ (T j).2.2.2 = fin ∧ parseFieldDescriptor (T j).2.2.1 = some ty
section MHR
variable {p : Program} {l : Launch} {e : Env} {R : Room} {s : State} {m : MethodId} {args : Array Value} {below : List Frame} {meth : Method} {c : Code} {H : Heap} {locs : List Loc} {cells slots : Nat} {Q : State → Prop}
variable {cc : ByteArray} {pc : Nat} {ls : Array Slot} {rest : List Value} {own : String} {b : Nat} {dC : Nat → ClassId} {dI : Nat → Nat → Nat} {dA : Nat → ClassId} {w : mh_w} {k i a : Nat}
theorem mh_same {ref : String} {T : u_T} {j : Nat} (hts : ∀ x ∈ mh_TB, x.before args s = true) (h : (T j).1 = ref ∨ Cond.sameField ref (T j).1 (T j).2.1 (T j).2.2.1 ∈ mh_TB) : ∀ x, s.fieldFound? (T j).1 (T j).2.1 (T j).2.2.1 = some x → s.fieldFound? ref (T j).2.1 (T j).2.2.1 = some x := by
  intro x hx
  rcases h with h | h
  · rw [← h]; exact hx
  · exact u_same (hts _ h) x hx
theorem mh_get (K0 : mh_K0 p s m args c own cc dC dI dA) (hX : mh_P (dC, dI) b w H) {ci : Nat} {fs : List Value} (h : w k i = some (a, .inr (ci, fs))) {index j : Nat} (F : mh_fl own index ci j) {v : Value} (hv : fs[j]? = some v) (hdg : decode cc pc = .ok (.getfield index, 3))
    (kk : W p l e R s m args below meth c H locs cells slots Q (F0 m (pc + 3) ls (v :: rest))) : W p l e R s m args below meth c H locs cells slots Q (F0 m pc ls (.ref a :: rest)) := by
  obtain ⟨hx, hb, hown, hts, hN, hK⟩ := K0
  obtain ⟨C, T, N, ref, hc, hj, hin, hl, hsm⟩ := F
  rcases hl with hl | ⟨host, hl⟩
  · exact va_get hx hb hts hin hown hK (hX.get h) 0 rfl hc j hj (hts _ hl) (mh_same hts hsm) hv hdg kk
  · exact va_getN hx hb hts hin hown hK (hX.get h) 0 rfl hc j hj (va_Nw.use rfl (hN _ hl)) (mh_same hts hsm) hv hdg kk
theorem mh_put (K0 : mh_K0 p s m args c own cc dC dI dA) (hX : mh_P (dC, dI) b w H) (hS : va_S (mh_A b) s.heap H locs) {ci : Nat} {fs : List Value} (h : w k i = some (a, .inr (ci, fs))) {index j : Nat} (F : mh_fl own index ci j) {ty : FieldType} (G : mh_fp ci j false ty) {v : Value} (hn : narrow ty v = v) (hfit : fits ty v = true) (hlen : j < fs.length) (hdg : decode cc pc = .ok (.putfield index, 3))
    (kk : ∀ (H1 : Heap) (locs1 : List Loc), mh_P (dC, dI) b (mh_set w k i (some (a, .inr (ci, fs.set j v)))) H1 → va_S (mh_A b) s.heap H1 locs1 → W p l e R s m args below meth c H1 locs1 cells slots Q (F0 m (pc + 3) ls rest)) : W p l e R s m args below meth c H locs cells slots Q (F0 m pc ls (v :: .ref a :: rest)) := by
  obtain ⟨hx, hb, hown, hts, hN, hK⟩ := K0
  obtain ⟨C, T, N, ref, hc, hj, hin, hl, hsm⟩ := F
  obtain ⟨C', T', N', ty0, hc', hty, hnm, hfin, hd⟩ := G
  cases Option.some.inj (hc.symm.trans hc')
  have hap := va_apart (own := own) hts hin ty0 hty hnm hK hc
  obtain ⟨r, h1, cell, q1, q2, q3, q4⟩ := hX.at h
  have hr : r = (C, T, N) := Option.some.inj (h1.symm.trans hc)
  subst hr
  obtain ⟨hSl, hfc, kC, hkC, hkind⟩ := hK.1 ci _ hc
  obtain ⟨cf, kf, fi, f, hi, hsl⟩ := hSl j hj
  have hlay := hts _ (hin _ (u_in_lay hj))
  unfold u_lay at hlay
  rw [if_neg (by rw [hfin]; decide)] at hlay
  have hst := (u_facts hfc hkC (u_lays hts hin hj) hi).1
  have h6 := u_store hfc hkC hkind hlay hi hd hn hfit
  have fin2 : ∀ H' : Heap, H'[a]? = some (cell.setSlot f.slot v) → H'.size = H.size → (∀ q, q ≠ a → H'[q]? = H[q]?) → W p l e R s m args below meth c H' (locs ++ [⟨a, f.slot⟩]) cells slots Q (F0 m (pc + 3) ls rest) := by
    intro H' e1 e2 e3
    rw [hsl] at e1 ⊢
    exact kk H' _ (hX.put h ⟨_, hc, t_OB.to (V := updV (vp_V fs) j v) ⟨_, e1, q2, q3, t_set q4 hap hj v⟩ (fun z _ => vp_updV_set hlen v z)⟩ e3) (hS.put e2 e3 (hX.le h))
  rcases hl with hl | ⟨host, hl⟩
  · exact W.putK hx hb (f := f) ⟨hown, hts _ hl, ⟨_, _, _, mh_same hts hsm _ hi⟩, hst⟩ (by rw [q2]; exact h6) q1 q3 (by rw [hsl]; exact k2_hasslot (q4 j hj)) rfl rfl hdg fin2
  · exact va_WputK hx hb (f := f) hown (va_Nw.use rfl (hN _ hl)) (mh_same hts hsm _ hi) hst (by rw [q2]; exact h6) q1 q3 (by rw [hsl]; exact k2_hasslot (q4 j hj)) rfl rfl hdg fin2
theorem mh_putF (K0 : mh_K0 p s m args c own cc dC dI dA) (hX : mh_P (dC, dI) b w H) (hS : va_S (mh_A b) s.heap H locs) {ci : Nat} {fs : List Value} (h : w k i = some (a, .inr (ci, fs))) {index j : Nat} (F : mh_fl own index ci j) {ty : FieldType} (G : mh_fp ci j true ty) (hin2 : meth.name = "<init>") (hdecl : ∀ (C : String) (T : u_T) (N : Nat), classes[ci]? = some (C, T, N) → (T j).1 = own) {v : Value} (hn : narrow ty v = v) (hfit : fits ty v = true) (hlen : j < fs.length) (hdg : decode cc pc = .ok (.putfield index, 3)) (hlk : ∀ (C : String) (T : u_T) (N : Nat), classes[ci]? = some (C, T, N) → Cond.fieldLink own index (T j).1 (T j).2.1 (T j).2.2.1 ∈ mh_TB)
    (kk : ∀ (H1 : Heap) (locs1 : List Loc), mh_P (dC, dI) b (mh_set w k i (some (a, .inr (ci, fs.set j v)))) H1 → va_S (mh_A b) s.heap H1 locs1 → W p l e R s m args below meth c H1 locs1 cells slots Q (F0 m (pc + 3) ls rest)) : W p l e R s m args below meth c H locs cells slots Q (F0 m pc ls (v :: .ref a :: rest)) := by
  obtain ⟨hx, hb, hown, hts, hN, hK⟩ := K0
  obtain ⟨C, T, N, ref, hc, hj, hin, hl, hsm⟩ := F
  obtain ⟨C', T', N', ty0, hc', hty, hnm, hfin, hd⟩ := G
  cases Option.some.inj (hc.symm.trans hc')
  have hdecl := hdecl C T N hc
  have hap := va_apart (own := own) hts hin ty0 hty hnm hK hc
  obtain ⟨r, h1, cell, q1, q2, q3, q4⟩ := hX.at h
  have hr : r = (C, T, N) := Option.some.inj (h1.symm.trans hc)
  subst hr
  obtain ⟨hSl, hfc, kC, hkC, hkind⟩ := hK.1 ci _ hc
  obtain ⟨cf, kf, fi, f, hi, hsl⟩ := hSl j hj
  have hlay := hts _ (hin _ (u_in_lay hj))
  unfold u_lay at hlay
  rw [if_pos hfin] at hlay
  have hst := (u_facts hfc hkC (u_lays hts hin hj) hi).1
  have hcf : m.cls = cf := by
    obtain ⟨_, _, c', _, _, _, -, -, hf', -, -, -, hown2, -⟩ := Cond.laysFinal_spec hlay
    have e1 : c' = cf := by have := hi.symm.trans hf'; simp at this; exact this.1.symm
    rw [hdecl] at hown2
    rw [← e1]; exact Option.some.inj (hown.symm.trans hown2)
  have h6 := u_fits hfc hkC hkind (Or.inr hlay) hi hd hn hfit
  refine W.putFinK hx hb hown (hts _ (hlk C T N hc)) hi hst hcf hin2 (by rw [q2]; exact h6) q1 q3 (by rw [hsl]; exact k2_hasslot (q4 j hj)) rfl rfl hdg fun H' e1 e2 e3 => ?_
  rw [hsl] at e1 ⊢
  exact kk H' _ (hX.put h ⟨_, hc, t_OB.to (V := updV (vp_V fs) j v) ⟨_, e1, q2, q3, t_set q4 hap hj v⟩ (fun z _ => vp_updV_set hlen v z)⟩ e3) (hS.put e2 e3 (hX.le h))
theorem mh_iald (K0 : mh_K0 p s m args c own cc dC dI dA) (hX : mh_P (dC, dI) b w H) {n : Nat} {f : Nat → Int32} (h : w k i = some (a, .inl (dA 0, n, .inl f))) {x : Int32} (hin : vp_in x n) (hdg : decode cc pc = .ok (.iaload, 1))
    (kk : W p l e R s m args below meth c H locs cells slots Q (F0 m (pc + 1) ls (.int (f x.toNatClampNeg) :: rest))) : W p l e R s m args below meth c H locs cells slots Q (F0 m pc ls (.int x :: .ref a :: rest)) :=
  va_iald K0.1 K0.2.1 K0.2.2.2.2.2 (hX.get h) 0 0 rfl rfl hin hdg kk
theorem mh_lald (K0 : mh_K0 p s m args c own cc dC dI dA) (hX : mh_P (dC, dI) b w H) {n : Nat} {f : Nat → Int64} (h : w k i = some (a, .inl (dA 1, n, .inr (.inl f)))) {x : Int32} (hin : vp_in x n) (hdg : decode cc pc = .ok (.laload, 1))
    (kk : W p l e R s m args below meth c H locs cells slots Q (F0 m (pc + 1) ls (.long (f x.toNatClampNeg) :: rest))) : W p l e R s m args below meth c H locs cells slots Q (F0 m pc ls (.int x :: .ref a :: rest)) :=
  va_lald K0.1 K0.2.1 K0.2.2.2.2.2 (hX.get h) 0 1 rfl rfl hin hdg kk
theorem mh_zald (K0 : mh_K0 p s m args c own cc dC dI dA) (hX : mh_P (dC, dI) b w H) {n : Nat} {f : Nat → Int32} (h : w k i = some (a, .inl (dA 2, n, .inl f))) {x : Int32} (hin : vp_in x n) (hdg : decode cc pc = .ok (.baload, 1))
    (kk : W p l e R s m args below meth c H locs cells slots Q (F0 m (pc + 1) ls (.int (f x.toNatClampNeg) :: rest))) : W p l e R s m args below meth c H locs cells slots Q (F0 m pc ls (.int x :: .ref a :: rest)) :=
  va_zald K0.1 K0.2.1 K0.2.2.2.2.2 (hX.get h) 0 2 rfl rfl hin hdg kk
/-- arrays of references: t is the place of the array's class in mh_tys -/
theorem mh_aald (t : Nat) {C : String} (ht : (mh_tys dA)[t]? = some (dA t, .object C)) (K0 : mh_K0 p s m args c own cc dC dI dA) (hX : mh_P (dC, dI) b w H) {n : Nat} {f : Nat → Option Nat} (h : w k i = some (a, .inl (dA t, n, .inr (.inr (.inr (.inr f)))))) {x : Int32} (hin : vp_in x n) {r : Option Nat} (hr : f x.toNatClampNeg = r) (hdg : decode cc pc = .ok (.aaload, 1))
    (kk : W p l e R s m args below meth c H locs cells slots Q (F0 m (pc + 1) ls (va_rf r :: rest))) : W p l e R s m args below meth c H locs cells slots Q (F0 m pc ls (.int x :: .ref a :: rest)) := by
  subst hr
  exact va_aldq K0.1 K0.2.1 K0.2.2.2.2.2 (hX.get h) 0 t rfl ht hin hdg kk
theorem mh_alen (t : Nat) {ty : FieldType} (ht : (mh_tys dA)[t]? = some (dA t, ty)) (K0 : mh_K0 p s m args c own cc dC dI dA) (hX : mh_P (dC, dI) b w H) {z : vp_A} (h : w k i = some (a, .inl (dA t, z))) (hdg : decode cc pc = .ok (.arraylength, 1))
    (kk : W p l e R s m args below meth c H locs cells slots Q (F0 m (pc + 1) ls (.int (nI z.1) :: rest))) : W p l e R s m args below meth c H locs cells slots Q (F0 m pc ls (.ref a :: rest)) :=
  va_alen K0.1 K0.2.1 K0.2.2.2.2.2 (hX.get h) 0 t rfl ht rfl hdg kk
theorem mh_iast (K0 : mh_K0 p s m args c own cc dC dI dA) (hX : mh_P (dC, dI) b w H) (hS : va_S (mh_A b) s.heap H locs) {n : Nat} {f : Nat → Int32} (h : w k i = some (a, .inl (dA 0, n, .inl f))) {x v : Int32} (hin : vp_in x n) (hdg : decode cc pc = .ok (.iastore, 1))
    (kk : ∀ (H1 : Heap) (locs1 : List Loc), mh_P (dC, dI) b (mh_set w k i (some (a, .inl (dA 0, n, .inl (upd f x.toNatClampNeg v))))) H1 → va_S (mh_A b) s.heap H1 locs1 → W p l e R s m args below meth c H1 locs1 cells slots Q (F0 m (pc + 1) ls rest)) : W p l e R s m args below meth c H locs cells slots Q (F0 m pc ls (.int v :: .int x :: .ref a :: rest)) := by
  refine W.iast K0.1 K0.2.1 (hX.at h) ((K0.2.2.2.2.2.2 0 _ rfl).1 n (fun j => .int (f j))) (fun q => by cases q) (by show ¬ (x < 0 ∨ (arrV _ _ _).slots.size ≤ _); rw [arrV_size]; exact hin) rfl rfl hdg fun H1 e z oq => ?_
  refine kk H1 _ (hX.put h ?_ oq) (hS.put z oq (hX.le h))
  show H1[a]? = some (vp_cell _ _)
  rw [e]
  rw [vp_cell_i, vp_cell_i, arrV_store]
  congr 2
  funext q
  by_cases hq : q = x.toNatClampNeg
  · subst hq
    simp [updV, upd]
  · simp [updV, upd, hq]
theorem mh_zast (K0 : mh_K0 p s m args c own cc dC dI dA) (hX : mh_P (dC, dI) b w H) (hS : va_S (mh_A b) s.heap H locs) {n : Nat} {f : Nat → Int32} (h : w k i = some (a, .inl (dA 2, n, .inl f))) {x v : Int32} (hv : vp_nar .boolean v = v) (hin : vp_in x n) (hdg : decode cc pc = .ok (.bastore, 1))
    (kk : ∀ (H1 : Heap) (locs1 : List Loc), mh_P (dC, dI) b (mh_set w k i (some (a, .inl (dA 2, n, .inl (upd f x.toNatClampNeg v))))) H1 → va_S (mh_A b) s.heap H1 locs1 → W p l e R s m args below meth c H1 locs1 cells slots Q (F0 m (pc + 1) ls rest)) : W p l e R s m args below meth c H locs cells slots Q (F0 m pc ls (.int v :: .int x :: .ref a :: rest)) := by
  refine W.zast K0.1 K0.2.1 (hX.at h) ((K0.2.2.2.2.2.2 2 _ rfl).1 n (fun j => .int (f j))) (fun q => by cases q) (by show ¬ (x < 0 ∨ (arrV _ _ _).slots.size ≤ _); rw [arrV_size]; exact hin) rfl rfl hdg fun H1 e z oq => ?_
  refine kk H1 _ (hX.put h ?_ oq) (hS.put z oq (hX.le h))
  show H1[a]? = some (vp_cell _ _)
  rw [e]
  rw [vp_cell_i, vp_cell_i, arrV_store]
  congr 2
  funext q
  by_cases hq : q = x.toNatClampNeg
  · subst hq
    have hv' : narrow .boolean (.int v) = .int v := by
      have := hv
      simp [vp_nar] at this
      revert this
      simp [narrow]
    simp [updV, upd, hv']
  · simp [updV, upd, hq]
theorem mh_last (K0 : mh_K0 p s m args c own cc dC dI dA) (hX : mh_P (dC, dI) b w H) (hS : va_S (mh_A b) s.heap H locs) {n : Nat} {f : Nat → Int64} (h : w k i = some (a, .inl (dA 1, n, .inr (.inl f)))) {x : Int32} {v : Int64} (hin : vp_in x n) (hdg : decode cc pc = .ok (.lastore, 1))
    (kk : ∀ (H1 : Heap) (locs1 : List Loc), mh_P (dC, dI) b (mh_set w k i (some (a, .inl (dA 1, n, .inr (.inl (vp_updL f x.toNatClampNeg v)))))) H1 → va_S (mh_A b) s.heap H1 locs1 → W p l e R s m args below meth c H1 locs1 cells slots Q (F0 m (pc + 1) ls rest)) : W p l e R s m args below meth c H locs cells slots Q (F0 m pc ls (.long v :: .int x :: .ref a :: rest)) := by
  refine W.last K0.1 K0.2.1 (hX.at h) ((K0.2.2.2.2.2.2 1 _ rfl).1 n (fun j => .long (f j))) (fun q => by cases q) (by show ¬ (x < 0 ∨ (arrV _ _ _).slots.size ≤ _); rw [arrV_size]; exact hin) rfl rfl hdg fun H1 e z oq => ?_
  refine kk H1 _ (hX.put h ?_ oq) (hS.put z oq (hX.le h))
  show H1[a]? = some (vp_cell _ _)
  rw [e]
  rw [vp_cell_l, vp_cell_l, arrV_store]
  congr 2
  funext q
  by_cases hq : q = x.toNatClampNeg
  · subst hq
    simp [updV, vp_updL]
  · simp [updV, vp_updL, hq]
theorem mh_aastN (t : Nat) {C : String} (ht : (mh_tys dA)[t]? = some (dA t, .object C)) (K0 : mh_K0 p s m args c own cc dC dI dA) (hX : mh_P (dC, dI) b w H) (hS : va_S (mh_A b) s.heap H locs) {n : Nat} {f : Nat → Option Nat} (h : w k i = some (a, .inl (dA t, n, .inr (.inr (.inr (.inr f)))))) {x : Int32} (hin : vp_in x n) (hdg : decode cc pc = .ok (.aastore, 1))
    (kk : ∀ (H1 : Heap) (locs1 : List Loc), mh_P (dC, dI) b (mh_set w k i (some (a, .inl (dA t, n, .inr (.inr (.inr (.inr (va_up f x.toNatClampNeg none)))))))) H1 → va_S (mh_A b) s.heap H1 locs1 → W p l e R s m args below meth c H1 locs1 cells slots Q (F0 m (pc + 1) ls rest)) : W p l e R s m args below meth c H locs cells slots Q (F0 m pc ls (.null :: .int x :: .ref a :: rest)) := by
  refine va_WaastN (C := C) K0.1 K0.2.1 (hX.at h) ((K0.2.2.2.2.2.2 t _ ht).1 n (fun j => va_rf (f j))) (fun h => by cases h) (by show ¬ (x < 0 ∨ (arrV _ _ _).slots.size ≤ _); rw [arrV_size]; exact hin) rfl rfl hdg fun H1 e z oq => ?_
  refine kk H1 _ (hX.put h ?_ oq) (hS.put z oq (hX.le h))
  show H1[a]? = some (vp_cell _ _)
  rw [e]
  rw [vp_cell_q, vp_cell_q, arrV_store]
  congr 2
  funext q
  by_cases hq : q = x.toNatClampNeg
  · subst hq
    simp [updV, va_up, va_rf]
  · simp [updV, va_up, hq]
theorem mh_aast (t : Nat) {k2 i2 v ci : Nat} {vs : List Value} {r : vw_C} (ht : (mh_tys dA)[t]? = some (dA t, .object r.1)) (hc : classes[ci]? = some r) (K0 : mh_K0 p s m args c own cc dC dI dA) (hX : mh_P (dC, dI) b w H) (hS : va_S (mh_A b) s.heap H locs) {n : Nat} {f : Nat → Option Nat} (h : w k i = some (a, .inl (dA t, n, .inr (.inr (.inr (.inr f)))))) (hv : w k2 i2 = some (v, .inr (ci, vs))) {x : Int32} (hin : vp_in x n) (hdg : decode cc pc = .ok (.aastore, 1))
    (kk : ∀ (H1 : Heap) (locs1 : List Loc), mh_P (dC, dI) b (mh_set w k i (some (a, .inl (dA t, n, .inr (.inr (.inr (.inr (va_up f x.toNatClampNeg (some v))))))))) H1 → va_S (mh_A b) s.heap H1 locs1 → W p l e R s m args below meth c H1 locs1 cells slots Q (F0 m (pc + 1) ls rest)) : W p l e R s m args below meth c H locs cells slots Q (F0 m pc ls (.ref v :: .int x :: .ref a :: rest)) := by
  have hlt : x.toNatClampNeg < n := Nat.not_le.mp fun q => hin (Or.inr q)
  have h0 : ¬ x < 0 := fun q => hin (Or.inl q)
  obtain ⟨r', hr', cellV, g1, g2, g3, -⟩ := hX.at hv
  have hcls := (K0.2.2.2.2.2.1 ci r hc).2
  obtain ⟨kA, comp, k1, k2, k3, -⟩ := (K0.2.2.2.2.2.2 t _ ht).2
  have hcomp : comp = dC ci := Option.some.inj (k3.symm.trans hcls.1)
  subst hcomp
  obtain ⟨kC, hkC, -⟩ := hcls.2
  refine W.aast K0.1 K0.2.1 (hX.at h) (fun q h => by cases h) (fun h => by cases h) k1 k2 rfl hkC ⟨h0, by show _ < (arrV _ _ _).slots.size; rw [arrV_size]; exact hlt⟩ g1 (fun q h => by rw [g3] at h; cases h) (by rw [g2]; exact hkC) (by rw [g2]; exact va_assign hcls) rfl rfl hdg fun H1 e z oq => ?_
  refine kk H1 _ (hX.put h ?_ oq) (hS.put z oq (hX.le h))
  show H1[a]? = some (vp_cell _ _)
  rw [e]
  rw [vp_cell_q, vp_cell_q, arrV_store]
  congr 2
  funext q
  by_cases hq : q = x.toNatClampNeg
  · subst hq
    simp [updV, va_up, va_rf]
  · simp [updV, va_up, hq]
/-- new: the cell gets the name (k, i) -/
theorem mh_new (k i : Nat) (K0 : mh_K0 p s m args c own cc dC dI dA) (hX : mh_P (dC, dI) b w H) (hS : va_S (mh_A b) s.heap H locs) (hb0 : b ≤ s.heap.size) {index ci N : Nat} {C : String} {T : u_T} (hc : classes[ci]? = some (C, T, N)) (hin : ∀ x ∈ u_ws C T N, x ∈ mh_TB) (ty : Nat → FieldType) (hty : ∀ k, k < N → parseFieldDescriptor (T k).2.2.1 = some (ty k)) {Ni : Nat}
    (hcl : Cond.classLink own index C ∈ mh_TB) (hinst : Cond.instantiable C Ni ∈ mh_TB) (hini : Cond.initialized C ∈ mh_TB) {fs : List Value} (hfs : ∀ j, j < N → defaultValue (ty j) = vp_V fs j) (hcells : cells + 1 ≤ R.cells) (hslots : slots + Ni ≤ R.slots) (hdg : decode cc pc = .ok (.new index, 3))
    (kk : ∀ (q : Nat) (H1 : Heap), mh_P (dC, dI) b (mh_set w k i (some (q, .inr (ci, fs)))) H1 → va_S (mh_A b) s.heap H1 locs → W p l e R s m args below meth c H1 locs (cells + 1) (slots + Ni) Q (F0 m (pc + 3) ls (.ref q :: rest))) : W p l e R s m args below meth c H locs cells slots Q (F0 m pc ls rest) := by
  obtain ⟨hx, hb, hown, hts, hN, hK⟩ := K0
  have hKn := hK.1 ci _ hc
  refine W.newcK hx hb hown (hts _ hcl) (hts _ hinst) (hts _ hini) rfl hdg hcells hslots hKn.2.1 rfl fun H1 kC hkC e1 z1 o1 => ?_
  exact kk H.size H1 (hX.new (Nat.le_trans hb0 hS.1) ⟨_, hc, (u_born ty hts hin hKn hkC e1 hty).to hfs⟩ o1) ⟨Nat.le_trans hS.1 (by omega), fun x h1 h2 => (o1 x (Nat.lt_of_lt_of_le h1 hS.1)).trans (hS.2.1 x h1 h2), hS.2.2⟩
theorem mh_newa (k i : Nat) (t : Nat) (K0 : mh_K0 p s m args c own cc dC dI dA) (hX : mh_P (dC, dI) b w H) (hS : va_S (mh_A b) s.heap H locs) (hb0 : b ≤ s.heap.size) {atype : ArrayType} {ty : FieldType} (hty : newarray.typeOf atype = ty) (ht : (mh_tys dA)[t]? = some (dA t, ty)) (harr : Cond.arrayClass ty ∈ mh_TB)
    {n : Int32} {N' : Nat} {a0 : vp_A} (ha : ∀ cA : ClassId, vp_cell cA a0 = arrV cA N' (fun _ => defaultValue ty)) (hn : ¬ n < 0) (hN' : n.toNatClampNeg = N') (hbytes : N' * componentBytes ty ≤ 536870912) (hcells : cells + 1 ≤ R.cells) (hslots : slots + N' ≤ R.slots) (hdg : decode cc pc = .ok (.newarray atype, 2))
    (kk : ∀ (q : Nat) (H1 : Heap), mh_P (dC, dI) b (mh_set w k i (some (q, .inl (dA t, a0)))) H1 → va_S (mh_A b) s.heap H1 locs → W p l e R s m args below meth c H1 locs (cells + 1) (slots + N') Q (F0 m (pc + 2) ls (.ref q :: rest))) : W p l e R s m args below meth c H locs cells slots Q (F0 m pc ls (.int n :: rest)) := by
  obtain ⟨hx, hb, hown, hts, hN, hK⟩ := K0
  subst hty
  refine va_newaK hx hb (hts _ harr) rfl hdg rfl hn hN' hbytes hcells hslots rfl fun H1 cA e1 z1 o1 hAr hNm => ?_
  have hcA : cA = dA t := by
    have h2 := (hK.2 t _ ht).2
    have h3 : s.vm.findClass ("[" ++ (newarray.typeOf atype).toString) = some (dA t) := by cases atype <;> exact h2
    exact Option.some.inj (hNm.symm.trans h3)
  subst hcA
  refine kk H.size H1 (hX.new (Nat.le_trans hb0 hS.1) ?_ o1) ⟨Nat.le_trans hS.1 (by omega), fun x h1 h2 => (o1 x (Nat.lt_of_lt_of_le h1 hS.1)).trans (hS.2.1 x h1 h2), hS.2.2⟩
  show H1[H.size]? = some (vp_cell _ _)
  rw [ha]
  exact e1
theorem mh_newq (k i : Nat) (t : Nat) (K0 : mh_K0 p s m args c own cc dC dI dA) (hX : mh_P (dC, dI) b w H) (hS : va_S (mh_A b) s.heap H locs) (hb0 : b ≤ s.heap.size) {C : String} {index : Nat} (ht : (mh_tys dA)[t]? = some (dA t, .object C)) (hclink : Cond.classLink own index C ∈ mh_TB) (hover : va_AO C s)
    {n : Int32} {N' : Nat} (hn : ¬ n < 0) (hN' : n.toNatClampNeg = N') (hbytes : N' * 4 ≤ 536870912) (hcells : cells + 1 ≤ R.cells) (hslots : slots + N' ≤ R.slots) (hdg : decode cc pc = .ok (.anewarray index, 3))
    (kk : ∀ (q : Nat) (H1 : Heap), mh_P (dC, dI) b (mh_set w k i (some (q, .inl (dA t, N', .inr (.inr (.inr (.inr (fun _ => none)))))))) H1 → va_S (mh_A b) s.heap H1 locs → W p l e R s m args below meth c H1 locs (cells + 1) (slots + N') Q (F0 m (pc + 3) ls (.ref q :: rest))) : W p l e R s m args below meth c H locs cells slots Q (F0 m pc ls (.int n :: rest)) := by
  obtain ⟨hx, hb, hown, hts, hN, hK⟩ := K0
  subst hN'
  refine W.anew hx hb hown (hts _ hclink) (va_AO.use hover) rfl hdg rfl hn hbytes hcells hslots fun cA kA comp f1 f2 f3 f4 => ?_
  have hcA : cA = dA t := by
    obtain ⟨_, _, _, _, _, h5⟩ := (hK.2 t _ ht).2
    exact Option.some.inj (f1.symm.trans h5)
  subst hcA
  generalize hH1 : H.push ({ cls := dA t, slots := Array.replicate n.toNatClampNeg .null, vm := .none } : Cell) = H1
  have z1 : H1.size = H.size + 1 := by rw [← hH1, Array.size_push]
  have e1 : H1[H.size]? = some (arrV (dA t) n.toNatClampNeg (fun _ => .null)) := by rw [← hH1, Array.getElem?_push_size, ← arrV_new]
  have o1 : ∀ q : Nat, q < H.size → H1[q]? = H[q]? := fun q hq => by rw [← hH1, Array.getElem?_push, if_neg (Nat.ne_of_lt hq)]
  refine kk H.size H1 (hX.new (Nat.le_trans hb0 hS.1) ?_ o1) ⟨Nat.le_trans hS.1 (by omega), fun x h1 h2 => (o1 x (Nat.lt_of_lt_of_le h1 hS.1)).trans (hS.2.1 x h1 h2), hS.2.2⟩
  show H1[H.size]? = some (vp_cell _ _)
  rw [vp_cell_q]
  exact e1
end MHR
end
section
theorem mh_OK_calling {b : Nat} {dC : Nat → ClassId} {dI : Nat → Nat → Nat} {dA : Nat → ClassId} {zs : Nat → Nat} {w : mh_w} {U : State} {g : JFrame} {mk : MethodId} {a : Array Value} (h : mh_OK b dC dI dA zs w U) : mh_OK b dC dI dA zs w (U.calling g mk a) := by
  obtain ⟨h1, h2, h3, h4, h5⟩ := h
  exact ⟨fun x hx => va_Nw.same (mh_NW_on x hx) (u := U) (U := U.calling g mk a) rfl (h1 x hx), va_K.moved (u := U) (U := U.calling g mk a) (Vm.Alike.refl U.vm) h2, mh_Z_calling h3, h4, h5⟩
theorem mh_OK_at {b : Nat} {dC : Nat → ClassId} {dI : Nat → Nat → Nat} {dA : Nat → ClassId} {zs : Nat → Nat} {w0 w : mh_w} {s U : State} {locs : List Loc} (h : mh_OK b dC dI dA zs w0 s) (hW : s.WarmedH U.vm) (hS : va_S (mh_A b) s.heap U.heap locs) (hX : mh_P (dC, dI) b w U.heap) : mh_OK b dC dI dA zs w U := by
  obtain ⟨h1, h2, h3, h4, h5⟩ := h
  exact ⟨fun x hx => mh_NW_warm x hx hW (h1 x hx), va_K.moved hW.alike h2, mh_Z_at h3 hW hS, Nat.le_trans h4 hS.1, hX⟩
section MHE
variable {p : Program} {l : Launch} {e : Env} {R : Room} {s : State} {m : MethodId} {args : Array Value} {below : List Frame} {meth : Method} {c : Code} {H : Heap} {locs : List Loc} {cells slots : Nat} {Q : State → Prop}
variable {cc : ByteArray} {pc : Nat} {ls : Array Slot} {rest : List Value} {own : String} {b : Nat} {dC : Nat → ClassId} {dI : Nat → Nat → Nat} {dA : Nat → ClassId} {zs : Nat → Nat} {w : mh_w} {P : Outcome → mh_w → Prop} {mc ms : Nat}
theorem mh_mono {Q' : State → Prop} {g : JFrame} (h : ∀ t, Q t → Q' t) (k : W p l e R s m args below meth c H locs cells slots Q g) : W p l e R s m args below meth c H locs cells slots Q' g := by
  intro T hT X
  obtain ⟨t, a1, b1⟩ := k T hT X
  exact ⟨t, a1, h t b1⟩
def mh_Qc (b : Nat) (dC : Nat → ClassId) (dI : Nat → Nat → Nat) (P : Outcome → mh_w → Prop) : Array Value → State → Outcome → State → Prop := fun _ st o t => ∃ w' : mh_w, P o w' ∧ mh_P (dC, dI) b w' t.heap ∧ va_F (mh_A b) st t
theorem mh_end {g : JFrame} (k : W p l e R s m args below meth c H locs mc ms (MQ below (mh_Qc b dC dI P) args s mc ms (mh_A b)) g) (h1 : cells ≤ mc) (h2 : slots ≤ ms) : W p l e R s m args below meth c H locs cells slots (mh_MQ below b dC dI P args s mc ms) g := by
  refine W.widen h1 h2 (mh_mono ?_ k)
  rintro t ⟨o, r1, r2, ⟨w', p1, p2, p3⟩, L, ⟨⟨v, rfl⟩, hW, hsm⟩, hL⟩
  exact ⟨_, r1, r2, w', p1, p2, p3, L, hW, hsm, hL⟩
theorem mh_iret {v : Int32} {ty : FieldType} (K0 : mh_K0 p s m args c own cc dC dI dA) (hr : meth.sig.returnType = some ty) (hn : narrow ty (.int v) = .int v) (hlocks : meth.locks = false) (hX : mh_P (dC, dI) b w H) (hS : va_S (mh_A b) s.heap H locs) (hP : P (.returned (some (.int v))) w) (h1 : cells ≤ mc) (h2 : slots ≤ ms) (hdg : decode cc pc = .ok (.ireturn, 1)) : W p l e R s m args below meth c H locs cells slots (mh_MQ below b dC dI P args s mc ms) (F0 m pc ls [.int v]) :=
  mh_end (W.zret K0.1 K0.2.1 hr hn (fun t ht _ => ⟨w, hP, by rw [ht]; exact hX, hS.F ht⟩) hS.2.2 hdg hlocks) h1 h2
theorem mh_lret {v : Int64} (K0 : mh_K0 p s m args c own cc dC dI dA) (hr : meth.sig.returnType = some .long) (hlocks : meth.locks = false) (hX : mh_P (dC, dI) b w H) (hS : va_S (mh_A b) s.heap H locs) (hP : P (.returned (some (.long v))) w) (h1 : cells ≤ mc) (h2 : slots ≤ ms) (hdg : decode cc pc = .ok (.lreturn, 1)) : W p l e R s m args below meth c H locs cells slots (mh_MQ below b dC dI P args s mc ms) (F0 m pc ls [.long v]) :=
  mh_end (W.lret K0.1 K0.2.1 hr (fun t ht _ => ⟨w, hP, by rw [ht]; exact hX, hS.F ht⟩) hS.2.2 hdg hlocks) h1 h2
theorem mh_vret (K0 : mh_K0 p s m args c own cc dC dI dA) (hr : meth.sig.returnType = none) (hlocks : meth.locks = false) (hX : mh_P (dC, dI) b w H) (hS : va_S (mh_A b) s.heap H locs) (hP : P (.returned none) w) (h1 : cells ≤ mc) (h2 : slots ≤ ms) (hdg : decode cc pc = .ok (.return_, 1)) : W p l e R s m args below meth c H locs cells slots (mh_MQ below b dC dI P args s mc ms) (F0 m pc ls []) :=
  mh_end (W.vret K0.1 K0.2.1 hr (fun t ht _ => ⟨w, hP, by rw [ht]; exact hX, hS.F ht⟩) hS.2.2 hdg hlocks) h1 h2
theorem mh_aret {v : Value} {rt : FieldType} (K0 : mh_K0 p s m args c own cc dC dI dA) (hr : meth.sig.returnType = some rt) (hrt : (∃ n, rt = .object n) ∨ ∃ t, rt = .array t) (hv : v = .null ∨ ∃ a, v = .ref a) (hlocks : meth.locks = false) (hX : mh_P (dC, dI) b w H) (hS : va_S (mh_A b) s.heap H locs) (hP : P (.returned (some v)) w) (h1 : cells ≤ mc) (h2 : slots ≤ ms) (hdg : decode cc pc = .ok (.areturn, 1)) : W p l e R s m args below meth c H locs cells slots (mh_MQ below b dC dI P args s mc ms) (F0 m pc ls [v]) :=
  mh_end (W.aret K0.1 K0.2.1 hr hrt hv (fun t ht _ => ⟨w, hP, by rw [ht]; exact hX, hS.F ht⟩) hS.2.2 hdg hlocks) h1 h2
/-- the machine with the exception q on its way through the frame g -/
def mh_X (p : Program) (l : Launch) (e : Env) (R : Room) (s : State) (m : MethodId) (args : Array Value) (below : List Frame) (meth : Method) (c : Code) (H : Heap) (locs : List Loc) (cells slots : Nat) (Q : State → Prop) (g : JFrame) (q : Addr) : Prop :=
  ∀ T : State, T.heap = H → Stand p l e R s m args below meth c T locs cells slots → ∃ t, Steps p.tables e below ((T.setTop g).pushFrame (.throwing q)) t ∧ Q t
/-- no row of the method's table covers the place: the method throws it on -/
theorem mh_leave {q : Addr} (hlocks : meth.locks = false) (hT : c.exceptionTable.toList.map (fun h => (h.startPc, h.endPc, h.handlerPc, h.catchType)) = []) (hX : mh_P (dC, dI) b w H) (hS : va_S (mh_A b) s.heap H locs) (hP : P (.threw q) w) (h1 : cells ≤ mc) (h2 : slots ≤ ms) : mh_X p l e R s m args below meth c H locs cells slots (mh_MQ below b dC dI P args s mc ms) (F0 m pc ls rest) q := by
  intro T hTh X
  have hn : c.exceptionTable.toList = [] := List.map_eq_nil_iff.mp hT
  obtain ⟨st, r1, r2, hW, hsm⟩ := (stand_widen X h1 h2).leaveThrown q (g := F0 m pc ls rest) rfl rfl rfl (fun x hx => by rw [hn] at hx; cases hx) hlocks
  exact ⟨_, st, .threw q, r1, r2, w, hP, by rw [show (T.setFrames (.throwing q :: below)).heap = T.heap from rfl, hTh]; exact hX, hS.F hTh, locs, hW, hsm, hS.2.2⟩
end MHE
section MHC
variable {p : Program} {l : Launch} {e : Env} {R : Room} {s : State} {m : MethodId} {args : Array Value} {below : List Frame} {meth : Method} {c : Code} {T U : State} {locs : List Loc} {cells slots : Nat}
/-- a callee, by its contract: it comes back, or throws -/
theorem mh_inv {b : Nat} {dC : Nat → ClassId} {dI : Nat → Nat → Nat} {dA : Nat → ClassId} {zs : Nat → Nat} {y : MethodName} {rm : Room} {av : List Value} {w : mh_w} {P : Outcome → mh_w → Prop} (hM : mh_Met l b dC dI dA zs y rm av w P)
    (X : Stand p l e R s m args below meth c U locs cells slots) (hts : ∀ x ∈ mh_TB, x.before args s = true) {cY : ByteArray} {nY : Nat} {rY : Option FieldType} {hsY : List (Nat × Nat × Nat × Nat)} (hcd : mh_cw y cY nY rY hsY ∈ mh_TB) (hini : Cond.initialized y.cls ∈ mh_TB)
    {g : JFrame} (hg : g.method = m) (hsize : g.locals.size = c.maxLocals) {ig : Instr} {len : Nat} (hdg : decode c.code g.pc = .ok (ig, len)) {mk : MethodId} (hn : U.methodNamed? y = some mk)
    (hfr : rm.frames + 1 ≤ R.frames) {W9 : Nat} (hW9 : 2 * g.monitorRoom + (g.stack.map fun v => v.category).sum ≤ W9) (hlo : W9 + (nY + 11) + rm.locals ≤ R.locals) (h4 : cells + rm.cells ≤ R.cells) (h5 : slots + rm.slots ≤ R.slots)
    (hOK : mh_OK b dC dI dA zs w U) :
    ∃ (T' : State) (L : List Loc) (w' : mh_w), Stand p l e R s m args below meth c T' (locs ++ L) (cells + rm.cells) (slots + rm.slots) ∧ (∀ q ∈ L, b ≤ q.base) ∧ mh_P (dC, dI) b w' T'.heap ∧ va_F (mh_A b) U T' ∧
      ((∃ v, P (.returned v) w' ∧ Steps p.tables e below (doInvoke e (U.setTop g) [] mk av.toArray).1 (T'.setTop { g with pc := g.pc + len, stack := v.toList ++ g.stack })) ∨
       (∃ q, P (.threw q) w' ∧ Steps p.tables e below (doInvoke e (U.setTop g) [] mk av.toArray).1 ((T'.setTop g).pushFrame (.throwing q)))) := by
  have h1 : (headSpec mh_TB rm).pre.before av.toArray U = true := atoms_intro fun x hx => mh_pay hts x hx _ _ X.warmed
  obtain ⟨mk', methY, codeY, hn', hmY, hcY, -, hlY, -, -, -, -⟩ := mh_cd_of (mh_pay hts _ hcd av.toArray U X.warmed)
  cases Option.some.inj (hn.symm.trans hn')
  obtain ⟨kY, hkY, -⟩ := className_of_methodNamed hn
  have hinitY : kY.init = .initialized := Cond.initialized_spec (findClass_of_methodNamed hn) hkY (mh_pay hts _ hini av.toArray U X.warmed)
  have h : At U g.method c below := by rw [hg]; exact X.here
  have happ : (headSpec mh_TB rm).appliesLoose y e.platform (U.calling g mk av.toArray) = true :=
    Spec.appliesLoose_calling (g := g) h hdg hn hkY hinitY
      (X.room_calling (g := g) (R' := (headSpec mh_TB rm).room) hsize hmY hcY hfr (by rw [hlY]; exact Nat.le_trans (Nat.add_le_add_right (Nat.add_le_add_right hW9 _) _) hlo) h4 h5) h1
  obtain ⟨mid, hmid⟩ := h.above
  have hfrm : (U.setTop g).frames = (.java g :: mid) ++ below := by rw [State.frames_setTop' g h.top, hmid]; rfl
  have hPc : va_Pc av (mh_OK b dC dI dA zs w) av.toArray (U.calling g mk av.toArray) := ⟨rfl, mh_OK_calling hOK⟩
  obtain ⟨o, s₂, hsteps, -, hend, hq⟩ := Steps.callFree hM p X.admits X.cas X.clock (acts := []) hfrm happ hPc trivial
  have hend' : Ended s₂ (.java g :: below) o := by
    rw [State.frames_setTop' g h.top, X.tail] at hend
    exact hend
  obtain ⟨w', hP, hXw, hF, L, hW₂, hsm, hL⟩ := hq
  cases o with
  | returned v =>
    obtain ⟨T', X', -, -, ht⟩ := X.outOf hg hdg hend' hW₂ hsm
    have hh : s₂.heap = T'.heap := by rw [ht]; rfl
    exact ⟨T', L, w', X', hL, by rw [← hh]; exact hXw, ⟨by rw [← hh]; exact hF.1, fun q h1 h2 => by rw [← hh]; exact hF.2 q h1 h2⟩, Or.inl ⟨v, hP, by rw [← ht]; exact hsteps⟩⟩
  | threw q =>
    obtain ⟨T', X', -, -, ht⟩ := X.outOfThrown hg hend' hW₂ hsm
    have hh : s₂.heap = T'.heap := by rw [ht]; rfl
    exact ⟨T', L, w', X', hL, by rw [← hh]; exact hXw, ⟨by rw [← hh]; exact hF.1, fun q h1 h2 => by rw [← hh]; exact hF.2 q h1 h2⟩, Or.inr ⟨q, hP, by rw [← ht]; exact hsteps⟩⟩
/-- what the callee's name stands for in the tables -/
def mh_cee (y : MethodName) (cY : ByteArray) (nY : Nat) (rY : Option FieldType) (hsY : List (Nat × Nat × Nat × Nat)) (n : Nat) : Prop :=
  mh_cw y cY nY rY hsY ∈ mh_TB ∧ Cond.initialized y.cls ∈ mh_TB ∧ (y.cls ≠ "java/lang/invoke/MethodHandle" ∧ y.cls ≠ "java/lang/invoke/VarHandle") ∧ (parseMethodDescriptor y.desc).map (fun d => d.parameters.length) = some n
theorem mh_cee_len {y : MethodName} {n : Nat} (h : (parseMethodDescriptor y.desc).map (fun d => d.parameters.length) = some n) : ∀ sig, parseMethodDescriptor y.desc = some sig → n = sig.parameters.length := by
  intro sig hs
  rw [hs] at h
  exact (Option.some.inj h).symm
/-- the way to a callee: by which instruction, which words -/
def mh_lk (own : String) (index : Nat) (y : MethodName) : Prop := Cond.methodLink own index y ∈ mh_TB ∨ ∃ host, Cond.methodLinkNest own index y host ∈ mh_NW
theorem mh_siteS {cc : ByteArray} {own : String} {dC : Nat → ClassId} {dI : Nat → Nat → Nat} {dA : Nat → ClassId} (X : Stand p l e R s m args below meth c T locs cells slots) (K0 : mh_K0 p s m args c own cc dC dI dA) {index : Nat} {y : MethodName} {cY : ByteArray} {nY : Nat} {rY : Option FieldType} {hsY : List (Nat × Nat × Nat × Nat)} {n : Nat} (C0 : mh_cee y cY nY rY hsY n) (hlk : mh_lk own index y) (hst : Cond.static y ∈ mh_TB)
    {g : JFrame} (hg : g.method = m) {argsL rest : List Value} (hn : argsL.length = n) (hstack : g.stack = argsL.reverse ++ rest) (hdg : decode cc g.pc = .ok (.invokestatic index, 3)) :
    ∃ (mk : MethodId) (vm₁ : Vm), Stand p l e R s m args below meth c (T.setVm vm₁) locs cells slots ∧ (T.setVm vm₁).methodNamed? y = some mk ∧
      ∀ target, (∀ acts, Steps p.tables e below (doInvoke e ((T.setVm vm₁).setTop { g with stack := rest }) acts mk argsL.toArray).1 target) → Steps p.tables e below (T.setTop g) target := by
  obtain ⟨hx, hb, hown, hts, hN, hK⟩ := K0
  obtain ⟨hcd, hini, hy, hlen⟩ := C0
  have hlen := mh_cee_len hlen
  obtain ⟨mk, methM, cM, hnamed, hmethM, -, -, -, -, -, -, hsigM⟩ := mh_cd_of (hts _ hcd)
  have hstatic : methM.isStatic = true := Cond.static_spec hnamed hmethM (hts _ hst)
  obtain ⟨kP, hkP, -⟩ := className_of_methodNamed hnamed
  have hinitP : kP.init = .initialized := Cond.initialized_spec (findClass_of_methodNamed hnamed) hkP (hts _ hini)
  have hln : argsL.length = methM.sig.parameters.length := hn.trans (hlen _ hsigM)
  rcases hlk with hlk | ⟨host, hlk⟩
  · obtain ⟨vm₁, X₁, hstep₁⟩ := X.invokestatic hx hown (hts _ hlk) hnamed hmethM hstatic hkP hinitP hy (g := g) hg (argsL := argsL) (rest := rest) hln hstack (by rw [hb]; exact hdg)
    exact ⟨mk, vm₁, X₁, X₁.named hnamed, fun target h => hstep₁ _ h⟩
  · obtain ⟨vm₁, X₁, hstep₁⟩ := X.invokestaticNest hx hown (va_Nw.use rfl (hN _ hlk)) hnamed hmethM hstatic hkP hinitP hy (g := g) hg (argsL := argsL) (rest := rest) hln hstack (by rw [hb]; exact hdg)
    exact ⟨mk, vm₁, X₁, X₁.named hnamed, fun target h => hstep₁ _ h⟩
theorem mh_siteV {cc : ByteArray} {own : String} {dC : Nat → ClassId} {dI : Nat → Nat → Nat} {dA : Nat → ClassId} (X : Stand p l e R s m args below meth c T locs cells slots) (K0 : mh_K0 p s m args c own cc dC dI dA) {index : Nat} {y : MethodName} {cY : ByteArray} {nY : Nat} {rY : Option FieldType} {hsY : List (Nat × Nat × Nat × Nat)} {n : Nat} (C0 : mh_cee y cY nY rY hsY n) (hlk : mh_lk own index y) (hins : Cond.instanceMethod y ∈ mh_TB) {C : String} (hsel : Cond.selects C y y ∈ mh_TB)
    {q : Addr} {cellB : Cell} (hcell : T.heap[q]? = some cellB) (hobj : cellB.vm.isStatics = false) (hcls : s.vm.findClass C = some cellB.cls)
    {g : JFrame} (hg : g.method = m) {argsL rest : List Value} (hn : argsL.length = n) (hstack : g.stack = argsL.reverse ++ .ref q :: rest) (hdg : decode cc g.pc = .ok (.invokevirtual index, 3)) :
    ∃ (mk : MethodId) (vm₁ : Vm), Stand p l e R s m args below meth c (T.setVm vm₁) locs cells slots ∧ (T.setVm vm₁).methodNamed? y = some mk ∧
      ∀ target, (∀ acts, Steps p.tables e below (doInvoke e ((T.setVm vm₁).setTop { g with stack := rest }) acts mk (Value.ref q :: argsL).toArray).1 target) → Steps p.tables e below (T.setTop g) target := by
  obtain ⟨hx, hb, hown, hts, hN, hK⟩ := K0
  obtain ⟨hcd, hini, hy, hlen⟩ := C0
  have hlen := mh_cee_len hlen
  obtain ⟨mk, methM, hnamed, hmethM, hstM, habM⟩ := Cond.instanceMethod_spec (hts _ hins)
  obtain ⟨mk', methM', cM, hnamed', hmethM', -, -, -, -, -, -, hsigM⟩ := mh_cd_of (hts _ hcd)
  cases Option.some.inj (hnamed.symm.trans hnamed')
  cases Option.some.inj (hmethM.symm.trans hmethM')
  obtain ⟨c2, r2, m2, q1, q2, q3, q4, kP, hkP, hkPi⟩ := Cond.selects_spec (hts _ hsel)
  cases hcls.symm.trans q1
  cases (State.methodFound?_of_named hnamed hy).symm.trans q2
  cases hnamed.symm.trans q3
  have hselP : selectMethod e.platform s.vm cellB.cls mk = .method mk := by rw [Launch.admits_selectMethod X.admits]; exact q4
  have hln : argsL.length = methM.sig.parameters.length := hn.trans (hlen _ hsigM)
  rcases hlk with hlk | ⟨host, hlk⟩
  · obtain ⟨vm₁, X₁, hstep₁⟩ := X.invokevirtual hx hown (hts _ hlk) hnamed hmethM hstM hkP hkPi hy (a := q) (cell := cellB) hcell
      (fun z h => by rw [h] at hobj; cases hobj) hselP hmethM habM hkP hkPi (g := g) hg (argsL := argsL) (rest := rest) hln hstack (by rw [hb]; exact hdg)
    exact ⟨mk, vm₁, X₁, X₁.named hnamed, fun target h => hstep₁ _ h⟩
  · obtain ⟨vm₁, X₁, hstep₁⟩ := X.invokevirtualNest hx hown (va_Nw.use rfl (hN _ hlk)) hnamed hmethM hstM hkP hkPi hy (a := q) (cell := cellB) hcell
      (fun z h => by rw [h] at hobj; cases hobj) hselP hmethM habM hkP hkPi (g := g) hg (argsL := argsL) (rest := rest) hln hstack (by rw [hb]; exact hdg)
    exact ⟨mk, vm₁, X₁, X₁.named hnamed, fun target h => hstep₁ _ h⟩
theorem mh_siteI {cc : ByteArray} {own : String} {dC : Nat → ClassId} {dI : Nat → Nat → Nat} {dA : Nat → ClassId} (X : Stand p l e R s m args below meth c T locs cells slots) (K0 : mh_K0 p s m args c own cc dC dI dA) {index : Nat} {y : MethodName} {cY : ByteArray} {nY : Nat} {n : Nat} (C0 : mh_cee y cY nY none [] n) (hlk : mh_lk own index y) (hins : Cond.instanceMethod y ∈ mh_TB) (hy1 : y.name = "<init>")
    {q : Addr} {g : JFrame} (hg : g.method = m) {argsL rest : List Value} (hn : argsL.length = n) (hstack : g.stack = argsL.reverse ++ .ref q :: rest) (hdg : decode cc g.pc = .ok (.invokespecial index, 3)) :
    ∃ (mk : MethodId) (vm₁ : Vm), Stand p l e R s m args below meth c (T.setVm vm₁) locs cells slots ∧ (T.setVm vm₁).methodNamed? y = some mk ∧
      ∀ target, (∀ acts, Steps p.tables e below (doInvoke e ((T.setVm vm₁).setTop { g with stack := rest }) acts mk (Value.ref q :: argsL).toArray).1 target) → Steps p.tables e below (T.setTop g) target := by
  obtain ⟨hx, hb, hown, hts, hN, hK⟩ := K0
  obtain ⟨hcd, hini, hy, hlen⟩ := C0
  have hlen := mh_cee_len hlen
  subst hg
  have hpl : e.platform.magicAccessors = ({} : Platform).magicAccessors := by rw [X.admits.platform]
  have hcode : (Cond.code y cY nY none).before args s = true := hts _ hcd
  rcases hlk with hlk | ⟨host, hlk⟩
  · obtain ⟨mk, methM, cM, kP, vm₁, hnamed, hmethM, hcodeM, -, hlocalsM, -, hkP, -, hW₁, hstep₁⟩ := Steps.initColdArgs (e := e) X.here hx X.warmed hpl hown hy1 hy (hts _ hlk) (hts _ hins) hcode (f := g) rfl (fun sig h => hn.trans (hlen sig h)) hstack (by rw [hb]; exact hdg)
    exact ⟨mk, vm₁, X.noted hW₁, (X.noted hW₁).named hnamed, fun target h => hstep₁ _ h⟩
  · obtain ⟨mk, methM, cM, kP, vm₁, hnamed, hmethM, hcodeM, -, hlocalsM, -, hkP, -, hW₁, hstep₁⟩ := Steps.initColdArgsNest (e := e) X.here hx X.warmed hpl hown hy1 hy (va_Nw.use rfl (hN _ hlk)) (hts _ hins) hcode (f := g) rfl (fun sig h => hn.trans (hlen sig h)) hstack (by rw [hb]; exact hdg)
    exact ⟨mk, vm₁, X.noted hW₁, (X.noted hW₁).named hnamed, fun target h => hstep₁ _ h⟩
end MHC
section MHW
variable {p : Program} {l : Launch} {e : Env} {R : Room} {s : State} {m : MethodId} {args : Array Value} {below : List Frame} {meth : Method} {c : Code} {H : Heap} {locs : List Loc} {cells slots : Nat} {Q : State → Prop}
variable {cc : ByteArray} {pc : Nat} {ls : Array Slot} {rest st0 : List Value} {own : String} {b : Nat} {dC : Nat → ClassId} {dI : Nat → Nat → Nat} {dA : Nat → ClassId} {zs : Nat → Nat} {w w0 : mh_w} {P : Outcome → mh_w → Prop}
def mh_Site (p : Program) (l : Launch) (e : Env) (R : Room) (s : State) (m : MethodId) (args : Array Value) (below : List Frame) (meth : Method) (c : Code) (H : Heap) (locs : List Loc) (cells slots : Nat) (g : JFrame) (rest : List Value) (y : MethodName) (av : List Value) : Prop :=
  ∀ T : State, T.heap = H → Stand p l e R s m args below meth c T locs cells slots → ∃ (mk : MethodId) (vm₁ : Vm), Stand p l e R s m args below meth c (T.setVm vm₁) locs cells slots ∧ (T.setVm vm₁).methodNamed? y = some mk ∧
      ∀ target, (∀ acts, Steps p.tables e below (doInvoke e ((T.setVm vm₁).setTop { g with stack := rest }) acts mk av.toArray).1 target) → Steps p.tables e below (T.setTop g) target
theorem mh_call {y : MethodName} {rm : Room} {av : List Value} (site : mh_Site p l e R s m args below meth c H locs cells slots (F0 m pc ls st0) rest y av) (hM : mh_Met l b dC dI dA zs y rm av w P) (K0 : mh_K0 p s m args c own cc dC dI dA) (hOK : mh_OK b dC dI dA zs w0 s)
    {nL : Nat} (hml : c.maxLocals = nL) (hsz : ls.size = nL) {cY : ByteArray} {nY : Nat} {rY : Option FieldType} {hsY : List (Nat × Nat × Nat × Nat)} {n : Nat} (C0 : mh_cee y cY nY rY hsY n) (hX : mh_P (dC, dI) b w H) (hS : va_S (mh_A b) s.heap H locs) {ig : Instr} (hdg : decode cc pc = .ok (ig, 3))
    (hfr : rm.frames + 1 ≤ R.frames) (hW9 : (rest.map fun v => v.category).sum ≤ 8) (hlo : 8 + (nY + 11) + rm.locals ≤ R.locals) (h4 : cells + rm.cells ≤ R.cells) (h5 : slots + rm.slots ≤ R.slots)
    (kx : ∀ (q : Addr) (w' : mh_w) (H1 : Heap) (locs1 : List Loc), P (.threw q) w' → mh_P (dC, dI) b w' H1 → va_S (mh_A b) s.heap H1 locs1 → mh_X p l e R s m args below meth c H1 locs1 (cells + rm.cells) (slots + rm.slots) Q (F0 m pc ls rest) q)
    (kk : ∀ (v : Option Value) (w' : mh_w) (H1 : Heap) (locs1 : List Loc), P (.returned v) w' → mh_P (dC, dI) b w' H1 → va_S (mh_A b) s.heap H1 locs1 → W p l e R s m args below meth c H1 locs1 (cells + rm.cells) (slots + rm.slots) Q (F0 m (pc + 3) ls (v.toList ++ rest))) :
    W p l e R s m args below meth c H locs cells slots Q (F0 m pc ls st0) := by
  intro T hT X
  obtain ⟨mk, vm₁, X₁, hn, st⟩ := site T hT X
  have hS1 : va_S (mh_A b) s.heap (T.setVm vm₁).heap locs := by rw [show (T.setVm vm₁).heap = T.heap from rfl, hT]; exact hS
  have hX1 : mh_P (dC, dI) b w (T.setVm vm₁).heap := by rw [show (T.setVm vm₁).heap = T.heap from rfl, hT]; exact hX
  obtain ⟨T', L, w', X', hL, hXw, hF, hor⟩ := mh_inv hM X₁ K0.2.2.2.1 C0.1 C0.2.1 (g := { F0 m pc ls st0 with stack := rest }) rfl (by show ls.size = _; rw [hsz, hml]) (ig := ig) (len := 3) (by rw [K0.2.1]; exact hdg) hn hfr (W9 := 8) (by show 2 * 0 + (rest.map fun v => v.category).sum ≤ 8; omega) hlo h4 h5 (mh_OK_at hOK X₁.warmed hS1 hX1)
  have hS' : va_S (mh_A b) s.heap T'.heap (locs ++ L) := by
    have hz : H.size ≤ T'.heap.size := by have := hF.1; rw [show (T.setVm vm₁).heap = T.heap from rfl, hT] at this; exact this
    refine ⟨Nat.le_trans hS.1 hz, fun q h1 h2 => ?_, fun q hq => ?_⟩
    · have := hF.2 q (by rw [show (T.setVm vm₁).heap = T.heap from rfl, hT]; exact Nat.lt_of_lt_of_le h1 hS.1) h2
      rw [this, show (T.setVm vm₁).heap = T.heap from rfl, hT]
      exact hS.2.1 q h1 h2
    · rcases List.mem_append.mp hq with h | h
      · exact hS.2.2 q h
      · exact hL q h
  rcases hor with ⟨v, hP, hst⟩ | ⟨q, hP, hst⟩
  · obtain ⟨t2, a1, b1⟩ := kk v w' T'.heap (locs ++ L) hP hXw hS' T' rfl X'
    exact ⟨t2, st _ (fun acts => by rw [doInvoke_state]; exact hst.trans a1), b1⟩
  · obtain ⟨t2, a1, b1⟩ := kx q w' T'.heap (locs ++ L) hP hXw hS' T' rfl X'
    exact ⟨t2, st _ (fun acts => by rw [doInvoke_state]; exact hst.trans a1), b1⟩
theorem mh_sS (K0 : mh_K0 p s m args c own cc dC dI dA) {index : Nat} {y : MethodName} {cY : ByteArray} {nY : Nat} {rY : Option FieldType} {hsY : List (Nat × Nat × Nat × Nat)} {n : Nat} (C0 : mh_cee y cY nY rY hsY n) (hlk : mh_lk own index y) (hst : Cond.static y ∈ mh_TB) {av : List Value} (hn : av.length = n) (hstack : st0 = av.reverse ++ rest) (hdg : decode cc pc = .ok (.invokestatic index, 3)) :
    mh_Site p l e R s m args below meth c H locs cells slots (F0 m pc ls st0) rest y av := fun T hT X => mh_siteS X K0 C0 hlk hst (g := F0 m pc ls st0) rfl hn hstack hdg
theorem mh_sV (K0 : mh_K0 p s m args c own cc dC dI dA) (hX : mh_P (dC, dI) b w H) {k i q ci : Nat} {fs : List Value} {vc : vw_C} (h : w k i = some (q, .inr (ci, fs))) (hc : classes[ci]? = some vc) {index : Nat} {y : MethodName} {cY : ByteArray} {nY : Nat} {rY : Option FieldType} {hsY : List (Nat × Nat × Nat × Nat)} {n : Nat} (C0 : mh_cee y cY nY rY hsY n) (hlk : mh_lk own index y) (hins : Cond.instanceMethod y ∈ mh_TB) (hsel : Cond.selects vc.1 y y ∈ mh_TB) {av : List Value} (hn : av.length = n) (hstack : st0 = av.reverse ++ .ref q :: rest) (hdg : decode cc pc = .ok (.invokevirtual index, 3)) :
    mh_Site p l e R s m args below meth c H locs cells slots (F0 m pc ls st0) rest y (.ref q :: av) := fun T hT X => by
  obtain ⟨cell, h1, h2, h3⟩ := va_recv (K0.2.2.2.2.2) (hX.get h) hc (q0 := 0) rfl
  exact mh_siteV X K0 C0 hlk hins hsel (by rw [hT]; exact h1) h2 h3 (g := F0 m pc ls st0) rfl hn hstack hdg
theorem mh_sI (K0 : mh_K0 p s m args c own cc dC dI dA) {index q : Nat} {y : MethodName} {cY : ByteArray} {nY : Nat} {n : Nat} (C0 : mh_cee y cY nY none [] n) (hlk : mh_lk own index y) (hins : Cond.instanceMethod y ∈ mh_TB) (hy1 : y.name = "<init>") {av : List Value} (hn : av.length = n) (hstack : st0 = av.reverse ++ .ref q :: rest) (hdg : decode cc pc = .ok (.invokespecial index, 3)) :
    mh_Site p l e R s m args below meth c H locs cells slots (F0 m pc ls st0) rest y (.ref q :: av) := fun T hT X => mh_siteI X K0 C0 hlk hins hy1 (g := F0 m pc ls st0) rfl hn hstack hdg
end MHW
end
section
/-! fields, methods, classes as the instructions name them -/
theorem f_AL_9 : mh_fl "java/util/ArrayList" 9 5 1 := ⟨_, _, _, "java/util/ArrayList", rfl, by decide, i_AL, Or.inl k47, Or.inl rfl⟩
theorem f_AL_48 : mh_fl "java/util/ArrayList" 48 5 2 := ⟨_, _, _, "java/util/ArrayList", rfl, by decide, i_AL, Or.inl k48, Or.inl rfl⟩
theorem f_AL_63 : mh_fl "java/util/ArrayList" 63 5 0 := ⟨_, _, _, "java/util/ArrayList", rfl, by decide, i_AL, Or.inl k50, Or.inr k51⟩
theorem f_KS_11 : mh_fl "MeldHost$KeySet" 11 0 0 := ⟨_, _, _, "MeldHost$KeySet", rfl, by decide, i_KS, Or.inl k78, Or.inl rfl⟩
theorem f_NU_12 : mh_fl "MeldHost$Numbers" 12 1 0 := ⟨_, _, _, "MeldHost$Numbers", rfl, by decide, i_NU, Or.inl k83, Or.inl rfl⟩
theorem f_MH_174 : mh_fl "MeldHost" 174 1 0 := ⟨_, _, _, "MeldHost$Numbers", rfl, by decide, i_NU, Or.inr ⟨_, k84⟩, Or.inl rfl⟩
theorem f_NU_18 : mh_fl "MeldHost$Numbers" 18 1 1 := ⟨_, _, _, "MeldHost$Numbers", rfl, by decide, i_NU, Or.inl k85, Or.inl rfl⟩
theorem f_MH_189 : mh_fl "MeldHost" 189 1 1 := ⟨_, _, _, "MeldHost$Numbers", rfl, by decide, i_NU, Or.inr ⟨_, k86⟩, Or.inl rfl⟩
theorem f_SV_12 : mh_fl "MeldHost$Server" 12 3 0 := ⟨_, _, _, "MeldHost$Server", rfl, by decide, i_SV, Or.inl k95, Or.inl rfl⟩
theorem f_MH_57 : mh_fl "MeldHost" 57 3 0 := ⟨_, _, _, "MeldHost$Server", rfl, by decide, i_SV, Or.inr ⟨_, k96⟩, Or.inl rfl⟩
theorem f_SV_18 : mh_fl "MeldHost$Server" 18 3 1 := ⟨_, _, _, "MeldHost$Server", rfl, by decide, i_SV, Or.inl k97, Or.inl rfl⟩
theorem f_MH_161 : mh_fl "MeldHost" 161 3 1 := ⟨_, _, _, "MeldHost$Server", rfl, by decide, i_SV, Or.inr ⟨_, k98⟩, Or.inl rfl⟩
theorem f_SV_38 : mh_fl "MeldHost$Server" 38 3 2 := ⟨_, _, _, "MeldHost$Server", rfl, by decide, i_SV, Or.inl k99, Or.inl rfl⟩
theorem f_MH_51 : mh_fl "MeldHost" 51 3 2 := ⟨_, _, _, "MeldHost$Server", rfl, by decide, i_SV, Or.inr ⟨_, k100⟩, Or.inl rfl⟩
theorem f_SV_45 : mh_fl "MeldHost$Server" 45 3 3 := ⟨_, _, _, "MeldHost$Server", rfl, by decide, i_SV, Or.inl k101, Or.inl rfl⟩
theorem f_MH_158 : mh_fl "MeldHost" 158 3 3 := ⟨_, _, _, "MeldHost$Server", rfl, by decide, i_SV, Or.inr ⟨_, k102⟩, Or.inl rfl⟩
theorem f_MH_10 : mh_fl "MeldHost" 10 4 0 := ⟨_, _, _, "MeldHost", rfl, by decide, i_MH, Or.inl k118, Or.inl rfl⟩
theorem f_MH_18 : mh_fl "MeldHost" 18 4 1 := ⟨_, _, _, "MeldHost", rfl, by decide, i_MH, Or.inl k119, Or.inl rfl⟩
theorem f_MH_25 : mh_fl "MeldHost" 25 4 2 := ⟨_, _, _, "MeldHost", rfl, by decide, i_MH, Or.inl k120, Or.inl rfl⟩
theorem f_MH_31 : mh_fl "MeldHost" 31 4 3 := ⟨_, _, _, "MeldHost", rfl, by decide, i_MH, Or.inl k121, Or.inl rfl⟩
theorem f_MH_36 : mh_fl "MeldHost" 36 4 4 := ⟨_, _, _, "MeldHost", rfl, by decide, i_MH, Or.inl k122, Or.inl rfl⟩
theorem f_IN_36 : mh_fl "MeldHost$Intention" 36 2 0 := ⟨_, _, _, "MeldHost$Intention", rfl, by decide, i_IN, Or.inl k238, Or.inl rfl⟩
theorem f_MH_146 : mh_fl "MeldHost" 146 2 0 := ⟨_, _, _, "MeldHost$Intention", rfl, by decide, i_IN, Or.inr ⟨_, k239⟩, Or.inl rfl⟩
theorem f_IN_40 : mh_fl "MeldHost$Intention" 40 2 1 := ⟨_, _, _, "MeldHost$Intention", rfl, by decide, i_IN, Or.inl k240, Or.inl rfl⟩
theorem f_MH_201 : mh_fl "MeldHost" 201 2 1 := ⟨_, _, _, "MeldHost$Intention", rfl, by decide, i_IN, Or.inr ⟨_, k241⟩, Or.inl rfl⟩
theorem f_IN_43 : mh_fl "MeldHost$Intention" 43 2 2 := ⟨_, _, _, "MeldHost$Intention", rfl, by decide, i_IN, Or.inl k242, Or.inl rfl⟩
theorem f_IN_12 : mh_fl "MeldHost$Intention" 12 2 3 := ⟨_, _, _, "MeldHost$Intention", rfl, by decide, i_IN, Or.inl k243, Or.inl rfl⟩
theorem f_IN_18 : mh_fl "MeldHost$Intention" 18 2 4 := ⟨_, _, _, "MeldHost$Intention", rfl, by decide, i_IN, Or.inl k244, Or.inl rfl⟩
theorem f_IN_22 : mh_fl "MeldHost$Intention" 22 2 5 := ⟨_, _, _, "MeldHost$Intention", rfl, by decide, i_IN, Or.inl k245, Or.inl rfl⟩
theorem f_IN_25 : mh_fl "MeldHost$Intention" 25 2 6 := ⟨_, _, _, "MeldHost$Intention", rfl, by decide, i_IN, Or.inl k246, Or.inl rfl⟩
theorem f_IN_28 : mh_fl "MeldHost$Intention" 28 2 7 := ⟨_, _, _, "MeldHost$Intention", rfl, by decide, i_IN, Or.inl k247, Or.inl rfl⟩
theorem f_IN_32 : mh_fl "MeldHost$Intention" 32 2 8 := ⟨_, _, _, "MeldHost$Intention", rfl, by decide, i_IN, Or.inl k248, Or.inl rfl⟩
theorem f_IN_54 : mh_fl "MeldHost$Intention" 54 2 9 := ⟨_, _, _, "MeldHost$Intention", rfl, by decide, i_IN, Or.inl k249, Or.inl rfl⟩
theorem f_MH_91 : mh_fl "MeldHost" 91 2 9 := ⟨_, _, _, "MeldHost$Intention", rfl, by decide, i_IN, Or.inr ⟨_, k250⟩, Or.inl rfl⟩
theorem f_IN_61 : mh_fl "MeldHost$Intention" 61 2 10 := ⟨_, _, _, "MeldHost$Intention", rfl, by decide, i_IN, Or.inl k251, Or.inl rfl⟩
theorem f_MH_106 : mh_fl "MeldHost" 106 2 10 := ⟨_, _, _, "MeldHost$Intention", rfl, by decide, i_IN, Or.inr ⟨_, k252⟩, Or.inl rfl⟩
theorem f_SV_28 : mh_fl "MeldHost$Server" 28 2 11 := ⟨_, _, _, "MeldHost$Intention", rfl, by decide, i_IN, Or.inr ⟨_, k253⟩, Or.inl rfl⟩
theorem f_MH_119 : mh_fl "MeldHost" 119 2 11 := ⟨_, _, _, "MeldHost$Intention", rfl, by decide, i_IN, Or.inr ⟨_, k254⟩, Or.inl rfl⟩
theorem f_MM_72 : mh_fl "MeldHostModel" 72 6 0 := ⟨_, _, _, "MeldHostModel$Work", rfl, by decide, i_WK, Or.inl k657, Or.inl rfl⟩
theorem f_MM_69 : mh_fl "MeldHostModel" 69 6 1 := ⟨_, _, _, "MeldHostModel$Work", rfl, by decide, i_WK, Or.inl k658, Or.inl rfl⟩
theorem f_MM_66 : mh_fl "MeldHostModel" 66 6 2 := ⟨_, _, _, "MeldHostModel$Work", rfl, by decide, i_WK, Or.inl k659, Or.inl rfl⟩
theorem f_WK_32 : mh_fl "MeldHostModel$Work" 32 6 3 := ⟨_, _, _, "MeldHostModel$Work", rfl, by decide, i_WK, Or.inl k660, Or.inl rfl⟩
theorem f_MM_100 : mh_fl "MeldHostModel" 100 6 3 := ⟨_, _, _, "MeldHostModel$Work", rfl, by decide, i_WK, Or.inl k661, Or.inl rfl⟩
theorem f_WK_36 : mh_fl "MeldHostModel$Work" 36 6 4 := ⟨_, _, _, "MeldHostModel$Work", rfl, by decide, i_WK, Or.inl k662, Or.inl rfl⟩
theorem f_MM_43 : mh_fl "MeldHostModel" 43 6 4 := ⟨_, _, _, "MeldHostModel$Work", rfl, by decide, i_WK, Or.inl k663, Or.inl rfl⟩
theorem f_WK_39 : mh_fl "MeldHostModel$Work" 39 6 5 := ⟨_, _, _, "MeldHostModel$Work", rfl, by decide, i_WK, Or.inl k664, Or.inl rfl⟩
theorem f_MM_85 : mh_fl "MeldHostModel" 85 6 5 := ⟨_, _, _, "MeldHostModel$Work", rfl, by decide, i_WK, Or.inl k665, Or.inl rfl⟩
theorem f_MM_61 : mh_fl "MeldHostModel" 61 6 6 := ⟨_, _, _, "MeldHostModel$Work", rfl, by decide, i_WK, Or.inl k666, Or.inl rfl⟩
theorem f_WK_42 : mh_fl "MeldHostModel$Work" 42 6 7 := ⟨_, _, _, "MeldHostModel$Work", rfl, by decide, i_WK, Or.inl k667, Or.inl rfl⟩
theorem f_MM_35 : mh_fl "MeldHostModel" 35 6 7 := ⟨_, _, _, "MeldHostModel$Work", rfl, by decide, i_WK, Or.inl k668, Or.inl rfl⟩
theorem f_WK_9 : mh_fl "MeldHostModel$Work" 9 6 8 := ⟨_, _, _, "MeldHostModel$Work", rfl, by decide, i_WK, Or.inl k669, Or.inl rfl⟩
theorem f_MM_82 : mh_fl "MeldHostModel" 82 6 8 := ⟨_, _, _, "MeldHostModel$Work", rfl, by decide, i_WK, Or.inl k670, Or.inl rfl⟩
theorem f_WK_15 : mh_fl "MeldHostModel$Work" 15 6 9 := ⟨_, _, _, "MeldHostModel$Work", rfl, by decide, i_WK, Or.inl k671, Or.inl rfl⟩
theorem f_MM_103 : mh_fl "MeldHostModel" 103 6 9 := ⟨_, _, _, "MeldHostModel$Work", rfl, by decide, i_WK, Or.inl k672, Or.inl rfl⟩
theorem f_WK_19 : mh_fl "MeldHostModel$Work" 19 6 10 := ⟨_, _, _, "MeldHostModel$Work", rfl, by decide, i_WK, Or.inl k673, Or.inl rfl⟩
theorem f_MM_106 : mh_fl "MeldHostModel" 106 6 10 := ⟨_, _, _, "MeldHostModel$Work", rfl, by decide, i_WK, Or.inl k674, Or.inl rfl⟩
theorem f_WK_22 : mh_fl "MeldHostModel$Work" 22 6 11 := ⟨_, _, _, "MeldHostModel$Work", rfl, by decide, i_WK, Or.inl k675, Or.inl rfl⟩
theorem f_MM_46 : mh_fl "MeldHostModel" 46 6 11 := ⟨_, _, _, "MeldHostModel$Work", rfl, by decide, i_WK, Or.inl k676, Or.inl rfl⟩
theorem f_WK_25 : mh_fl "MeldHostModel$Work" 25 6 12 := ⟨_, _, _, "MeldHostModel$Work", rfl, by decide, i_WK, Or.inl k677, Or.inl rfl⟩
theorem f_MM_49 : mh_fl "MeldHostModel" 49 6 12 := ⟨_, _, _, "MeldHostModel$Work", rfl, by decide, i_WK, Or.inl k678, Or.inl rfl⟩
theorem f_WK_29 : mh_fl "MeldHostModel$Work" 29 6 13 := ⟨_, _, _, "MeldHostModel$Work", rfl, by decide, i_WK, Or.inl k679, Or.inl rfl⟩
theorem f_MM_50 : mh_fl "MeldHostModel" 50 6 13 := ⟨_, _, _, "MeldHostModel$Work", rfl, by decide, i_WK, Or.inl k680, Or.inl rfl⟩
theorem f_MM_31 : mh_fl "MeldHostModel" 31 7 0 := ⟨_, _, _, "MeldHostModel", rfl, by decide, i_MM, Or.inl k710, Or.inl rfl⟩
theorem f_MM_11 : mh_fl "MeldHostModel" 11 7 1 := ⟨_, _, _, "MeldHostModel", rfl, by decide, i_MM, Or.inl k711, Or.inl rfl⟩
theorem f_MM_15 : mh_fl "MeldHostModel" 15 7 2 := ⟨_, _, _, "MeldHostModel", rfl, by decide, i_MM, Or.inl k712, Or.inl rfl⟩
theorem f_MM_18 : mh_fl "MeldHostModel" 18 7 3 := ⟨_, _, _, "MeldHostModel", rfl, by decide, i_MM, Or.inl k713, Or.inl rfl⟩
theorem f_MM_22 : mh_fl "MeldHostModel" 22 7 4 := ⟨_, _, _, "MeldHostModel", rfl, by decide, i_MM, Or.inl k714, Or.inl rfl⟩
theorem f_MM_26 : mh_fl "MeldHostModel" 26 7 5 := ⟨_, _, _, "MeldHostModel", rfl, by decide, i_MM, Or.inl k715, Or.inl rfl⟩
theorem f_MM_113 : mh_fl "MeldHostModel" 113 7 6 := ⟨_, _, _, "MeldHostModel", rfl, by decide, i_MM, Or.inl k716, Or.inl rfl⟩
theorem f_MM_125 : mh_fl "MeldHostModel" 125 7 7 := ⟨_, _, _, "MeldHostModel", rfl, by decide, i_MM, Or.inl k717, Or.inl rfl⟩
theorem p_0_0 : mh_fp 0 0 true (.array .long) := ⟨_, _, _, ty_KS, rfl, ty_KS_ok, n_KS, rfl, by decide +kernel⟩
theorem p_1_0 : mh_fp 1 0 true (.object "MeldHost$KeySet") := ⟨_, _, _, ty_NU, rfl, ty_NU_ok, n_NU, rfl, by decide +kernel⟩
theorem p_1_1 : mh_fp 1 1 true (.array .long) := ⟨_, _, _, ty_NU, rfl, ty_NU_ok, n_NU, rfl, by decide +kernel⟩
theorem p_2_0 : mh_fp 2 0 true (.int) := ⟨_, _, _, ty_IN, rfl, ty_IN_ok, n_IN, rfl, by decide +kernel⟩
theorem p_2_1 : mh_fp 2 1 true (.int) := ⟨_, _, _, ty_IN, rfl, ty_IN_ok, n_IN, rfl, by decide +kernel⟩
theorem p_2_2 : mh_fp 2 2 true (.int) := ⟨_, _, _, ty_IN, rfl, ty_IN_ok, n_IN, rfl, by decide +kernel⟩
theorem p_2_3 : mh_fp 2 3 true (.object "MeldHost$KeySet") := ⟨_, _, _, ty_IN, rfl, ty_IN_ok, n_IN, rfl, by decide +kernel⟩
theorem p_2_4 : mh_fp 2 4 true (.array .int) := ⟨_, _, _, ty_IN, rfl, ty_IN_ok, n_IN, rfl, by decide +kernel⟩
theorem p_2_5 : mh_fp 2 5 true (.array .int) := ⟨_, _, _, ty_IN, rfl, ty_IN_ok, n_IN, rfl, by decide +kernel⟩
theorem p_2_6 : mh_fp 2 6 true (.array .int) := ⟨_, _, _, ty_IN, rfl, ty_IN_ok, n_IN, rfl, by decide +kernel⟩
theorem p_2_7 : mh_fp 2 7 true (.array .boolean) := ⟨_, _, _, ty_IN, rfl, ty_IN_ok, n_IN, rfl, by decide +kernel⟩
theorem p_2_8 : mh_fp 2 8 true (.array .long) := ⟨_, _, _, ty_IN, rfl, ty_IN_ok, n_IN, rfl, by decide +kernel⟩
theorem p_2_9 : mh_fp 2 9 false (.int) := ⟨_, _, _, ty_IN, rfl, ty_IN_ok, n_IN, rfl, by decide +kernel⟩
theorem p_2_10 : mh_fp 2 10 false (.int) := ⟨_, _, _, ty_IN, rfl, ty_IN_ok, n_IN, rfl, by decide +kernel⟩
theorem p_2_11 : mh_fp 2 11 false (.boolean) := ⟨_, _, _, ty_IN, rfl, ty_IN_ok, n_IN, rfl, by decide +kernel⟩
theorem p_3_0 : mh_fp 3 0 true (.object "MeldHost$Numbers") := ⟨_, _, _, ty_SV, rfl, ty_SV_ok, n_SV, rfl, by decide +kernel⟩
theorem p_3_1 : mh_fp 3 1 true (.array .int) := ⟨_, _, _, ty_SV, rfl, ty_SV_ok, n_SV, rfl, by decide +kernel⟩
theorem p_3_2 : mh_fp 3 2 false (.int) := ⟨_, _, _, ty_SV, rfl, ty_SV_ok, n_SV, rfl, by decide +kernel⟩
theorem p_3_3 : mh_fp 3 3 false (.int) := ⟨_, _, _, ty_SV, rfl, ty_SV_ok, n_SV, rfl, by decide +kernel⟩
theorem p_4_0 : mh_fp 4 0 true (.object "java/util/ArrayList") := ⟨_, _, _, ty_MH, rfl, ty_MH_ok, n_MH, rfl, by decide +kernel⟩
theorem p_4_1 : mh_fp 4 1 true (.array (.object "MeldHost$Server")) := ⟨_, _, _, ty_MH, rfl, ty_MH_ok, n_MH, rfl, by decide +kernel⟩
theorem p_4_2 : mh_fp 4 2 true (.array (.object "MeldHost$Intention")) := ⟨_, _, _, ty_MH, rfl, ty_MH_ok, n_MH, rfl, by decide +kernel⟩
theorem p_4_3 : mh_fp 4 3 true (.array (.object "MeldHost$Numbers")) := ⟨_, _, _, ty_MH, rfl, ty_MH_ok, n_MH, rfl, by decide +kernel⟩
theorem p_4_4 : mh_fp 4 4 false (.int) := ⟨_, _, _, ty_MH, rfl, ty_MH_ok, n_MH, rfl, by decide +kernel⟩
theorem p_5_0 : mh_fp 5 0 false (.int) := ⟨_, _, _, ty_AL, rfl, ty_AL_ok, n_AL, rfl, by decide +kernel⟩
theorem p_5_1 : mh_fp 5 1 false (.array (.object "java/lang/Object")) := ⟨_, _, _, ty_AL, rfl, ty_AL_ok, n_AL, rfl, by decide +kernel⟩
theorem p_5_2 : mh_fp 5 2 false (.int) := ⟨_, _, _, ty_AL, rfl, ty_AL_ok, n_AL, rfl, by decide +kernel⟩
theorem p_6_0 : mh_fp 6 0 false (.int) := ⟨_, _, _, ty_WK, rfl, ty_WK_ok, n_WK, rfl, by decide +kernel⟩
theorem p_6_1 : mh_fp 6 1 false (.int) := ⟨_, _, _, ty_WK, rfl, ty_WK_ok, n_WK, rfl, by decide +kernel⟩
theorem p_6_2 : mh_fp 6 2 false (.int) := ⟨_, _, _, ty_WK, rfl, ty_WK_ok, n_WK, rfl, by decide +kernel⟩
theorem p_6_3 : mh_fp 6 3 false (.int) := ⟨_, _, _, ty_WK, rfl, ty_WK_ok, n_WK, rfl, by decide +kernel⟩
theorem p_6_4 : mh_fp 6 4 false (.int) := ⟨_, _, _, ty_WK, rfl, ty_WK_ok, n_WK, rfl, by decide +kernel⟩
theorem p_6_5 : mh_fp 6 5 false (.int) := ⟨_, _, _, ty_WK, rfl, ty_WK_ok, n_WK, rfl, by decide +kernel⟩
theorem p_6_6 : mh_fp 6 6 false (.boolean) := ⟨_, _, _, ty_WK, rfl, ty_WK_ok, n_WK, rfl, by decide +kernel⟩
theorem p_6_7 : mh_fp 6 7 false (.boolean) := ⟨_, _, _, ty_WK, rfl, ty_WK_ok, n_WK, rfl, by decide +kernel⟩
theorem p_6_8 : mh_fp 6 8 true (.array .boolean) := ⟨_, _, _, ty_WK, rfl, ty_WK_ok, n_WK, rfl, by decide +kernel⟩
theorem p_6_9 : mh_fp 6 9 true (.array .int) := ⟨_, _, _, ty_WK, rfl, ty_WK_ok, n_WK, rfl, by decide +kernel⟩
theorem p_6_10 : mh_fp 6 10 true (.array .int) := ⟨_, _, _, ty_WK, rfl, ty_WK_ok, n_WK, rfl, by decide +kernel⟩
theorem p_6_11 : mh_fp 6 11 true (.array .int) := ⟨_, _, _, ty_WK, rfl, ty_WK_ok, n_WK, rfl, by decide +kernel⟩
theorem p_6_12 : mh_fp 6 12 true (.array .long) := ⟨_, _, _, ty_WK, rfl, ty_WK_ok, n_WK, rfl, by decide +kernel⟩
theorem p_6_13 : mh_fp 6 13 true (.array .boolean) := ⟨_, _, _, ty_WK, rfl, ty_WK_ok, n_WK, rfl, by decide +kernel⟩
theorem p_7_0 : mh_fp 7 0 false (.int) := ⟨_, _, _, ty_MM, rfl, ty_MM_ok, n_MM, rfl, by decide +kernel⟩
theorem p_7_1 : mh_fp 7 1 true (.array (.object "MeldHostModel$Work")) := ⟨_, _, _, ty_MM, rfl, ty_MM_ok, n_MM, rfl, by decide +kernel⟩
theorem p_7_2 : mh_fp 7 2 true (.array (.object "MeldHostModel$Work")) := ⟨_, _, _, ty_MM, rfl, ty_MM_ok, n_MM, rfl, by decide +kernel⟩
theorem p_7_3 : mh_fp 7 3 true (.array .int) := ⟨_, _, _, ty_MM, rfl, ty_MM_ok, n_MM, rfl, by decide +kernel⟩
theorem p_7_4 : mh_fp 7 4 true (.array .long) := ⟨_, _, _, ty_MM, rfl, ty_MM_ok, n_MM, rfl, by decide +kernel⟩
theorem p_7_5 : mh_fp 7 5 true (.array .boolean) := ⟨_, _, _, ty_MM, rfl, ty_MM_ok, n_MM, rfl, by decide +kernel⟩
theorem p_7_6 : mh_fp 7 6 false (.int) := ⟨_, _, _, ty_MM, rfl, ty_MM_ok, n_MM, rfl, by decide +kernel⟩
theorem p_7_7 : mh_fp 7 7 false (.int) := ⟨_, _, _, ty_MM, rfl, ty_MM_ok, n_MM, rfl, by decide +kernel⟩
theorem e_MH_init : mh_cee y_MH_init b_MH_init 2 none [] 0 := ⟨k29, k1, ⟨by decide, by decide⟩, by decide +kernel⟩
theorem e_AL_init : mh_cee y_AL_init b_AL_init 1 none [] 0 := ⟨k37, k4, ⟨by decide, by decide⟩, by decide +kernel⟩
theorem e_AB_init : mh_cee y_AB_init b_AB_init 1 none [] 0 := ⟨k40, k3, ⟨by decide, by decide⟩, by decide +kernel⟩
theorem e_AC_init : mh_cee y_AC_init b_AC_init 1 none [] 0 := ⟨k43, k2, ⟨by decide, by decide⟩, by decide +kernel⟩
theorem e_SV_init : mh_cee y_SV_init b_SV_init 1 none [] 0 := ⟨k64, k5, ⟨by decide, by decide⟩, by decide +kernel⟩
theorem e_NU_init : mh_cee y_NU_init b_NU_init 1 none [] 0 := ⟨k70, k6, ⟨by decide, by decide⟩, by decide +kernel⟩
theorem e_KS_init : mh_cee y_KS_init b_KS_init 1 none [] 0 := ⟨k76, k7, ⟨by decide, by decide⟩, by decide +kernel⟩
theorem e_AR_fillI : mh_cee y_AR_fillI b_AR_fillI 4 none [] 2 := ⟨k94, k8, ⟨by decide, by decide⟩, by decide +kernel⟩
theorem e_LW_begin : mh_cee y_LW_begin b_LW_begin 5 (some .int) [(0, 7, 10, 13), (0, 7, 14, 15)] 4 := ⟨k136, k0, ⟨by decide, by decide⟩, by decide +kernel⟩
theorem e_MH_begin : mh_cee y_MH_begin b_MH_begin 5 none [] 3 := ⟨k142, k1, ⟨by decide, by decide⟩, by decide +kernel⟩
theorem e_MH_needBelow : mh_cee y_MH_needBelow b_MH_needBelow 2 none [] 2 := ⟨k145, k1, ⟨by decide, by decide⟩, by decide +kernel⟩
theorem e_IN_init : mh_cee y_IN_init b_IN_init 4 none [] 3 := ⟨k234, k16, ⟨by decide, by decide⟩, by decide +kernel⟩
theorem e_NU_copyFrom : mh_cee y_NU_copyFrom b_NU_copyFrom 2 none [] 1 := ⟨k284, k6, ⟨by decide, by decide⟩, by decide +kernel⟩
theorem e_KS_copyFrom : mh_cee y_KS_copyFrom b_KS_copyFrom 2 none [] 1 := ⟨k288, k7, ⟨by decide, by decide⟩, by decide +kernel⟩
theorem e_LW_get : mh_cee y_LW_get b_LW_get 5 (some .int) [(0, 9, 12, 13), (0, 9, 16, 15), (0, 9, 20, 21)] 4 := ⟨k295, k0, ⟨by decide, by decide⟩, by decide +kernel⟩
theorem e_MH_get : mh_cee y_MH_get b_MH_get 3 (some .long) [] 2 := ⟨k300, k1, ⟨by decide, by decide⟩, by decide +kernel⟩
theorem e_MH_openDraft : mh_cee y_MH_openDraft b_MH_openDraft 3 (some (.object "MeldHost$Intention")) [] 1 := ⟨k304, k1, ⟨by decide, by decide⟩, by decide +kernel⟩
theorem e_IN_readKey : mh_cee y_IN_readKey b_IN_readKey 2 none [] 1 := ⟨k309, k16, ⟨by decide, by decide⟩, by decide +kernel⟩
theorem e_IN_hasWritten : mh_cee y_IN_hasWritten b_IN_hasWritten 2 (some .boolean) [] 1 := ⟨k313, k16, ⟨by decide, by decide⟩, by decide +kernel⟩
theorem e_IN_placeOf : mh_cee y_IN_placeOf b_IN_placeOf 3 (some .int) [] 1 := ⟨k317, k16, ⟨by decide, by decide⟩, by decide +kernel⟩
theorem e_KS_add : mh_cee y_KS_add b_KS_add 2 none [] 1 := ⟨k321, k7, ⟨by decide, by decide⟩, by decide +kernel⟩
theorem e_MH_numberIn : mh_cee y_MH_numberIn b_MH_numberIn 2 (some .long) [] 2 := ⟨k324, k1, ⟨by decide, by decide⟩, by decide +kernel⟩
theorem e_KS_has : mh_cee y_KS_has b_KS_has 2 (some .boolean) [] 1 := ⟨k328, k7, ⟨by decide, by decide⟩, by decide +kernel⟩
theorem e_LW_put : mh_cee y_LW_put b_LW_put 7 (some .int) [(0, 12, 15, 13), (0, 12, 19, 15), (0, 12, 23, 27)] 5 := ⟨k347, k0, ⟨by decide, by decide⟩, by decide +kernel⟩
theorem e_MH_put : mh_cee y_MH_put b_MH_put 6 (some .int) [] 3 := ⟨k352, k1, ⟨by decide, by decide⟩, by decide +kernel⟩
theorem e_MH_writeKey : mh_cee y_MH_writeKey b_MH_writeKey 5 (some .int) [] 4 := ⟨k355, k1, ⟨by decide, by decide⟩, by decide +kernel⟩
theorem e_IN_hasRoomFor : mh_cee y_IN_hasRoomFor b_IN_hasRoomFor 2 (some .boolean) [] 1 := ⟨k359, k16, ⟨by decide, by decide⟩, by decide +kernel⟩
theorem e_IN_write : mh_cee y_IN_write b_IN_write 6 none [] 3 := ⟨k379, k16, ⟨by decide, by decide⟩, by decide +kernel⟩
theorem e_MA_max : mh_cee y_MA_max b_MA_max 2 (some .int) [] 2 := ⟨k382, k20, ⟨by decide, by decide⟩, by decide +kernel⟩
theorem e_NU_give : mh_cee y_NU_give b_NU_give 4 none [] 2 := ⟨k386, k6, ⟨by decide, by decide⟩, by decide +kernel⟩
theorem e_LW_delete : mh_cee y_LW_delete b_LW_delete 5 (some .int) [(0, 10, 13, 13), (0, 10, 17, 15), (0, 10, 21, 27)] 4 := ⟨k390, k0, ⟨by decide, by decide⟩, by decide +kernel⟩
theorem e_MH_delete : mh_cee y_MH_delete b_MH_delete 4 (some .int) [] 2 := ⟨k394, k1, ⟨by decide, by decide⟩, by decide +kernel⟩
theorem e_NU_take : mh_cee y_NU_take b_NU_take 2 none [] 1 := ⟨k398, k6, ⟨by decide, by decide⟩, by decide +kernel⟩
theorem e_KS_drop : mh_cee y_KS_drop b_KS_drop 2 none [] 1 := ⟨k402, k7, ⟨by decide, by decide⟩, by decide +kernel⟩
theorem e_LW_part : mh_cee y_LW_part b_LW_part 7 (some .int) [(0, 13, 16, 13), (0, 13, 20, 15), (0, 13, 24, 27)] 6 := ⟨k406, k0, ⟨by decide, by decide⟩, by decide +kernel⟩
theorem e_MH_part : mh_cee y_MH_part b_MH_part 6 (some .long) [] 4 := ⟨k410, k1, ⟨by decide, by decide⟩, by decide +kernel⟩
theorem e_MH_needPart : mh_cee y_MH_needPart b_MH_needPart 3 none [] 3 := ⟨k413, k1, ⟨by decide, by decide⟩, by decide +kernel⟩
theorem e_IN_readPart : mh_cee y_IN_readPart b_IN_readPart 3 none [] 2 := ⟨k418, k16, ⟨by decide, by decide⟩, by decide +kernel⟩
theorem e_NU_tell : mh_cee y_NU_tell b_NU_tell 4 (some .long) [] 3 := ⟨k422, k6, ⟨by decide, by decide⟩, by decide +kernel⟩
theorem e_NU_howMany : mh_cee y_NU_howMany b_NU_howMany 5 (some .int) [] 2 := ⟨k426, k6, ⟨by decide, by decide⟩, by decide +kernel⟩
theorem e_NU_sum : mh_cee y_NU_sum b_NU_sum 6 (some .long) [] 2 := ⟨k431, k6, ⟨by decide, by decide⟩, by decide +kernel⟩
theorem e_NU_least : mh_cee y_NU_least b_NU_least 4 (some .int) [] 2 := ⟨k435, k6, ⟨by decide, by decide⟩, by decide +kernel⟩
theorem e_NU_greatest : mh_cee y_NU_greatest b_NU_greatest 4 (some .int) [] 2 := ⟨k439, k6, ⟨by decide, by decide⟩, by decide +kernel⟩
theorem e_LW_commit : mh_cee y_LW_commit b_LW_commit 4 (some .int) [(0, 9, 12, 13), (0, 9, 15, 15), (0, 9, 18, 27)] 3 := ⟨k442, k0, ⟨by decide, by decide⟩, by decide +kernel⟩
theorem e_MH_commit : mh_cee y_MH_commit b_MH_commit 3 (some .int) [] 1 := ⟨k446, k1, ⟨by decide, by decide⟩, by decide +kernel⟩
theorem e_AL_size : mh_cee y_AL_size b_AL_size 1 (some .int) [] 0 := ⟨k450, k4, ⟨by decide, by decide⟩, by decide +kernel⟩
theorem e_MH_canBeDone : mh_cee y_MH_canBeDone b_MH_canBeDone 4 (some .boolean) [] 1 := ⟨k455, k1, ⟨by decide, by decide⟩, by decide +kernel⟩
theorem e_AL_get : mh_cee y_AL_get b_AL_get 2 (some (.object "java/lang/Object")) [] 1 := ⟨k459, k4, ⟨by decide, by decide⟩, by decide +kernel⟩
theorem e_OB_checkIndex : mh_cee y_OB_checkIndex b_OB_checkIndex 2 (some .int) [] 2 := ⟨k462, k21, ⟨by decide, by decide⟩, by decide +kernel⟩
theorem e_PR_checkIndex : mh_cee y_PR_checkIndex b_PR_checkIndex 3 (some .int) [] 3 := ⟨k465, k22, ⟨by decide, by decide⟩, by decide +kernel⟩
theorem e_AL_elementData : mh_cee y_AL_elementData b_AL_elementData 2 (some (.object "java/lang/Object")) [] 1 := ⟨k469, k4, ⟨by decide, by decide⟩, by decide +kernel⟩
theorem e_IN_isHitBy : mh_cee y_IN_isHitBy b_IN_isHitBy 4 (some .boolean) [] 1 := ⟨k473, k16, ⟨by decide, by decide⟩, by decide +kernel⟩
theorem e_IN_hasRead : mh_cee y_IN_hasRead b_IN_hasRead 3 (some .boolean) [] 1 := ⟨k477, k16, ⟨by decide, by decide⟩, by decide +kernel⟩
theorem e_AL_add1 : mh_cee y_AL_add1 b_AL_add1 2 (some .boolean) [] 1 := ⟨k482, k4, ⟨by decide, by decide⟩, by decide +kernel⟩
theorem e_AL_add3 : mh_cee y_AL_add3 b_AL_add3 4 none [] 3 := ⟨k486, k4, ⟨by decide, by decide⟩, by decide +kernel⟩
theorem e_AL_grow0 : mh_cee y_AL_grow0 b_AL_grow0 1 (some (.array (.object "java/lang/Object"))) [] 0 := ⟨k490, k4, ⟨by decide, by decide⟩, by decide +kernel⟩
theorem e_AL_grow1 : mh_cee y_AL_grow1 b_AL_grow1 4 (some (.array (.object "java/lang/Object"))) [] 1 := ⟨k494, k4, ⟨by decide, by decide⟩, by decide +kernel⟩
theorem e_AS_newLength : mh_cee y_AS_newLength b_AS_newLength 4 (some .int) [] 3 := ⟨k497, k23, ⟨by decide, by decide⟩, by decide +kernel⟩
theorem e_AS_hugeLength : mh_cee y_AS_hugeLength b_AS_hugeLength 3 (some .int) [] 2 := ⟨k502, k23, ⟨by decide, by decide⟩, by decide +kernel⟩
theorem e_AR_copyOf2 : mh_cee y_AR_copyOf2 b_AR_copyOf2 2 (some (.array (.object "java/lang/Object"))) [] 2 := ⟨k505, k8, ⟨by decide, by decide⟩, by decide +kernel⟩
theorem e_AR_copyOf3 : mh_cee y_AR_copyOf3 b_AR_copyOf3 4 (some (.array (.object "java/lang/Object"))) [] 3 := ⟨k524, k8, ⟨by decide, by decide⟩, by decide +kernel⟩
theorem e_MA_min : mh_cee y_MA_min b_MA_min 2 (some .int) [] 2 := ⟨k530, k20, ⟨by decide, by decide⟩, by decide +kernel⟩
theorem e_LW_abort : mh_cee y_LW_abort b_LW_abort 3 (some .int) [(0, 5, 8, 13), (0, 5, 11, 15)] 2 := ⟨k536, k0, ⟨by decide, by decide⟩, by decide +kernel⟩
theorem e_MH_abort : mh_cee y_MH_abort b_MH_abort 2 none [] 1 := ⟨k540, k1, ⟨by decide, by decide⟩, by decide +kernel⟩
theorem e_LW_advance : mh_cee y_LW_advance b_LW_advance 5 (some .int) [(0, 10, 13, 13)] 4 := ⟨k543, k0, ⟨by decide, by decide⟩, by decide +kernel⟩
theorem e_MH_advance : mh_cee y_MH_advance b_MH_advance 6 (some .int) [] 2 := ⟨k547, k1, ⟨by decide, by decide⟩, by decide +kernel⟩
theorem e_SV_goThrough : mh_cee y_SV_goThrough b_SV_goThrough 2 none [] 1 := ⟨k552, k5, ⟨by decide, by decide⟩, by decide +kernel⟩
theorem e_IN_writeInto : mh_cee y_IN_writeInto b_IN_writeInto 3 none [] 1 := ⟨k556, k16, ⟨by decide, by decide⟩, by decide +kernel⟩
theorem e_IN_signInto : mh_cee y_IN_signInto b_IN_signInto 4 none [] 2 := ⟨k562, k16, ⟨by decide, by decide⟩, by decide +kernel⟩
theorem e_LW_restart : mh_cee y_LW_restart b_LW_restart 3 (some .int) [(0, 5, 8, 13), (0, 5, 11, 15)] 2 := ⟨k565, k0, ⟨by decide, by decide⟩, by decide +kernel⟩
theorem e_MH_restart : mh_cee y_MH_restart b_MH_restart 3 none [] 1 := ⟨k569, k1, ⟨by decide, by decide⟩, by decide +kernel⟩
theorem e_SV_startOver : mh_cee y_SV_startOver b_SV_startOver 1 none [] 0 := ⟨k574, k5, ⟨by decide, by decide⟩, by decide +kernel⟩
theorem e_NU_takeAll : mh_cee y_NU_takeAll b_NU_takeAll 1 none [] 0 := ⟨k578, k6, ⟨by decide, by decide⟩, by decide +kernel⟩
theorem e_KS_dropAll : mh_cee y_KS_dropAll b_KS_dropAll 1 none [] 0 := ⟨k582, k7, ⟨by decide, by decide⟩, by decide +kernel⟩
theorem e_AR_fillJ : mh_cee y_AR_fillJ b_AR_fillJ 5 none [] 2 := ⟨k585, k8, ⟨by decide, by decide⟩, by decide +kernel⟩
theorem e_LW_state : mh_cee y_LW_state b_LW_state 5 (some .int) [(0, 9, 12, 13), (0, 9, 16, 21)] 4 := ⟨k588, k0, ⟨by decide, by decide⟩, by decide +kernel⟩
theorem e_MH_state : mh_cee y_MH_state b_MH_state 3 (some .long) [] 2 := ⟨k592, k1, ⟨by decide, by decide⟩, by decide +kernel⟩
theorem e_LW_look : mh_cee y_LW_look b_LW_look 7 (some .int) [(0, 13, 16, 13)] 6 := ⟨k595, k0, ⟨by decide, by decide⟩, by decide +kernel⟩
theorem e_MH_look : mh_cee y_MH_look b_MH_look 5 (some .long) [] 4 := ⟨k599, k1, ⟨by decide, by decide⟩, by decide +kernel⟩
theorem e_LW_verdict : mh_cee y_LW_verdict b_LW_verdict 5 (some .int) [(0, 10, 13, 13), (0, 10, 17, 27)] 4 := ⟨k602, k0, ⟨by decide, by decide⟩, by decide +kernel⟩
theorem e_MH_verdict : mh_cee y_MH_verdict b_MH_verdict 4 (some .int) [] 2 := ⟨k606, k1, ⟨by decide, by decide⟩, by decide +kernel⟩
theorem e_MH_logged : mh_cee y_MH_logged b_MH_logged 2 (some (.object "MeldHost$Intention")) [] 1 := ⟨k610, k1, ⟨by decide, by decide⟩, by decide +kernel⟩
theorem e_LW_intention : mh_cee y_LW_intention b_LW_intention 5 (some .int) [(0, 10, 13, 13), (0, 10, 17, 27)] 4 := ⟨k614, k0, ⟨by decide, by decide⟩, by decide +kernel⟩
theorem e_MH_intention : mh_cee y_MH_intention b_MH_intention 3 (some .int) [] 2 := ⟨k618, k1, ⟨by decide, by decide⟩, by decide +kernel⟩
theorem e_IN_tell : mh_cee y_IN_tell b_IN_tell 2 (some .int) [] 1 := ⟨k622, k16, ⟨by decide, by decide⟩, by decide +kernel⟩
theorem e_KS_size : mh_cee y_KS_size b_KS_size 3 (some .int) [] 0 := ⟨k626, k7, ⟨by decide, by decide⟩, by decide +kernel⟩
theorem e_LG_bitCount : mh_cee y_LG_bitCount b_LG_bitCount 2 (some .int) [] 1 := ⟨k629, k24, ⟨by decide, by decide⟩, by decide +kernel⟩
theorem e_LW_count : mh_cee y_LW_count b_LW_count 6 (some .int) [(0, 12, 15, 13)] 5 := ⟨k635, k0, ⟨by decide, by decide⟩, by decide +kernel⟩
theorem e_MH_count : mh_cee y_MH_count b_MH_count 4 (some .int) [] 3 := ⟨k639, k1, ⟨by decide, by decide⟩, by decide +kernel⟩
theorem e_MH_howManyOpen : mh_cee y_MH_howManyOpen b_MH_howManyOpen 3 (some .int) [] 0 := ⟨k643, k1, ⟨by decide, by decide⟩, by decide +kernel⟩
theorem e_MM_init : mh_cee y_MM_init b_MM_init 2 none [] 0 := ⟨k648, k9, ⟨by decide, by decide⟩, by decide +kernel⟩
theorem e_WK_init : mh_cee y_WK_init b_WK_init 1 none [] 0 := ⟨k655, k10, ⟨by decide, by decide⟩, by decide +kernel⟩
theorem e_MM_thrown : mh_cee y_MM_thrown b_MM_thrown 1 (some .int) [] 0 := ⟨k738, k9, ⟨by decide, by decide⟩, by decide +kernel⟩
theorem e_MM_begin : mh_cee y_MM_begin b_MM_begin 5 none [] 3 := ⟨k742, k9, ⟨by decide, by decide⟩, by decide +kernel⟩
theorem e_MM_in : mh_cee y_MM_in b_MM_in 2 (some .boolean) [] 2 := ⟨k745, k9, ⟨by decide, by decide⟩, by decide +kernel⟩
theorem e_MM_fails : mh_cee y_MM_fails b_MM_fails 3 (some .boolean) [] 2 := ⟨k749, k9, ⟨by decide, by decide⟩, by decide +kernel⟩
theorem e_WK_clear : mh_cee y_WK_clear b_WK_clear 2 none [] 0 := ⟨k753, k10, ⟨by decide, by decide⟩, by decide +kernel⟩
theorem e_MM_get : mh_cee y_MM_get b_MM_get 4 (some .long) [] 2 := ⟨k757, k9, ⟨by decide, by decide⟩, by decide +kernel⟩
theorem e_MM_shut : mh_cee y_MM_shut b_MM_shut 3 (some .boolean) [] 2 := ⟨k761, k9, ⟨by decide, by decide⟩, by decide +kernel⟩
theorem e_WK_written : mh_cee y_WK_written b_WK_written 3 (some .int) [] 1 := ⟨k765, k10, ⟨by decide, by decide⟩, by decide +kernel⟩
theorem e_MM_upTo : mh_cee y_MM_upTo b_MM_upTo 3 none [] 1 := ⟨k769, k9, ⟨by decide, by decide⟩, by decide +kernel⟩
theorem e_MM_apply : mh_cee y_MM_apply b_MM_apply 3 none [] 1 := ⟨k773, k9, ⟨by decide, by decide⟩, by decide +kernel⟩
theorem e_MM_put : mh_cee y_MM_put b_MM_put 5 (some .int) [] 3 := ⟨k777, k9, ⟨by decide, by decide⟩, by decide +kernel⟩
theorem e_MM_write : mh_cee y_MM_write b_MM_write 8 (some .int) [] 4 := ⟨k781, k9, ⟨by decide, by decide⟩, by decide +kernel⟩
theorem e_MM_delete : mh_cee y_MM_delete b_MM_delete 3 (some .int) [] 2 := ⟨k785, k9, ⟨by decide, by decide⟩, by decide +kernel⟩
theorem e_MM_part : mh_cee y_MM_part b_MM_part 6 (some .long) [] 4 := ⟨k789, k9, ⟨by decide, by decide⟩, by decide +kernel⟩
theorem e_MM_bad : mh_cee y_MM_bad b_MM_bad 3 (some .boolean) [] 3 := ⟨k792, k9, ⟨by decide, by decide⟩, by decide +kernel⟩
theorem e_MM_told : mh_cee y_MM_told b_MM_told 10 (some .long) [] 3 := ⟨k796, k9, ⟨by decide, by decide⟩, by decide +kernel⟩
theorem e_MM_commit : mh_cee y_MM_commit b_MM_commit 3 (some .int) [] 1 := ⟨k800, k9, ⟨by decide, by decide⟩, by decide +kernel⟩
theorem e_MM_good : mh_cee y_MM_good b_MM_good 8 (some .boolean) [] 2 := ⟨k804, k9, ⟨by decide, by decide⟩, by decide +kernel⟩
theorem e_MM_abort : mh_cee y_MM_abort b_MM_abort 2 none [] 1 := ⟨k808, k9, ⟨by decide, by decide⟩, by decide +kernel⟩
theorem e_MM_advance : mh_cee y_MM_advance b_MM_advance 4 (some .int) [] 2 := ⟨k812, k9, ⟨by decide, by decide⟩, by decide +kernel⟩
theorem e_MM_restart : mh_cee y_MM_restart b_MM_restart 3 none [] 1 := ⟨k817, k9, ⟨by decide, by decide⟩, by decide +kernel⟩
theorem e_MM_state : mh_cee y_MM_state b_MM_state 3 (some .long) [] 2 := ⟨k821, k9, ⟨by decide, by decide⟩, by decide +kernel⟩
theorem e_MM_look : mh_cee y_MM_look b_MM_look 5 (some .long) [] 4 := ⟨k825, k9, ⟨by decide, by decide⟩, by decide +kernel⟩
theorem e_MM_verdict : mh_cee y_MM_verdict b_MM_verdict 3 (some .int) [] 2 := ⟨k829, k9, ⟨by decide, by decide⟩, by decide +kernel⟩
theorem e_MM_intention : mh_cee y_MM_intention b_MM_intention 4 (some .int) [] 2 := ⟨k833, k9, ⟨by decide, by decide⟩, by decide +kernel⟩
theorem e_MM_count : mh_cee y_MM_count b_MM_count 7 (some .int) [] 3 := ⟨k837, k9, ⟨by decide, by decide⟩, by decide +kernel⟩
theorem l_LW_67 : mh_lk "MeldHostLaw" 67 y_MH_init := Or.inl k27
theorem l_MH_9 : mh_lk "MeldHost" 9 y_AL_init := Or.inl k35
theorem l_AL_1 : mh_lk "java/util/ArrayList" 1 y_AB_init := Or.inl k38
theorem l_AB_1 : mh_lk "java/util/AbstractList" 1 y_AC_init := Or.inl k41
theorem l_MH_22 : mh_lk "MeldHost" 22 y_SV_init := Or.inl k62
theorem l_SV_11 : mh_lk "MeldHost$Server" 11 y_NU_init := Or.inr ⟨_, k68⟩
theorem l_NU_11 : mh_lk "MeldHost$Numbers" 11 y_KS_init := Or.inr ⟨_, k74⟩
theorem l_SV_22 : mh_lk "MeldHost$Server" 22 y_AR_fillI := Or.inl k92
theorem l_MH_35 : mh_lk "MeldHost" 35 y_NU_init := Or.inr ⟨_, k117⟩
theorem l_LW_71 : mh_lk "MeldHostLaw" 71 y_LW_begin := Or.inl k134
theorem l_LW_7 : mh_lk "MeldHostLaw" 7 y_MH_begin := Or.inl k139
theorem l_MH_40 : mh_lk "MeldHost" 40 y_MH_needBelow := Or.inl k143
theorem l_MH_54 : mh_lk "MeldHost" 54 y_IN_init := Or.inl k232
theorem l_IN_11 : mh_lk "MeldHost$Intention" 11 y_KS_init := Or.inr ⟨_, k237⟩
theorem l_MH_61 : mh_lk "MeldHost" 61 y_NU_copyFrom := Or.inl k281
theorem l_NU_32 : mh_lk "MeldHost$Numbers" 32 y_KS_copyFrom := Or.inl k285
theorem l_LW_81 : mh_lk "MeldHostLaw" 81 y_LW_get := Or.inl k293
theorem l_LW_17 : mh_lk "MeldHostLaw" 17 y_MH_get := Or.inl k297
theorem l_MH_65 : mh_lk "MeldHost" 65 y_MH_openDraft := Or.inl k301
theorem l_MH_69 : mh_lk "MeldHost" 69 y_IN_readKey := Or.inl k306
theorem l_IN_46 : mh_lk "MeldHost$Intention" 46 y_IN_hasWritten := Or.inl k310
theorem l_IN_57 : mh_lk "MeldHost$Intention" 57 y_IN_placeOf := Or.inl k314
theorem l_IN_50 : mh_lk "MeldHost$Intention" 50 y_KS_add := Or.inl k318
theorem l_MH_73 : mh_lk "MeldHost" 73 y_MH_numberIn := Or.inl k322
theorem l_MH_178 : mh_lk "MeldHost" 178 y_KS_has := Or.inl k325
theorem l_LW_87 : mh_lk "MeldHostLaw" 87 y_LW_put := Or.inl k345
theorem l_LW_23 : mh_lk "MeldHostLaw" 23 y_MH_put := Or.inl k349
theorem l_MH_77 : mh_lk "MeldHost" 77 y_MH_writeKey := Or.inl k353
theorem l_MH_192 : mh_lk "MeldHost" 192 y_IN_hasRoomFor := Or.inl k356
theorem l_MH_197 : mh_lk "MeldHost" 197 y_IN_write := Or.inl k376
theorem l_IN_64 : mh_lk "MeldHost$Intention" 64 y_MA_max := Or.inl k380
theorem l_MH_81 : mh_lk "MeldHost" 81 y_NU_give := Or.inl k383
theorem l_NU_22 : mh_lk "MeldHost$Numbers" 22 y_KS_add := Or.inl k387
theorem l_LW_91 : mh_lk "MeldHostLaw" 91 y_LW_delete := Or.inl k388
theorem l_LW_29 : mh_lk "MeldHostLaw" 29 y_MH_delete := Or.inl k391
theorem l_MH_85 : mh_lk "MeldHost" 85 y_NU_take := Or.inl k395
theorem l_NU_26 : mh_lk "MeldHost$Numbers" 26 y_KS_drop := Or.inl k399
theorem l_LW_94 : mh_lk "MeldHostLaw" 94 y_LW_part := Or.inl k404
theorem l_LW_33 : mh_lk "MeldHostLaw" 33 y_MH_part := Or.inl k407
theorem l_MH_88 : mh_lk "MeldHost" 88 y_MH_needPart := Or.inl k411
theorem l_MH_99 : mh_lk "MeldHost" 99 y_IN_readPart := Or.inl k415
theorem l_MH_102 : mh_lk "MeldHost" 102 y_NU_tell := Or.inl k419
theorem l_NU_42 : mh_lk "MeldHost$Numbers" 42 y_NU_howMany := Or.inl k423
theorem l_NU_56 : mh_lk "MeldHost$Numbers" 56 y_KS_has := Or.inl k427
theorem l_NU_46 : mh_lk "MeldHost$Numbers" 46 y_NU_sum := Or.inl k428
theorem l_NU_50 : mh_lk "MeldHost$Numbers" 50 y_NU_least := Or.inl k432
theorem l_NU_53 : mh_lk "MeldHost$Numbers" 53 y_NU_greatest := Or.inl k436
theorem l_LW_98 : mh_lk "MeldHostLaw" 98 y_LW_commit := Or.inl k440
theorem l_LW_37 : mh_lk "MeldHostLaw" 37 y_MH_commit := Or.inl k443
theorem l_MH_109 : mh_lk "MeldHost" 109 y_AL_size := Or.inl k447
theorem l_MH_115 : mh_lk "MeldHost" 115 y_MH_canBeDone := Or.inl k452
theorem l_MH_133 : mh_lk "MeldHost" 133 y_AL_get := Or.inl k456
theorem l_AL_118 : mh_lk "java/util/ArrayList" 118 y_OB_checkIndex := Or.inl k460
theorem l_OB_105 : mh_lk "java/util/Objects" 105 y_PR_checkIndex := Or.inl k463
theorem l_AL_123 : mh_lk "java/util/ArrayList" 123 y_AL_elementData := Or.inl k466
theorem l_MH_204 : mh_lk "MeldHost" 204 y_IN_isHitBy := Or.inl k470
theorem l_IN_73 : mh_lk "MeldHost$Intention" 73 y_IN_hasRead := Or.inl k474
theorem l_IN_70 : mh_lk "MeldHost$Intention" 70 y_KS_has := Or.inl k478
theorem l_MH_123 : mh_lk "MeldHost" 123 y_AL_add1 := Or.inl k479
theorem l_AL_131 : mh_lk "java/util/ArrayList" 131 y_AL_add3 := Or.inl k483
theorem l_AL_129 : mh_lk "java/util/ArrayList" 129 y_AL_grow0 := Or.inl k487
theorem l_AL_69 : mh_lk "java/util/ArrayList" 69 y_AL_grow1 := Or.inl k491
theorem l_AL_73 : mh_lk "java/util/ArrayList" 73 y_AS_newLength := Or.inl k495
theorem l_AS_194 : mh_lk "jdk/internal/util/ArraysSupport" 194 y_MA_max := Or.inl k498
theorem l_AS_201 : mh_lk "jdk/internal/util/ArraysSupport" 201 y_AS_hugeLength := Or.inl k500
theorem l_AL_66 : mh_lk "java/util/ArrayList" 66 y_AR_copyOf2 := Or.inl k503
theorem l_AR_300 : mh_lk "java/util/Arrays" 300 y_AR_copyOf3 := Or.inl k522
theorem l_AR_304 : mh_lk "java/util/Arrays" 304 y_MA_min := Or.inl k528
theorem l_AL_79 : mh_lk "java/util/ArrayList" 79 y_MA_max := Or.inl k532
theorem l_LW_102 : mh_lk "MeldHostLaw" 102 y_LW_abort := Or.inl k534
theorem l_LW_41 : mh_lk "MeldHostLaw" 41 y_MH_abort := Or.inl k537
theorem l_LW_106 : mh_lk "MeldHostLaw" 106 y_LW_advance := Or.inl k541
theorem l_LW_45 : mh_lk "MeldHostLaw" 45 y_MH_advance := Or.inl k544
theorem l_MH_127 : mh_lk "MeldHost" 127 y_MA_min := Or.inl k548
theorem l_MH_137 : mh_lk "MeldHost" 137 y_SV_goThrough := Or.inl k549
theorem l_SV_34 : mh_lk "MeldHost$Server" 34 y_IN_writeInto := Or.inl k553
theorem l_IN_76 : mh_lk "MeldHost$Intention" 76 y_NU_give := Or.inl k557
theorem l_IN_82 : mh_lk "MeldHost$Intention" 82 y_NU_take := Or.inl k558
theorem l_SV_42 : mh_lk "MeldHost$Server" 42 y_IN_signInto := Or.inl k559
theorem l_LW_109 : mh_lk "MeldHostLaw" 109 y_LW_restart := Or.inl k563
theorem l_LW_48 : mh_lk "MeldHostLaw" 48 y_MH_restart := Or.inl k566
theorem l_MH_143 : mh_lk "MeldHost" 143 y_SV_startOver := Or.inl k571
theorem l_SV_48 : mh_lk "MeldHost$Server" 48 y_NU_takeAll := Or.inl k575
theorem l_NU_29 : mh_lk "MeldHost$Numbers" 29 y_KS_dropAll := Or.inl k579
theorem l_KS_17 : mh_lk "MeldHost$KeySet" 17 y_AR_fillJ := Or.inl k583
theorem l_LW_112 : mh_lk "MeldHostLaw" 112 y_LW_state := Or.inl k586
theorem l_LW_51 : mh_lk "MeldHostLaw" 51 y_MH_state := Or.inl k589
theorem l_LW_115 : mh_lk "MeldHostLaw" 115 y_LW_look := Or.inl k593
theorem l_LW_54 : mh_lk "MeldHostLaw" 54 y_MH_look := Or.inl k596
theorem l_LW_118 : mh_lk "MeldHostLaw" 118 y_LW_verdict := Or.inl k600
theorem l_LW_57 : mh_lk "MeldHostLaw" 57 y_MH_verdict := Or.inl k603
theorem l_MH_149 : mh_lk "MeldHost" 149 y_MH_logged := Or.inl k607
theorem l_LW_121 : mh_lk "MeldHostLaw" 121 y_LW_intention := Or.inl k612
theorem l_LW_60 : mh_lk "MeldHostLaw" 60 y_MH_intention := Or.inl k615
theorem l_MH_152 : mh_lk "MeldHost" 152 y_IN_tell := Or.inl k619
theorem l_IN_85 : mh_lk "MeldHost$Intention" 85 y_KS_size := Or.inl k623
theorem l_KS_29 : mh_lk "MeldHost$KeySet" 29 y_LG_bitCount := Or.inl k627
theorem l_LW_124 : mh_lk "MeldHostLaw" 124 y_LW_count := Or.inl k633
theorem l_LW_63 : mh_lk "MeldHostLaw" 63 y_MH_count := Or.inl k636
theorem l_MH_155 : mh_lk "MeldHost" 155 y_MH_howManyOpen := Or.inl k640
theorem l_LW_70 : mh_lk "MeldHostLaw" 70 y_MM_init := Or.inl k646
theorem l_MM_30 : mh_lk "MeldHostModel" 30 y_WK_init := Or.inr ⟨_, k653⟩
theorem l_LW_77 : mh_lk "MeldHostLaw" 77 y_MM_thrown := Or.inl k735
theorem l_LW_76 : mh_lk "MeldHostLaw" 76 y_MM_begin := Or.inl k739
theorem l_MM_53 : mh_lk "MeldHostModel" 53 y_MM_in := Or.inl k743
theorem l_MM_57 : mh_lk "MeldHostModel" 57 y_MM_fails := Or.inl k746
theorem l_MM_63 : mh_lk "MeldHostModel" 63 y_WK_clear := Or.inl k750
theorem l_LW_84 : mh_lk "MeldHostLaw" 84 y_MM_get := Or.inl k754
theorem l_MM_75 : mh_lk "MeldHostModel" 75 y_MM_shut := Or.inl k758
theorem l_MM_78 : mh_lk "MeldHostModel" 78 y_WK_written := Or.inl k762
theorem l_MM_88 : mh_lk "MeldHostModel" 88 y_MM_upTo := Or.inl k766
theorem l_MM_39 : mh_lk "MeldHostModel" 39 y_MM_apply := Or.inl k770
theorem l_LW_90 : mh_lk "MeldHostLaw" 90 y_MM_put := Or.inl k774
theorem l_MM_92 : mh_lk "MeldHostModel" 92 y_MM_write := Or.inl k778
theorem l_LW_93 : mh_lk "MeldHostLaw" 93 y_MM_delete := Or.inl k782
theorem l_LW_97 : mh_lk "MeldHostLaw" 97 y_MM_part := Or.inl k786
theorem l_MM_96 : mh_lk "MeldHostModel" 96 y_MM_bad := Or.inl k790
theorem l_MM_109 : mh_lk "MeldHostModel" 109 y_MM_told := Or.inl k793
theorem l_LW_101 : mh_lk "MeldHostLaw" 101 y_MM_commit := Or.inl k797
theorem l_MM_116 : mh_lk "MeldHostModel" 116 y_MM_good := Or.inl k801
theorem l_LW_105 : mh_lk "MeldHostLaw" 105 y_MM_abort := Or.inl k805
theorem l_LW_108 : mh_lk "MeldHostLaw" 108 y_MM_advance := Or.inl k809
theorem l_MM_119 : mh_lk "MeldHostModel" 119 y_MA_min := Or.inl k813
theorem l_LW_111 : mh_lk "MeldHostLaw" 111 y_MM_restart := Or.inl k814
theorem l_LW_114 : mh_lk "MeldHostLaw" 114 y_MM_state := Or.inl k818
theorem l_LW_117 : mh_lk "MeldHostLaw" 117 y_MM_look := Or.inl k822
theorem l_LW_120 : mh_lk "MeldHostLaw" 120 y_MM_verdict := Or.inl k826
theorem l_LW_123 : mh_lk "MeldHostLaw" 123 y_MM_intention := Or.inl k830
theorem l_LW_127 : mh_lk "MeldHostLaw" 127 y_MM_count := Or.inl k834
end
section
section MHX
variable {p : Program} {l : Launch} {e : Env} {R : Room} {s : State} {m : MethodId} {args : Array Value} {below : List Frame} {meth : Method} {c : Code} {H : Heap} {locs : List Loc} {cells slots : Nat} {Q : State → Prop}
variable {cc : ByteArray} {pc : Nat} {ls : Array Slot} {rest : List Value} {own : String} {b : Nat} {dC : Nat → ClassId} {dI : Nat → Nat → Nat} {dA : Nat → ClassId} {zs : Nat → Nat} {w w0 : mh_w} {P : Outcome → mh_w → Prop} {mc ms : Nat}
/-- an exception class of the claim: its number, its words -/
def mh_ex (ci : Nat) (cls : String) (ic : Nat) : Prop := (∃ F, classes[ci]? = some (cls, F, 0)) ∧ Bundle.fit cls = true ∧ (∀ x ∈ (Bundle.ownAtoms "MeldHost" ic cls ["java/lang/RuntimeException", "java/lang/Exception"]).filter mh_xo, x ∈ mh_TB ∨ x ∈ mh_NW) ∧ Cond.instantiable cls 6 ∈ mh_TB ∧ Cond.initialized cls ∈ mh_TB
set_option maxHeartbeats 1000000 in
/-- throw new E("text"), at an empty operand stack, in a method of MeldHost without a table -/
theorem mh_throw (hl : l.stackTraces = false) {ie is ic ci : Nat} {cls tx : String} (K0 : mh_K0 p s m args c "MeldHost" cc dC dI dA) (hOK : mh_OK b dC dI dA zs w0 s) (E : mh_ex ci cls ic) (hst : (is, tx) ∈ mh_str) (hcl : Cond.classLink "MeldHost" ie cls ∈ mh_TB) (hlocks : meth.locks = false) (hT : c.exceptionTable.toList.map (fun h => (h.startPc, h.endPc, h.handlerPc, h.catchType)) = []) {nL : Nat} (hml : c.maxLocals = nL) (hsz : ls.size = nL)
    (hX : mh_P (dC, dI) b w H) (hS : va_S (mh_A b) s.heap H locs) (hP : ∀ q : Nat, P (.threw q) (mh_set w 99 0 (some (q, .inr (ci, []))))) (h1 : cells + 1 ≤ mc) (h2 : slots + 6 ≤ ms) (hRc : cells + 1 ≤ R.cells) (hRs : slots + 6 ≤ R.slots) (hfr : 5 < R.frames) (hlo : 83 ≤ R.locals)
    (d0 : decode cc pc = .ok (.new ie, 3)) (d3 : decode cc (pc + 3) = .ok (.dup, 1)) (d4 : decode cc (pc + 4) = .ok (.ldc is, 2)) (d6 : decode cc (pc + 6) = .ok (.invokespecial ic, 3)) (d9 : decode cc (pc + 9) = .ok (.athrow, 1)) :
    W p l e R s m args below meth c H locs cells slots (mh_MQ below b dC dI P args s mc ms) (F0 m pc ls []) := by
  obtain ⟨hx, hb, hown, hts, hN, hK⟩ := K0
  obtain ⟨⟨F, hc⟩, hfit, hat, hins, hini⟩ := E
  obtain ⟨hN0, hK0, hZ, hb0, hX0⟩ := hOK
  have hKn := hK.1 ci _ hc
  have hstr := hZ.2.1 _ hst
  have hat' : ∀ x ∈ Bundle.ownAtoms "MeldHost" ic cls ["java/lang/RuntimeException", "java/lang/Exception"], x.before args s = true := mh_own (fun x hx => (hat x hx).elim (hts x) (fun h => va_Nw.use (mh_NW_on x h) (hN x h))) hZ.2.2.2.2.1 hZ.2.2.2.2.2.1
  refine W.newcK hx hb hown (hts _ hcl) (hts _ hins) (hts _ hini) rfl d0 hRc hRs hKn.2.1 rfl fun H1 kC hkC e1 z1 o1 => ?_
  refine lv_dup hx hb d3 rfl ?_
  refine va_ldcS hx hb hown hstr d4 ?_
  intro T hTh X
  have htr : e.platform.stackTraces = false := by rw [X.admits.platform]; exact hl
  obtain ⟨vm', ce, L, X', hL, hcc, hcv, hgo⟩ := mh_ctorS X hx htr hown hfit (by decide) hat' hZ.2.2.2.2.1 hS.2.2 hKn.2.1 hkC (a := H.size) (by rw [hTh]; exact e1) hS.1 (msg := .ref (zs is)) rfl (g := F0 m (pc + 6) ls (.ref (zs is) :: .ref H.size :: .ref H.size :: [])) rfl (by show ls.size = _; rw [hsz, hml]) (rest := []) rfl (by rw [hb]; exact d6) hfr (by show 2 * 0 + 1 + 81 ≤ _; omega)
  have hn : c.exceptionTable.toList = [] := List.map_eq_nil_iff.mp hT
  obtain ⟨st, r1, r2, hW, hsm⟩ := (stand_widen X' h1 h2).athrowLeaves hx (g := F0 m (pc + 9) ls [.ref H.size]) rfl rfl rfl (fun x hx => by rw [hn] at hx; cases hx) (a := H.size) (rest := []) rfl (by rw [hb]; exact d9) hlocks
  have hlt : H.size < T.heap.size := by rw [hTh, z1]; exact Nat.lt_succ_self _
  have hh : ∀ q : Nat, q ≠ H.size → ((T.setVm vm').setCell H.size ce).heap[q]? = H1[q]? := fun q hq => by
    rw [heapAt_setCell_ne (s := T.setVm vm') _ (Ne.symm hq)]
    show T.heap[q]? = _
    rw [hTh]
  have hself : ((T.setVm vm').setCell H.size ce).heap[H.size]? = some ce := heapAt_setCell_self (s := T.setVm vm') _ hlt
  have hsz2 : ((T.setVm vm').setCell H.size ce).heap.size = H.size + 1 := by
    rw [size_setCell]
    show T.heap.size = _
    rw [hTh, z1]
  refine ⟨_, hgo _ st, .threw H.size, r1, r2, mh_set w 99 0 (some (H.size, .inr (ci, []))), hP _, ?_, ?_, locs ++ L, hW, hsm, ?_⟩
  · show mh_P (dC, dI) b _ ((T.setVm vm').setCell H.size ce).heap
    refine hX.new (Nat.le_trans hb0 hS.1) ⟨_, hc, ce, hself, hcc, hcv, fun k hk => absurd hk (Nat.not_lt_zero k)⟩ (fun q hq => ?_)
    rw [hh q (Nat.ne_of_lt hq)]
    exact o1 q hq
  · refine ⟨?_, fun q g1 g2 => ?_⟩
    · show s.heap.size ≤ ((T.setVm vm').setCell H.size ce).heap.size
      rw [hsz2]; have := hS.1; omega
    · show ((T.setVm vm').setCell H.size ce).heap[q]? = _
      have := hS.1
      rw [hh q (by omega), o1 q (by omega)]
      exact hS.2.1 q g1 g2
  · intro q hq
    rcases List.mem_append.mp hq with h | h
    · exact hS.2.2 q h
    · rw [hL q h]; exact Nat.le_trans hb0 hS.1
/-- a handler takes the exception: rows ahead that name other classes are passed -/
theorem mh_catch {ci k i : Nat} {E : String} {F : u_T} {n0 : Nat} (K0 : mh_K0 p s m args c own cc dC dI dA) (hOK : mh_OK b dC dI dA zs w0 s) (hX : mh_P (dC, dI) b w H) {q : Nat} {fs : List Value} (hq : w k i = some (q, .inr (ci, fs))) (hc : classes[ci]? = some (E, F, n0)) {hs pre suf : List (Nat × Nat × Nat × Nat)} {x : Nat × Nat × Nat × Nat} (hT : c.exceptionTable.toList.map (fun h => (h.startPc, h.endPc, h.handlerPc, h.catchType)) = hs) (hsp : hs = pre ++ x :: suf)
    (hpass : ∀ z ∈ pre, ∃ nm : String, z.2.2.2 ≠ 0 ∧ Cond.classLink own z.2.2.2 nm ∈ mh_TB ∧ (E, nm) ∈ mh_nc) (hx1 : x.1 ≤ pc) (hx2 : pc < x.2.1) (h0 : x.2.2.2 ≠ 0) (hlk : Cond.classLink own x.2.2.2 E ∈ mh_TB)
    (kk : W p l e R s m args below meth c H locs cells slots Q (F0 m x.2.2.1 ls [.ref q])) : mh_X p l e R s m args below meth c H locs cells slots Q (F0 m pc ls rest) q := by
  obtain ⟨hx, hb, hown, hts, hN, hK⟩ := K0
  obtain ⟨hN0, hK0, hZ, hb0, hX0⟩ := hOK
  intro T hTh X
  have hpl : e.platform.magicAccessors = ({} : Platform).magicAccessors := by rw [X.admits.platform]
  obtain ⟨r, hr, cell, q1, q2, q3, -⟩ := hX.at hq
  have hKn := hK.1 ci _ hc
  have hcl : s.vm.findClass E = some cell.cls := by rw [q2]; exact hKn.2.1
  obtain ⟨k9, hk9, -⟩ := Vm.findClass_spec hcl
  obtain ⟨c5, hc5, hcl5⟩ := Cond.classLink_spec hown (hts _ hlk) e.platform hpl
  cases Option.some.inj (hcl.symm.trans hc5)
  rw [hsp] at hT
  obtain ⟨pre', r1, e1, e2, e3⟩ := List.map_eq_append_iff.mp hT
  obtain ⟨x', suf', e4, e5, e6⟩ := List.map_eq_cons_iff.mp e3
  subst e4
  have hx' : (x'.startPc, x'.endPc, x'.handlerPc, x'.catchType) = x := e5
  subst hx'
  obtain ⟨vm', X', st⟩ := mh_caught X q (g := F0 m pc ls rest) rfl (by rw [hTh]; exact q1) q3 pre' x' suf' e1
    (fun z hz => by
      have hz' : (z.startPc, z.endPc, z.handlerPc, z.catchType) ∈ pre := by rw [← e2]; exact List.mem_map.mpr ⟨z, hz, rfl⟩
      obtain ⟨nm, g0, g1, g2⟩ := hpass _ hz'
      obtain ⟨c6, hc6, hcl6⟩ := Cond.classLink_spec hown (hts _ g1) e.platform hpl
      obtain ⟨a8, b8, f1, f2, f3⟩ := hZ.2.2.1 _ g2
      cases Option.some.inj (f1.symm.trans hcl)
      cases Option.some.inj (f2.symm.trans hc6)
      exact Or.inr ⟨g0, _, hcl6, f3⟩) (by simp [covers]; exact ⟨hx1, hx2⟩) h0 hcl5 ⟨k9, hk9⟩ (va_asg _ _)
  obtain ⟨t, a1, b1⟩ := kk (T.setVm vm') hTh X'
  exact ⟨t, st _ a1, b1⟩
end MHX
section MHV
variable {p : Program} {l : Launch} {e : Env} {R : Room} {s : State} {m : MethodId} {args : Array Value} {below : List Frame} {meth : Method} {c : Code} {H : Heap} {locs : List Loc} {cells slots : Nat} {Q : State → Prop} {pc : Nat} {ls : Array Slot} {rest : List Value}
/-- the number on top, written otherwise -/
theorem mh_ti {x y : Int32} (h : x = y) (k : W p l e R s m args below meth c H locs cells slots Q (F0 m pc ls (.int y :: rest))) : W p l e R s m args below meth c H locs cells slots Q (F0 m pc ls (.int x :: rest)) := h ▸ k
theorem mh_tl {x y : Int64} (h : x = y) (k : W p l e R s m args below meth c H locs cells slots Q (F0 m pc ls (.long y :: rest))) : W p l e R s m args below meth c H locs cells slots Q (F0 m pc ls (.long x :: rest)) := h ▸ k
theorem mh_tv {x y : Value} (h : x = y) (k : W p l e R s m args below meth c H locs cells slots Q (F0 m pc ls (y :: rest))) : W p l e R s m args below meth c H locs cells slots Q (F0 m pc ls (x :: rest)) := h ▸ k
/-- the heap's room, written otherwise -/
theorem mh_cs {c2 s2 : Nat} {g : JFrame} (h1 : cells = c2) (h2 : slots = s2) (k : W p l e R s m args below meth c H locs c2 s2 Q g) : W p l e R s m args below meth c H locs cells slots Q g := by subst h1; subst h2; exact k
end MHV
abbrev mh_rm (h mc ms : Nat) : Room := { frames := h, cells := mc, slots := ms, locals := 40 * h }
set_option maxRecDepth 100000 in
theorem ex_IA : mh_ex 8 "java/lang/IllegalArgumentException" 169 := ⟨⟨_, rfl⟩, by decide, by decide +kernel, k147, k14⟩
set_option maxRecDepth 100000 in
theorem ex_IS : mh_ex 9 "java/lang/IllegalStateException" 48 := ⟨⟨_, rfl⟩, by decide, by decide +kernel, k216, k15⟩
set_option maxRecDepth 100000 in
theorem ex_IO : mh_ex 10 "java/lang/IndexOutOfBoundsException" 98 := ⟨⟨_, rfl⟩, by decide, by decide +kernel, k361, k19⟩
set_option maxRecDepth 100000 in
theorem ex_UO : mh_ex 11 "java/lang/UnsupportedOperationException" 188 := ⟨⟨_, rfl⟩, by decide, by decide +kernel, k330, k18⟩
end
section
/-! BITS: a set of keys in four longs; the number of a long's bits -/
theorem pb_bit {w : Int64} {s : UInt64} {j : Nat} (hj : j < 64) (hs : s.toNat = j) : ((w.toUInt64 >>> s).toInt64 &&& 1) = 0 ↔ w.toBitVec.getLsbD j = false := by
  have e : (w.toUInt64 >>> s).toInt64.toBitVec = w.toBitVec >>> j := by
    apply BitVec.eq_of_toNat_eq
    show (w.toUInt64 >>> s).toNat = _
    rw [UInt64.toNat_shiftRight, hs, Nat.mod_eq_of_lt hj, BitVec.toNat_ushiftRight]
    rfl
  rw [← Int64.toBitVec_inj, Int64.toBitVec_and, e]
  show w.toBitVec >>> j &&& 1#64 = 0#64 ↔ _
  constructor
  · intro h
    have t := congrArg (fun x => x.getLsbD 0) h
    simpa using t
  · intro h
    apply BitVec.eq_of_getLsbD_eq
    intro i hi
    rw [BitVec.getLsbD_and, BitVec.getLsbD_ushiftRight]
    cases i with
    | zero => simp [h]
    | succ i => simp
theorem pb_m : ∀ j, j < 64 → ((1 : Int64) <<< ((nI j).toInt64 &&& 63)).toBitVec = BitVec.twoPow 64 j := by decide +kernel
theorem pb_u : ∀ k, k < 64 → ((nI k).toInt64.toUInt64 &&& Int64.toUInt64 63).toNat = k := by decide +kernel
def pb_b (f : Nat → Int64) (j : Nat) : Bool := (f (j / 64)).toBitVec.getLsbD (j % 64)
theorem pb_has (f : Nat → Int64) (k : Nat) : ((((f (k / 64)).toUInt64 >>> ((nI (k % 64)).toInt64.toUInt64 &&& Int64.toUInt64 63)).toInt64 &&& 1) = 0) ↔ pb_b f k = false :=
  pb_bit (Nat.mod_lt _ (by decide)) (pb_u _ (Nat.mod_lt _ (by decide)))
theorem pb_add (f : Nat → Int64) (k j : Nat) : pb_b (vp_updL f (k / 64) (f (k / 64) ||| ((1 : Int64) <<< ((nI (k % 64)).toInt64 &&& 63)))) j = (decide (j = k) || pb_b f j) := by
  have hk := Nat.mod_lt k (show 0 < 64 by decide)
  unfold pb_b vp_updL
  by_cases h : j / 64 = k / 64
  · rw [if_pos h, Int64.toBitVec_or, pb_m _ hk, BitVec.getLsbD_or, BitVec.getLsbD_twoPow, h]
    by_cases h2 : j = k
    · subst h2; simp [hk]
    · have : ¬ (k % 64 = j % 64) := fun z => h2 (by omega)
      simp [this, h2]
  · rw [if_neg h]
    have : j ≠ k := fun z => h (by rw [z])
    simp [this]
theorem pb_del (f : Nat → Int64) (k j : Nat) : pb_b (vp_updL f (k / 64) (f (k / 64) &&& (((1 : Int64) <<< ((nI (k % 64)).toInt64 &&& 63)) ^^^ (-1)))) j = (!decide (j = k) && pb_b f j) := by
  have hk := Nat.mod_lt k (show 0 < 64 by decide)
  have hj := Nat.mod_lt j (show 0 < 64 by decide)
  have ha : (-1 : Int64).toBitVec = BitVec.allOnes 64 := by decide
  unfold pb_b vp_updL
  by_cases h : j / 64 = k / 64
  · rw [if_pos h, Int64.toBitVec_and, Int64.toBitVec_xor, pb_m _ hk, ha, BitVec.getLsbD_and, BitVec.getLsbD_xor, BitVec.getLsbD_twoPow, BitVec.getLsbD_allOnes, h]
    by_cases h2 : j = k
    · subst h2; simp [hk]
    · have : ¬ (k % 64 = j % 64) := fun z => h2 (by omega)
      simp [this, h2, hj]
  · rw [if_neg h]
    have : j ≠ k := fun z => h (by rw [z])
    simp [this]
theorem pb_zero (j : Nat) : pb_b (fun _ => 0) j = false := by simp [pb_b]
/-- how many of the first n are true -/
def pb_cnt (f : Nat → Bool) : Nat → Nat
  | 0 => 0
  | n + 1 => pb_cnt f n + (if f n then 1 else 0)
theorem pb_cnt_le (f : Nat → Bool) (n : Nat) : pb_cnt f n ≤ n := by
  induction n with
  | zero => exact Nat.le_refl 0
  | succ n ih => rw [pb_cnt]; split <;> omega
theorem pb_cnt_congr {f g : Nat → Bool} {n : Nat} (h : ∀ i, i < n → f i = g i) : pb_cnt f n = pb_cnt g n := by
  induction n with
  | zero => rfl
  | succ n ih => rw [pb_cnt, pb_cnt, ih (fun i hi => h i (by omega)), h n (by omega)]
theorem pb_cnt_add (f : Nat → Bool) (a n : Nat) : pb_cnt f (a + n) = pb_cnt f a + pb_cnt (fun i => f (a + i)) n := by
  induction n with
  | zero => rfl
  | succ n ih => rw [← Nat.add_assoc, pb_cnt, pb_cnt, ih]; omega
/-- one more of them is true -/
theorem pb_cnt_up {f : Nat → Bool} {k n : Nat} (hk : k < n) (h : f k = false) : pb_cnt (fun i => decide (i = k) || f i) n = pb_cnt f n + 1 := by
  induction n with
  | zero => omega
  | succ n ih =>
    rw [pb_cnt, pb_cnt]
    by_cases e : n = k
    · subst e
      have : pb_cnt (fun i => decide (i = n) || f i) n = pb_cnt f n := pb_cnt_congr (fun i hi => by simp [Nat.ne_of_lt hi])
      rw [this]
      simp [h]
    · rw [ih (by omega)]
      simp [e]
      omega
/-! the sum of a number's first k bits -/
def pb_pc : Nat → Nat → Nat
  | 0, _ => 0
  | k + 1, n => n % 2 + pb_pc k (n / 2)
theorem pb_pc_cnt (k n : Nat) : pb_pc k n = pb_cnt (fun i => n.testBit i) k := by
  induction k generalizing n with
  | zero => rfl
  | succ k ih =>
    rw [pb_pc, ih, Nat.add_comm k 1, pb_cnt_add]
    have h1 : pb_cnt (fun i => n.testBit i) 1 = n % 2 := by
      rw [pb_cnt, pb_cnt, Nat.testBit_zero]
      rcases Nat.mod_two_eq_zero_or_one n with h | h <;> simp [h]
    rw [h1]
    congr 1
    exact pb_cnt_congr (fun i _ => by rw [Nat.add_comm 1 i, Nat.testBit_add_one])
theorem pb_pc8 (k n : Nat) : pb_pc (8 + k) n = pb_pc 8 (n % 256) + pb_pc k (n / 256) := by
  rw [Nat.add_comm 8 k]
  simp only [pb_pc]
  have e : n / 2 / 2 / 2 / 2 / 2 / 2 / 2 / 2 = n / 256 := by omega
  rw [e]
  omega
def pb_m55 : Nat → Nat | 0 => 0 | k + 1 => 256 * pb_m55 k + 85
def pb_m33 : Nat → Nat | 0 => 0 | k + 1 => 256 * pb_m33 k + 51
def pb_m0f : Nat → Nat | 0 => 0 | k + 1 => 256 * pb_m0f k + 15
theorem pb_and (x y : Nat) : x &&& y = 256 * ((x / 256) &&& (y / 256)) + ((x % 256) &&& (y % 256)) := by
  have h1 : (x &&& y) / 2 ^ 8 = x / 2 ^ 8 &&& y / 2 ^ 8 := Nat.and_div_two_pow
  have h2 : (x &&& y) % 2 ^ 8 = (x % 2 ^ 8) &&& (y % 2 ^ 8) := Nat.and_mod_two_pow
  have h3 := Nat.div_add_mod (x &&& y) (2 ^ 8)
  rw [h1, h2] at h3
  exact h3.symm
theorem pb_and2 (x q d : Nat) (hd : d < 256) : x &&& (256 * q + d) = 256 * ((x / 256) &&& q) + ((x % 256) &&& d) := by
  rw [pb_and, show (256 * q + d) / 256 = q by omega, show (256 * q + d) % 256 = d by omega]
def pb_t1 (r : Nat) : Nat := r - ((r / 2) &&& 85)
def pb_t2 (r : Nat) : Nat := (r &&& 51) + ((r / 4) &&& 51)
def pb_t3 (r : Nat) : Nat := (r + r / 16) &&& 15
def pb_f1 (m x : Nat) : Nat := x - ((x / 2) &&& pb_m55 m)
def pb_f2 (m x : Nat) : Nat := (x &&& pb_m33 m) + ((x / 4) &&& pb_m33 m)
def pb_f3 (m x : Nat) : Nat := (x + x / 16) &&& pb_m0f m
theorem pb_d1 : ∀ u, u < 2 → ∀ v, v < 128 → (128 * u + v) &&& 85 = v &&& 85 := by decide +kernel
theorem pb_d2 : ∀ u, u < 4 → ∀ v, v < 64 → (64 * u + v) &&& 51 = v &&& 51 := by decide +kernel
theorem pb_d3 : ∀ v, v < 256 → v &&& 15 = v % 16 := by decide +kernel
theorem pb_d4 : ∀ r, r < 256 → pb_t3 (pb_t2 (pb_t1 r)) = pb_pc 8 r ∧ pb_t1 r < 256 ∧ pb_t2 (pb_t1 r) ≤ 68 ∧ pb_t2 (pb_t1 r) % 16 ≤ 4 ∧ pb_pc 8 r ≤ 8 := by decide +kernel
theorem pb_f1_step (m q r : Nat) (hr : r < 256) : pb_f1 (m + 1) (256 * q + r) = 256 * pb_f1 m q + pb_t1 r := by
  have e1 : ((256 * q + r) / 2) &&& pb_m55 (m + 1) = 256 * ((q / 2) &&& pb_m55 m) + ((r / 2) &&& 85) := by
    rw [pb_m55, pb_and2 _ _ _ (by decide), show (256 * q + r) / 2 / 256 = q / 2 by omega, show (256 * q + r) / 2 % 256 = 128 * (q % 2) + r / 2 by omega, pb_d1 _ (Nat.mod_lt _ (by decide)) _ (by omega)]
  have h1 : (q / 2) &&& pb_m55 m ≤ q / 2 := Nat.and_le_left
  have h2 : (r / 2) &&& 85 ≤ r / 2 := Nat.and_le_left
  unfold pb_f1 pb_t1
  rw [e1]
  omega
theorem pb_f2_step (m q r : Nat) (hr : r < 256) : pb_f2 (m + 1) (256 * q + r) = 256 * pb_f2 m q + pb_t2 r := by
  have e1 : (256 * q + r) &&& pb_m33 (m + 1) = 256 * (q &&& pb_m33 m) + (r &&& 51) := by
    rw [pb_m33, pb_and2 _ _ _ (by decide), show (256 * q + r) / 256 = q by omega, show (256 * q + r) % 256 = r by omega]
  have e2 : ((256 * q + r) / 4) &&& pb_m33 (m + 1) = 256 * ((q / 4) &&& pb_m33 m) + ((r / 4) &&& 51) := by
    rw [pb_m33, pb_and2 _ _ _ (by decide), show (256 * q + r) / 4 / 256 = q / 4 by omega, show (256 * q + r) / 4 % 256 = 64 * (q % 4) + r / 4 by omega, pb_d2 _ (Nat.mod_lt _ (by decide)) _ (by omega)]
  unfold pb_f2 pb_t2
  rw [e1, e2]
  omega
theorem pb_f3_step (m q r : Nat) (hr : r ≤ 68) (hq : q % 16 ≤ 4) : pb_f3 (m + 1) (256 * q + r) = 256 * pb_f3 m q + pb_t3 r := by
  unfold pb_f3 pb_t3
  rw [pb_m0f, pb_and2 _ _ _ (by decide), show (256 * q + r + (256 * q + r) / 16) / 256 = q + q / 16 by omega, pb_d3 _ (Nat.mod_lt _ (by decide)), pb_d3 _ (by omega)]
  congr 1
  omega
/-- the three steps, byte by byte -/
def pb_S : Nat → Nat → Nat
  | 0, _ => 0
  | m + 1, x => 256 * pb_S m (x / 256) + pb_pc 8 (x % 256)
theorem pb_S_ok (m x : Nat) (hx : x < 256 ^ m) : pb_f3 m (pb_f2 m (pb_f1 m x)) = pb_S m x ∧ pb_f2 m (pb_f1 m x) % 16 ≤ 4 := by
  induction m generalizing x with
  | zero =>
    have : x = 0 := by simpa using hx
    subst this
    decide
  | succ m ih =>
    have hq : x / 256 < 256 ^ m := by rw [Nat.pow_succ] at hx; omega
    have hr : x % 256 < 256 := Nat.mod_lt _ (by decide)
    obtain ⟨i1, i2⟩ := ih (x / 256) hq
    obtain ⟨d1, d2, d3, d4, d5⟩ := pb_d4 (x % 256) hr
    have e : x = 256 * (x / 256) + x % 256 := by omega
    have k1 : pb_f1 (m + 1) x = 256 * pb_f1 m (x / 256) + pb_t1 (x % 256) := by
      have := pb_f1_step m (x / 256) (x % 256) hr
      rw [← e] at this
      exact this
    rw [k1, pb_f2_step _ _ _ d2]
    refine ⟨?_, by omega⟩
    rw [pb_f3_step _ _ _ d3 i2, i1, d1, pb_S]
theorem pb_dv {q r d : Nat} (hr : r < d) : (d * q + r) / d = q := by
  rw [Nat.mul_add_div (by omega), Nat.div_eq_of_lt hr, Nat.add_zero]
theorem pb_bd {q a n : Nat} (hq : q ≤ n) (ha : a ≤ 8) : 256 * q + a ≤ 256 * n + 8 := Nat.add_le_add (Nat.mul_le_mul_left _ hq) ha
theorem pb_q1 {a0 a1 a2 q1 q2 q3 : Nat} (h1 : q1 = 256 * q2 + a1) (h2 : q2 = 256 * q3 + a2) : 256 * q1 + a0 + q1 = 65536 * (q2 + q3) + (256 * (a1 + a2) + (a0 + a1)) := by
  subst h1; subst h2; omega
theorem pb_q2 {a3 a4 a5 q2 q3 q4 q5 a2 : Nat} (h2 : q2 = 256 * q3 + a2) (h3 : q3 = 256 * q4 + a3) (h4 : q4 = 256 * q5 + a4) : q2 + q3 = 65536 * (q4 + q5) + (256 * (a3 + a4) + (a2 + a3)) := by
  subst h2; subst h3; subst h4; omega
theorem pb_q3 {s t a b c d e f g : Nat} (hs : s = 65536 * t + (256 * a + b)) : 65536 * (65536 * s + (256 * c + d)) + (256 * e + f) + (65536 * s + (256 * c + d)) = 4294967296 * (s + t) + (65536 * (256 * (c + a) + (d + b)) + (256 * (e + c) + (f + d))) := by
  subst hs; omega
theorem pb_fold {a0 a1 a2 a3 a4 a5 a6 a7 : Nat} (p0 : a0 ≤ 8) (p1 : a1 ≤ 8) (p2 : a2 ≤ 8) (p3 : a3 ≤ 8) (p4 : a4 ≤ 8) (p5 : a5 ≤ 8) (p6 : a6 ≤ 8) (p7 : a7 ≤ 8) :
    let y := 256 * (256 * (256 * (256 * (256 * (256 * (256 * (256 * 0 + a7) + a6) + a5) + a4) + a3) + a2) + a1) + a0
    y < 18446744073709551616 ∧ y + y / 256 < 18446744073709551616 ∧ y + y / 256 + (y + y / 256) / 65536 < 18446744073709551616 ∧ y + y / 256 + (y + y / 256) / 65536 + (y + y / 256 + (y + y / 256) / 65536) / 4294967296 < 18446744073709551616 ∧
    (y + y / 256 + (y + y / 256) / 65536 + (y + y / 256 + (y + y / 256) / 65536) / 4294967296) % 128 = a0 + (a1 + (a2 + (a3 + (a4 + (a5 + (a6 + a7)))))) := by
  intro y
  obtain ⟨q7, h7⟩ : ∃ q, q = 256 * 0 + a7 := ⟨_, rfl⟩
  obtain ⟨q6, h6⟩ : ∃ q, q = 256 * q7 + a6 := ⟨_, rfl⟩
  obtain ⟨q5, h5⟩ : ∃ q, q = 256 * q6 + a5 := ⟨_, rfl⟩
  obtain ⟨q4, h4⟩ : ∃ q, q = 256 * q5 + a4 := ⟨_, rfl⟩
  obtain ⟨q3, h3⟩ : ∃ q, q = 256 * q4 + a3 := ⟨_, rfl⟩
  obtain ⟨q2, h2⟩ : ∃ q, q = 256 * q3 + a2 := ⟨_, rfl⟩
  obtain ⟨q1, h1⟩ : ∃ q, q = 256 * q2 + a1 := ⟨_, rfl⟩
  have hy : y = 256 * q1 + a0 := by rw [h1, h2, h3, h4, h5, h6, h7]
  clear_value y
  have b7 : q7 ≤ 8 := by rw [h7]; exact pb_bd (n := 0) (Nat.le_refl 0) p7
  have b6 : q6 ≤ 2056 := by rw [h6]; exact pb_bd b7 p6
  have b5 : q5 ≤ 526344 := by rw [h5]; exact pb_bd b6 p5
  have b4 : q4 ≤ 134744072 := by rw [h4]; exact pb_bd b5 p4
  have b3 : q3 ≤ 34494482440 := by rw [h3]; exact pb_bd b4 p3
  have b2 : q2 ≤ 8830587504648 := by rw [h2]; exact pb_bd b3 p2
  have b1 : q1 ≤ 2260630401189896 := by rw [h1]; exact pb_bd b2 p1
  have b0 : y ≤ 578721382704613384 := by rw [hy]; exact pb_bd b1 p0
  have e1 : y / 256 = q1 := by rw [hy]; exact pb_dv (by clear h1 h2 h3 h4 h5 h6 h7 hy; omega)
  rw [e1]
  have hu2 : y + q1 = 65536 * (q2 + q3) + (256 * (a1 + a2) + (a0 + a1)) := by rw [hy]; exact pb_q1 h1 h2
  have e4 : q2 + q3 = 65536 * (q4 + q5) + (256 * (a3 + a4) + (a2 + a3)) := pb_q2 (a5 := 0) h2 h3 h4
  have e5 : q4 + q5 = 65536 * (q6 + q7) + (256 * (a5 + a6) + (a4 + a5)) := pb_q2 (a5 := 0) h4 h5 h6
  obtain ⟨u, hu⟩ : ∃ u, u = y + q1 := ⟨_, rfl⟩
  have bu : u ≤ 580982013105803280 := by rw [hu]; exact Nat.add_le_add b0 b1
  rw [← hu] at hu2 ⊢
  have e2 : u / 65536 = q2 + q3 := by rw [hu2]; exact pb_dv (by clear h1 h2 h3 h4 h5 h6 h7 hy hu hu2 e4 e5 b0 b1 b2 b3 b4 b5 b6 b7 bu; omega)
  rw [e2]
  have hv2 : u + (q2 + q3) = 4294967296 * ((q4 + q5) + (q6 + q7)) + (65536 * (256 * ((a3 + a4) + (a5 + a6)) + ((a2 + a3) + (a4 + a5))) + (256 * ((a1 + a2) + (a3 + a4)) + ((a0 + a1) + (a2 + a3)))) := by
    rw [hu2, e4]
    exact pb_q3 (g := 0) e5
  obtain ⟨v, hv⟩ : ∃ v, v = u + (q2 + q3) := ⟨_, rfl⟩
  have bv : v ≤ 580990878187790368 := by rw [hv]; exact Nat.le_trans (Nat.add_le_add bu (Nat.add_le_add b2 b3)) (by decide)
  rw [← hv] at hv2 ⊢
  have e3 : v / 4294967296 = (q4 + q5) + (q6 + q7) := by rw [hv2]; exact pb_dv (by clear h1 h2 h3 h4 h5 h6 h7 hy hu hu2 hv hv2 e1 e2 e4 e5 b0 b1 b2 b3 b4 b5 b6 b7 bu bv; omega)
  rw [e3]
  have bt : (q4 + q5) + (q6 + q7) ≤ 135272480 := Nat.le_trans (Nat.add_le_add (Nat.add_le_add b4 b5) (Nat.add_le_add b6 b7)) (by decide)
  refine ⟨Nat.lt_of_le_of_lt b0 (by decide), Nat.lt_of_le_of_lt bu (by decide), Nat.lt_of_le_of_lt bv (by decide), Nat.lt_of_le_of_lt (Nat.add_le_add bv bt) (by decide), ?_⟩
  have hm : (v + ((q4 + q5) + (q6 + q7))) % 256 = (a0 + (a1 + (a2 + (a3 + (a4 + (a5 + (a6 + a7))))))) % 256 := by
    have m7 : q7 % 256 = a7 % 256 := by rw [h7]; simp
    have m6 : q6 % 256 = a6 % 256 := by rw [h6, Nat.mul_add_mod]
    have m5 : q5 % 256 = a5 % 256 := by rw [h5, Nat.mul_add_mod]
    have m4 : q4 % 256 = a4 % 256 := by rw [h4, Nat.mul_add_mod]
    have mv : v % 256 = ((a0 + a1) + (a2 + a3)) % 256 := by
      rw [hv2]
      clear hv2 h1 h2 h3 h4 h5 h6 h7 hy hu hu2 hv e1 e2 e3 e4 e5 b0 b1 b2 b3 b4 b5 b6 b7 bu bv bt m4 m5 m6 m7
      omega
    clear hv2 h1 h2 h3 h4 h5 h6 h7 hy hu hu2 hv e1 e2 e3 e4 e5 b0 b1 b2 b3 b4 b5 b6 b7 bu bv bt
    omega
  clear hv2 h1 h2 h3 h4 h5 h6 h7 hy hu hu2 hv e1 e2 e3 e4 e5 b0 b1 b2 b3 b4 b5 b6 b7 bu bv bt
  omega
theorem pb_sum (n : Nat) (hn : n < 18446744073709551616) : ∃ y, pb_f3 8 (pb_f2 8 (pb_f1 8 n)) = y ∧ y < 18446744073709551616 ∧ (y + y / 256) < 18446744073709551616 ∧ (y + y / 256 + (y + y / 256) / 65536) < 18446744073709551616 ∧
    (y + y / 256 + (y + y / 256) / 65536 + (y + y / 256 + (y + y / 256) / 65536) / 4294967296) < 18446744073709551616 ∧
    (y + y / 256 + (y + y / 256) / 65536 + (y + y / 256 + (y + y / 256) / 65536) / 4294967296) % 128 = pb_pc 64 n := by
  obtain ⟨h1, -⟩ := pb_S_ok 8 n hn
  refine ⟨_, rfl, ?_⟩
  rw [h1]
  have hp : ∀ r, r < 256 → pb_pc 8 r ≤ 8 := fun r hr => (pb_d4 r hr).2.2.2.2
  have g : ∀ z : Nat, z % 256 < 256 := fun z => Nat.mod_lt _ (by decide)
  have p0 := hp _ (g n)
  have p1 := hp _ (g (n / 256))
  have p2 := hp _ (g (n / 256 / 256))
  have p3 := hp _ (g (n / 256 / 256 / 256))
  have p4 := hp _ (g (n / 256 / 256 / 256 / 256))
  have p5 := hp _ (g (n / 256 / 256 / 256 / 256 / 256))
  have p6 := hp _ (g (n / 256 / 256 / 256 / 256 / 256 / 256))
  have p7 := hp _ (g (n / 256 / 256 / 256 / 256 / 256 / 256 / 256))
  have e : pb_pc 64 n = pb_pc 8 (n % 256) + (pb_pc 8 (n / 256 % 256) + (pb_pc 8 (n / 256 / 256 % 256) + (pb_pc 8 (n / 256 / 256 / 256 % 256) + (pb_pc 8 (n / 256 / 256 / 256 / 256 % 256) + (pb_pc 8 (n / 256 / 256 / 256 / 256 / 256 % 256) + (pb_pc 8 (n / 256 / 256 / 256 / 256 / 256 / 256 % 256) + (pb_pc 8 (n / 256 / 256 / 256 / 256 / 256 / 256 / 256 % 256)))))))) := by
    rw [show 64 = 8 + 56 from rfl, pb_pc8, show 56 = 8 + 48 from rfl, pb_pc8, show 48 = 8 + 40 from rfl, pb_pc8, show 40 = 8 + 32 from rfl, pb_pc8, show 32 = 8 + 24 from rfl, pb_pc8, show 24 = 8 + 16 from rfl, pb_pc8, show 16 = 8 + 8 from rfl, pb_pc8, show pb_pc 8 (n / 256 / 256 / 256 / 256 / 256 / 256 / 256) = pb_pc (8 + 0) (n / 256 / 256 / 256 / 256 / 256 / 256 / 256) from rfl, pb_pc8]
    rfl
  rw [e]
  simp only [pb_S]
  generalize pb_pc 8 (n % 256) = a0 at *
  generalize pb_pc 8 (n / 256 % 256) = a1 at *
  generalize pb_pc 8 (n / 256 / 256 % 256) = a2 at *
  generalize pb_pc 8 (n / 256 / 256 / 256 % 256) = a3 at *
  generalize pb_pc 8 (n / 256 / 256 / 256 / 256 % 256) = a4 at *
  generalize pb_pc 8 (n / 256 / 256 / 256 / 256 / 256 % 256) = a5 at *
  generalize pb_pc 8 (n / 256 / 256 / 256 / 256 / 256 / 256 % 256) = a6 at *
  generalize pb_pc 8 (n / 256 / 256 / 256 / 256 / 256 / 256 / 256 % 256) = a7 at *
  clear h1 hp g e hn
  exact pb_fold p0 p1 p2 p3 p4 p5 p6 p7
/-! the same over longs -/
def pb_N (x : Int64) : Nat := x.toUInt64.toNat
theorem pb_N_lt (x : Int64) : pb_N x < 18446744073709551616 := x.toUInt64.toNat_lt
theorem pb_N_add (x y : Int64) : pb_N (x + y) = (pb_N x + pb_N y) % 18446744073709551616 := by
  show (x.toUInt64 + y.toUInt64).toNat = _
  exact UInt64.toNat_add _ _
theorem pb_N_sub {x y : Int64} (h : pb_N y ≤ pb_N x) : pb_N (x - y) = pb_N x - pb_N y := by
  show (x.toUInt64 - y.toUInt64).toNat = _
  rw [UInt64.toNat_sub]
  have hx := pb_N_lt x
  have hy := pb_N_lt y
  show (2 ^ 64 - pb_N y + pb_N x) % 2 ^ 64 = _
  omega
theorem pb_N_and (x y : Int64) : pb_N (x &&& y) = pb_N x &&& pb_N y := by
  show (x.toUInt64 &&& y.toUInt64).toNat = _
  exact UInt64.toNat_and _ _
theorem pb_N_shr (x : Int64) {k : Nat} (hk : k < 64) : pb_N (x.toUInt64 >>> ((nI k).toInt64.toUInt64 &&& Int64.toUInt64 63)).toInt64 = pb_N x / 2 ^ k := by
  show (x.toUInt64 >>> _).toNat = _
  rw [UInt64.toNat_shiftRight, pb_u k hk, Nat.mod_eq_of_lt hk, Nat.shiftRight_eq_div_pow]
  rfl
theorem pb_N_bit (x : Int64) (i : Nat) : (pb_N x).testBit i = x.toBitVec.getLsbD i := rfl
end
section
/-! THE STORE AS A VALUE: what both sides hold -/
/-- an intention: (server, snapshot, level); the keys read; its parts (how many, lows, highs); its writes (how many, keys, numbers); is it good -/
abbrev st_I : Type := (Nat × Nat × Nat) × (Nat → Bool) × (Nat × (Nat → Nat) × (Nat → Nat)) × (Nat × (Nat → Nat) × (Nat → Option Int64)) × Bool
abbrev iv_sv (x : st_I) : Nat := x.1.1
abbrev iv_sn (x : st_I) : Nat := x.1.2.1
abbrev iv_lv (x : st_I) : Nat := x.1.2.2
abbrev iv_rd (x : st_I) : Nat → Bool := x.2.1
abbrev iv_np (x : st_I) : Nat := x.2.2.1.1
abbrev iv_lo (x : st_I) : Nat → Nat := x.2.2.1.2.1
abbrev iv_hi (x : st_I) : Nat → Nat := x.2.2.1.2.2
abbrev iv_nw (x : st_I) : Nat := x.2.2.2.1.1
abbrev iv_wk (x : st_I) : Nat → Nat := x.2.2.2.1.2.1
abbrev iv_wv (x : st_I) : Nat → Option Int64 := x.2.2.2.1.2.2
abbrev iv_gd (x : st_I) : Bool := x.2.2.2.2
/-- the place of a key among the first n, or n -/
def st_pl (wk : Nat → Nat) (key : Nat) : Nat → Nat
  | 0 => 0
  | n + 1 => if st_pl wk key n < n then st_pl wk key n else if wk n = key then n else n + 1
theorem st_pl_le (wk : Nat → Nat) (key n : Nat) : st_pl wk key n ≤ n := by
  induction n with
  | zero => exact Nat.le_refl 0
  | succ n ih =>
    rw [st_pl]
    split
    · omega
    · split <;> omega
theorem st_pl_uniq {wk : Nat → Nat} {key i n : Nat} (h1 : i ≤ n) (h2 : ∀ j, j < i → wk j ≠ key) (h3 : i < n → wk i = key) : st_pl wk key n = i := by
  induction n generalizing i with
  | zero => rw [st_pl]; omega
  | succ n ih =>
    rw [st_pl]
    by_cases hi : i ≤ n
    · by_cases hl : i < n
      · rw [ih (by omega) h2 (fun _ => h3 (by omega)), if_pos hl]
      · have e : i = n := by omega
        subst e
        rw [ih (Nat.le_refl _) h2 (fun z => absurd z (by omega)), if_neg (by omega), if_pos (h3 (by omega))]
    · have e : i = n + 1 := by omega
      subst e
      rw [ih (Nat.le_refl n) (fun j hj => h2 j (by omega)) (fun z => absurd z (by omega)), if_neg (by omega), if_neg (h2 n (by omega))]
theorem st_pl_ne {wk : Nat → Nat} {key n j : Nat} (h : j < st_pl wk key n) : wk j ≠ key := by
  induction n with
  | zero => rw [st_pl] at h; omega
  | succ n ih =>
    rw [st_pl] at h
    have hle := st_pl_le wk key n
    split at h
    · exact ih h
    · rename_i h0
      have e : st_pl wk key n = n := by omega
      split at h
      · exact ih (by omega)
      · rename_i h1
        by_cases hj : j = n
        · subst hj; exact h1
        · exact ih (by omega)
theorem st_pl_at {wk : Nat → Nat} {key n : Nat} (h : st_pl wk key n < n) : wk (st_pl wk key n) = key := by
  induction n with
  | zero => omega
  | succ n ih =>
    rw [st_pl] at h ⊢
    split at h
    · rename_i h0; rw [if_pos h0]; exact ih h0
    · rename_i h0
      rw [if_neg h0]
      split at h
      · rename_i h1; rw [if_pos h1]; exact h1
      · omega
theorem st_pl_congr {wk wk' : Nat → Nat} {key n : Nat} (h : ∀ j, j < n → wk j = wk' j) : st_pl wk key n = st_pl wk' key n := by
  induction n with
  | zero => rfl
  | succ n ih => rw [st_pl, st_pl, ih (fun j hj => h j (by omega)), h n (by omega)]
def st_any (f : Nat → Bool) : Nat → Bool
  | 0 => false
  | n + 1 => st_any f n || f n
theorem st_any_iff {f : Nat → Bool} {n : Nat} : st_any f n = true ↔ ∃ i, i < n ∧ f i = true := by
  induction n with
  | zero => simp [st_any]
  | succ n ih =>
    rw [st_any, Bool.or_eq_true, ih]
    constructor
    · rintro (⟨i, h1, h2⟩ | h)
      · exact ⟨i, by omega, h2⟩
      · exact ⟨n, by omega, h⟩
    · rintro ⟨i, h1, h2⟩
      by_cases e : i = n
      · subst e; exact Or.inr h2
      · exact Or.inl ⟨i, by omega, h2⟩
theorem st_any_false {f : Nat → Bool} {n : Nat} (h : ∀ i, i < n → f i = false) : st_any f n = false := by
  cases e : st_any f n with
  | false => rfl
  | true =>
    obtain ⟨i, h1, h2⟩ := st_any_iff.mp e
    rw [h i h1] at h2; cases h2
theorem st_any_true {f : Nat → Bool} {n i : Nat} (hi : i < n) (h : f i = true) : st_any f n = true := st_any_iff.mpr ⟨i, hi, h⟩
/-- the first n writes, over a state -/
def st_aw (wk : Nat → Nat) (wv : Nat → Option Int64) (st : Nat → Option Int64) : Nat → Nat → Option Int64
  | 0 => st
  | n + 1 => va_up (st_aw wk wv st n) (wk n) (wv n)
/-- what has been written by the first m of the log -/
def st_st (log : Nat → st_I) : Nat → Nat → Option Int64
  | 0 => fun _ => none
  | m + 1 => if iv_gd (log m) = true then st_aw (iv_wk (log m)) (iv_wv (log m)) (st_st log m) (iv_nw (log m)) else st_st log m
/-- the last of the first m that is good and writes the key -/
def st_lw (log : Nat → st_I) (key : Nat) : Nat → Int32
  | 0 => -1
  | m + 1 => if iv_gd (log m) = true ∧ st_pl (iv_wk (log m)) key (iv_nw (log m)) < iv_nw (log m) then nI m else st_lw log key m
def st_rd (x : st_I) (key : Nat) : Bool := st_any (fun i => decide (iv_lo x i ≤ key) && decide (key ≤ iv_hi x i)) (iv_np x) || iv_rd x key
def st_ht (x y : st_I) : Bool := st_any (fun j => if iv_lv x = 0 then st_rd x (iv_wk y j) else decide (st_pl (iv_wk x) (iv_wk y j) (iv_nw x) < iv_nw x)) (iv_nw y)
/-- can it be done, behind the first n of the log -/
def st_ok (log : Nat → st_I) (x : st_I) (n : Nat) : Bool := !(st_any (fun k => decide (iv_sn x ≤ k) && (iv_gd (log k) && st_ht x (log k))) n)
/-- what is told of m keys from low on: how many, the sum, the least, the greatest -/
def tl_n (st : Nat → Option Int64) (low : Nat) (m : Nat) : Nat := pb_cnt (fun i => (st (low + i)).isSome) m
def tl_s (st : Nat → Option Int64) (low : Nat) : Nat → Int64
  | 0 => 0
  | m + 1 => match st (low + m) with
    | some v => tl_s st low m + v
    | none => tl_s st low m
def tl_l (st : Nat → Option Int64) (low : Nat) : Nat → Option Nat
  | 0 => none
  | m + 1 => match tl_l st low m with
    | some k => some k
    | none => if (st (low + m)).isSome = true then some (low + m) else none
def tl_g (st : Nat → Option Int64) (low : Nat) : Nat → Option Nat
  | 0 => none
  | m + 1 => if (st (low + m)).isSome = true then some (low + m) else tl_g st low m
/-- -1, or the number -/
def tl_i (o : Option Nat) : Int32 := match o with
  | some k => nI k
  | none => -1
def tl_a (st : Nat → Option Int64) (low m : Nat) (what : Int32) : Int64 :=
  if what = 0 then lN (tl_n st low m) else if what = 1 then tl_s st low m else if what = 2 then (tl_i (tl_l st low m)).toInt64 else (tl_i (tl_g st low m)).toInt64
/-- the whole: the log (how many, which), how far each server has gone, the drafts, how many restarts -/
abbrev st_G : Type := (Nat × (Nat → st_I)) × (Nat → Nat) × (Nat → Option st_I) × Nat
abbrev sg_n (g : st_G) : Nat := g.1.1
abbrev sg_lg (g : st_G) : Nat → st_I := g.1.2
abbrev sg_at (g : st_G) : Nat → Nat := g.2.1
abbrev sg_dr (g : st_G) : Nat → Option st_I := g.2.2.1
abbrev sg_rs (g : st_G) : Nat := g.2.2.2
/-- what holds of every intention in the store of n logged -/
def iv_ok (n : Nat) (x : st_I) : Prop := iv_sv x < 4 ∧ iv_sn x ≤ n ∧ iv_lv x < 2 ∧ iv_np x ≤ 8 ∧ iv_nw x ≤ 8 ∧ (∀ i, i < iv_np x → iv_lo x i ≤ iv_hi x i ∧ iv_hi x i < 256) ∧ (∀ i, i < iv_nw x → iv_wk x i < 256) ∧ ∀ i j, i < iv_nw x → j < iv_nw x → iv_wk x i = iv_wk x j → i = j
def sg_ok (g : st_G) : Prop := sg_n g ≤ 400 ∧ sg_rs g ≤ 4 ∧ (∀ s, s < 4 → sg_at g s ≤ sg_n g) ∧ (∀ k, k < sg_n g → iv_ok k (sg_lg g k)) ∧ ∀ t x, t < 16 → sg_dr g t = some x → iv_ok (sg_n g) x
/-- what a transaction sees -/
def st_vw (log : Nat → st_I) (x : st_I) : Nat → Option Int64 := st_aw (iv_wk x) (iv_wv x) (st_st log (iv_sn x)) (iv_nw x)
/-- a write: over the key's own, or behind the last -/
def st_wr (x : st_I) (key : Nat) (v : Option Int64) : st_I :=
  (x.1, x.2.1, x.2.2.1, (max (iv_nw x) (st_pl (iv_wk x) key (iv_nw x) + 1), va_up (iv_wk x) (st_pl (iv_wk x) key (iv_nw x)) key, va_up (iv_wv x) (st_pl (iv_wk x) key (iv_nw x)) v), x.2.2.2.2)
def st_new (s n lv : Nat) : st_I := ((s, n, lv), (fun _ => false), (0, (fun _ => 0), (fun _ => 0)), (0, (fun _ => 0), (fun _ => none)), false)
def st_get (x : st_I) (key : Nat) : st_I := if st_pl (iv_wk x) key (iv_nw x) < iv_nw x then x else (x.1, (fun j => decide (j = key) || iv_rd x j), x.2.2)
def st_prt (x : st_I) (low high : Nat) : st_I := (x.1, x.2.1, (iv_np x + 1, va_up (iv_lo x) (iv_np x) low, va_up (iv_hi x) (iv_np x) high), x.2.2.2)
theorem st_aw_eq {wk : Nat → Nat} {wv : Nat → Option Int64} {st : Nat → Option Int64} {n : Nat} (hd : ∀ i j, i < n → j < n → wk i = wk j → i = j) (key : Nat) : st_aw wk wv st n key = if st_pl wk key n < n then wv (st_pl wk key n) else st key := by
  induction n with
  | zero => rfl
  | succ n ih =>
    have ih := ih (fun i j hi hj => hd i j (by omega) (by omega))
    rw [st_aw]
    by_cases e : key = wk n
    · subst e
      rw [va_up_self]
      have : st_pl wk (wk n) (n + 1) = n := st_pl_uniq (by omega) (fun j hj z => by have := hd j n (by omega) (by omega) z; omega) (fun _ => rfl)
      rw [this, if_pos (by omega)]
    · rw [va_up_ne _ _ e, ih, st_pl]
      have hle := st_pl_le wk key n
      by_cases h : st_pl wk key n < n
      · rw [if_pos h, if_pos h, if_pos (by omega)]
      · rw [if_neg h, if_neg h, if_neg (show ¬ wk n = key from fun z => e z.symm), if_neg (Nat.lt_irrefl _)]
theorem st_aw_congr {wk wk' : Nat → Nat} {wv wv' : Nat → Option Int64} {st : Nat → Option Int64} {n : Nat} (h1 : ∀ i, i < n → wk i = wk' i) (h2 : ∀ i, i < n → wv i = wv' i) : st_aw wk wv st n = st_aw wk' wv' st n := by
  induction n with
  | zero => rfl
  | succ n ih => rw [st_aw, st_aw, ih (fun i hi => h1 i (by omega)) (fun i hi => h2 i (by omega)), h1 n (by omega), h2 n (by omega)]
theorem st_st_congr {log log' : Nat → st_I} {m : Nat} (h : ∀ k, k < m → log k = log' k) : st_st log m = st_st log' m := by
  induction m with
  | zero => rfl
  | succ m ih => rw [st_st, st_st, ih (fun k hk => h k (by omega)), h m (by omega)]
theorem st_lw_congr {log log' : Nat → st_I} {key m : Nat} (h : ∀ k, k < m → log k = log' k) : st_lw log key m = st_lw log' key m := by
  induction m with
  | zero => rfl
  | succ m ih => rw [st_lw, st_lw, ih (fun k hk => h k (by omega)), h m (by omega)]
theorem st_wr_pl {x : st_I} {key : Nat} {v : Option Int64} : st_pl (iv_wk (st_wr x key v)) key (iv_nw (st_wr x key v)) = st_pl (iv_wk x) key (iv_nw x) := by
  refine st_pl_uniq (Nat.le_trans (by omega) (Nat.le_max_right _ _)) (fun j hj => ?_) (fun _ => ?_)
  · show va_up (iv_wk x) _ key j ≠ key
    rw [va_up_ne _ _ (by omega)]
    exact st_pl_ne hj
  · exact va_up_self _ _ _
theorem st_wr_wk {x : st_I} {key : Nat} {v : Option Int64} (h : st_pl (iv_wk x) key (iv_nw x) < iv_nw x) (j : Nat) : iv_wk (st_wr x key v) j = iv_wk x j := by
  show va_up (iv_wk x) _ key j = _
  by_cases e : j = st_pl (iv_wk x) key (iv_nw x)
  · rw [e, va_up_self, st_pl_at h]
  · rw [va_up_ne _ _ e]
theorem st_wr_nw1 {x : st_I} {key : Nat} {v : Option Int64} (h : st_pl (iv_wk x) key (iv_nw x) < iv_nw x) : iv_nw (st_wr x key v) = iv_nw x := by
  show max _ _ = _
  omega
theorem st_wr_nw2 {x : st_I} {key : Nat} {v : Option Int64} (h : ¬ st_pl (iv_wk x) key (iv_nw x) < iv_nw x) : iv_nw (st_wr x key v) = iv_nw x + 1 := by
  have := st_pl_le (iv_wk x) key (iv_nw x)
  show max _ _ = _
  omega
theorem st_wr_ok {n : Nat} {x : st_I} {key : Nat} {v : Option Int64} (h : iv_ok n x) (hk : key < 256) (h8 : st_pl (iv_wk x) key (iv_nw x) < 8) : iv_ok n (st_wr x key v) := by
  obtain ⟨h1, h2, h3, h4, h5, h6, h7, h9⟩ := h
  have hle := st_pl_le (iv_wk x) key (iv_nw x)
  refine ⟨h1, h2, h3, h4, ?_, h6, ?_, ?_⟩
  · show max _ _ ≤ 8
    omega
  · by_cases hp : st_pl (iv_wk x) key (iv_nw x) < iv_nw x
    · intro i hi
      rw [st_wr_nw1 hp] at hi
      rw [st_wr_wk hp]
      exact h7 i hi
    · intro i hi
      rw [st_wr_nw2 hp] at hi
      show va_up (iv_wk x) _ key i < 256
      by_cases e : i = st_pl (iv_wk x) key (iv_nw x)
      · rw [e, va_up_self]; exact hk
      · rw [va_up_ne _ _ e]; exact h7 i (by omega)
  · by_cases hp : st_pl (iv_wk x) key (iv_nw x) < iv_nw x
    · intro i j hi hj e
      rw [st_wr_nw1 hp] at hi hj
      rw [st_wr_wk hp, st_wr_wk hp] at e
      exact h9 i j hi hj e
    · intro i j hi hj e
      rw [st_wr_nw2 hp] at hi hj
      have ep : st_pl (iv_wk x) key (iv_nw x) = iv_nw x := by omega
      have hn : ∀ z, z < iv_nw x → iv_wk x z ≠ key := fun z hz => st_pl_ne (n := iv_nw x) (by omega)
      have ha : ∀ z, z < iv_nw x → iv_wk (st_wr x key v) z = iv_wk x z := fun z hz => va_up_ne _ _ (by omega)
      have hb : iv_wk (st_wr x key v) (iv_nw x) = key := by
        show va_up (iv_wk x) (st_pl (iv_wk x) key (iv_nw x)) key (iv_nw x) = key
        rw [ep, va_up_self]
      by_cases ei : i = iv_nw x
      · by_cases ej : j = iv_nw x
        · rw [ei, ej]
        · rw [ei, hb, ha j (by omega)] at e
          exact absurd e.symm (hn j (by omega))
      · by_cases ej : j = iv_nw x
        · rw [ej, hb, ha i (by omega)] at e
          exact absurd e (hn i (by omega))
        · rw [ha i (by omega), ha j (by omega)] at e
          exact h9 i j (by omega) (by omega) e
theorem st_wr_vw {n : Nat} {x : st_I} {key : Nat} {v : Option Int64} (log : Nat → st_I) (h : iv_ok n x) (hk : key < 256) (h8 : st_pl (iv_wk x) key (iv_nw x) < 8) : st_vw log (st_wr x key v) = va_up (st_vw log x) key v := by
  have hd := h.2.2.2.2.2.2.2
  have hd' := (st_wr_ok (v := v) h hk h8).2.2.2.2.2.2.2
  have hle := st_pl_le (iv_wk x) key (iv_nw x)
  funext j
  unfold st_vw
  rw [st_aw_eq hd']
  by_cases e : j = key
  · subst e
    rw [va_up_self, st_wr_pl, if_pos]
    · exact va_up_self _ _ _
    · show _ < max _ _
      omega
  · rw [va_up_ne _ _ e, st_aw_eq hd]
    show (if st_pl (iv_wk (st_wr x key v)) j (iv_nw (st_wr x key v)) < iv_nw (st_wr x key v) then iv_wv (st_wr x key v) (st_pl (iv_wk (st_wr x key v)) j (iv_nw (st_wr x key v))) else st_st log (iv_sn x) j) = _
    by_cases hp : st_pl (iv_wk x) key (iv_nw x) < iv_nw x
    · rw [st_wr_nw1 hp, st_pl_congr (wk' := iv_wk x) (fun z _ => st_wr_wk hp z)]
      by_cases hq : st_pl (iv_wk x) j (iv_nw x) < iv_nw x
      · rw [if_pos hq, if_pos hq]
        refine va_up_ne _ _ (fun z => e ?_)
        have q1 := st_pl_at hq
        rw [z, st_pl_at hp] at q1
        exact q1.symm
      · rw [if_neg hq, if_neg hq]
    · have ep : st_pl (iv_wk x) key (iv_nw x) = iv_nw x := by omega
      rw [st_wr_nw2 hp, st_pl, st_pl_congr (wk := iv_wk (st_wr x key v)) (n := iv_nw x) (wk' := iv_wk x) (fun z hz => va_up_ne _ _ (by omega))]
      have hb : iv_wk (st_wr x key v) (iv_nw x) = key := by
        show va_up (iv_wk x) (st_pl (iv_wk x) key (iv_nw x)) key (iv_nw x) = key
        rw [ep, va_up_self]
      rw [hb, if_neg (show ¬ key = j from fun z => e z.symm)]
      have hle2 := st_pl_le (iv_wk x) j (iv_nw x)
      by_cases hq : st_pl (iv_wk x) j (iv_nw x) < iv_nw x
      · rw [if_pos hq, if_pos (by omega), if_pos hq]
        exact va_up_ne _ _ (by omega)
      · rw [if_neg hq, if_neg (by omega), if_neg hq]
theorem st_get_vw (log : Nat → st_I) (x : st_I) (key : Nat) : st_vw log (st_get x key) = st_vw log x := by
  unfold st_get
  split <;> rfl
theorem st_get_ok {n : Nat} {x : st_I} {key : Nat} (h : iv_ok n x) : iv_ok n (st_get x key) := by
  unfold st_get
  split <;> exact h
theorem st_prt_ok {n : Nat} {x : st_I} {low high : Nat} (h : iv_ok n x) (h1 : low ≤ high) (h2 : high < 256) (h3 : iv_np x < 8) : iv_ok n (st_prt x low high) := by
  obtain ⟨a1, a2, a3, a4, a5, a6, a7, a8⟩ := h
  refine ⟨a1, a2, a3, h3, a5, fun i hi => ?_, a7, a8⟩
  have hi : i < iv_np x + 1 := hi
  show va_up (iv_lo x) (iv_np x) low i ≤ va_up (iv_hi x) (iv_np x) high i ∧ va_up (iv_hi x) (iv_np x) high i < 256
  by_cases e : i = iv_np x
  · rw [e, va_up_self, va_up_self]; exact ⟨h1, h2⟩
  · rw [va_up_ne _ _ e, va_up_ne _ _ e]; exact a6 i (by omega)
theorem st_new_ok {s n lv m : Nat} (h1 : s < 4) (h2 : n ≤ m) (h3 : lv < 2) : iv_ok m (st_new s n lv) :=
  ⟨h1, h2, h3, Nat.zero_le 8, Nat.zero_le 8, fun i hi => absurd hi (Nat.not_lt_zero i), fun i hi => absurd hi (Nat.not_lt_zero i), fun i j hi => absurd hi (Nat.not_lt_zero i)⟩
theorem st_ok_congr {log log' : Nat → st_I} {x : st_I} {n : Nat} (h : ∀ k, k < n → log k = log' k) : st_ok log x n = st_ok log' x n := by
  unfold st_ok
  congr 1
  induction n with
  | zero => rfl
  | succ n ih => rw [st_any, st_any, ih (fun k hk => h k (by omega)), h n (by omega)]
/-! WHAT EACH CALL DOES: (code, answer, the store behind it); code 0: it returns; else which exception -/
def st_in (v : Int32) (n : Nat) : Bool := decide (¬ v < 0) && decide (v < nI n)
theorem st_in_of {v : Int32} {n : Nat} (hn : n < 2 ^ 31) (h : st_in v n = true) : ∃ j, j < n ∧ v = nI j := by
  simp only [st_in, Bool.and_eq_true, decide_eq_true_eq] at h
  rcases pk_ix v hn with h1 | h1 | h1
  · exact absurd h1 h.1
  · exact absurd h.2 (Int32.not_lt.mpr h1)
  · exact h1
theorem st_in_nI {j n : Nat} (h : j < n) (hn : n < 2 ^ 31) : st_in (nI j) n = true := by
  simp only [st_in, Bool.and_eq_true, decide_eq_true_eq]
  exact ⟨nI_pos (by omega), nI_lt h hn⟩
theorem st_in_no {v : Int32} {n : Nat} (h : v < 0 ∨ nI n ≤ v) : st_in v n = false := by
  cases e : st_in v n with
  | false => rfl
  | true =>
    simp only [st_in, Bool.and_eq_true, decide_eq_true_eq] at e
    rcases h with h | h
    · exact absurd h e.1
    · exact absurd e.2 (Int32.not_lt.mpr h)
abbrev sp_R : Type := Nat × Int64 × st_G
def sp_begin (g : st_G) (t s l : Int32) : sp_R :=
  if (st_in t 16 && (st_in s 4 && st_in l 2)) = true then
    match sg_dr g t.toNatClampNeg with
    | some _ => (2, 0, g)
    | none => (0, 0, (g.1, g.2.1, va_up (sg_dr g) t.toNatClampNeg (some (st_new s.toNatClampNeg (sg_at g s.toNatClampNeg) l.toNatClampNeg)), g.2.2.2))
  else (1, 0, g)
def sp_get (g : st_G) (t key : Int32) : sp_R :=
  if (st_in t 16 && st_in key 256) = true then
    match sg_dr g t.toNatClampNeg with
    | none => (2, 0, g)
    | some x => match st_vw (sg_lg g) x key.toNatClampNeg with
      | none => (3, 0, (g.1, g.2.1, va_up (sg_dr g) t.toNatClampNeg (some (st_get x key.toNatClampNeg)), g.2.2.2))
      | some v => (0, v, (g.1, g.2.1, va_up (sg_dr g) t.toNatClampNeg (some (st_get x key.toNatClampNeg)), g.2.2.2))
  else (1, 0, g)
def sp_write (g : st_G) (t key : Int32) (v : Option Int64) : sp_R :=
  if (st_in t 16 && st_in key 256) = true then
    match sg_dr g t.toNatClampNeg with
    | none => (2, 0, g)
    | some x => if st_pl (iv_wk x) key.toNatClampNeg (iv_nw x) < 8 then (0, lN (iv_nw (st_wr x key.toNatClampNeg v)), (g.1, g.2.1, va_up (sg_dr g) t.toNatClampNeg (some (st_wr x key.toNatClampNeg v)), g.2.2.2)) else (3, 0, g)
  else (1, 0, g)
/-- low, high, what of a part -/
def sp_pt (low high what : Int32) : Bool := st_in high 256 && (st_in low 256 && (decide (low ≤ high) && st_in what 4))
def sp_part (g : st_G) (t low high what : Int32) : sp_R :=
  if (st_in t 16 && sp_pt low high what) = true then
    match sg_dr g t.toNatClampNeg with
    | none => (2, 0, g)
    | some x => if iv_np x < 8 then (0, tl_a (st_vw (sg_lg g) x) low.toNatClampNeg (high.toNatClampNeg + 1 - low.toNatClampNeg) what, (g.1, g.2.1, va_up (sg_dr g) t.toNatClampNeg (some (st_prt x low.toNatClampNeg high.toNatClampNeg)), g.2.2.2)) else (3, 0, g)
  else (1, 0, g)
/-- it comes into the log -/
def st_lgd (g : st_G) (x : st_I) : st_I := (x.1, x.2.1, x.2.2.1, x.2.2.2.1, st_ok (sg_lg g) x (sg_n g))
def sp_commit (g : st_G) (t : Int32) : sp_R :=
  if st_in t 16 = true then
    match sg_dr g t.toNatClampNeg with
    | none => (2, 0, g)
    | some x => if iv_nw x = 0 then (0, -1, (g.1, g.2.1, va_up (sg_dr g) t.toNatClampNeg none, g.2.2.2))
      else if sg_n g < 400 then (0, lN (sg_n g), ((sg_n g + 1, va_up (sg_lg g) (sg_n g) (st_lgd g x)), g.2.1, va_up (sg_dr g) t.toNatClampNeg none, g.2.2.2)) else (3, 0, g)
  else (1, 0, g)
def sp_abort (g : st_G) (t : Int32) : sp_R :=
  if st_in t 16 = true then
    match sg_dr g t.toNatClampNeg with
    | none => (2, 0, g)
    | some _ => (0, 0, (g.1, g.2.1, va_up (sg_dr g) t.toNatClampNeg none, g.2.2.2))
  else (1, 0, g)
def sp_advance (g : st_G) (s n : Int32) : sp_R :=
  if (st_in s 4 && st_in n 401) = true then
    (0, lN (min n.toNatClampNeg (sg_n g - sg_at g s.toNatClampNeg)), (g.1, va_up (sg_at g) s.toNatClampNeg (sg_at g s.toNatClampNeg + min n.toNatClampNeg (sg_n g - sg_at g s.toNatClampNeg)), g.2.2))
  else (1, 0, g)
def sp_restart (g : st_G) (s : Int32) : sp_R :=
  if st_in s 4 = true then
    if sg_rs g < 4 then (0, 0, (g.1, va_up (sg_at g) s.toNatClampNeg 0, (fun t => match sg_dr g t with | some x => if iv_sv x = s.toNatClampNeg then none else some x | none => none), sg_rs g + 1)) else (2, 0, g)
  else (1, 0, g)
def sp_state (g : st_G) (s key : Int32) : sp_R :=
  if (st_in s 4 && st_in key 256) = true then
    match st_st (sg_lg g) (sg_at g s.toNatClampNeg) key.toNatClampNeg with
    | none => (2, 0, g)
    | some v => (0, v, g)
  else (1, 0, g)
def sp_look (g : st_G) (s low high what : Int32) : sp_R :=
  if (st_in s 4 && sp_pt low high what) = true then
    (0, tl_a (st_st (sg_lg g) (sg_at g s.toNatClampNeg)) low.toNatClampNeg (high.toNatClampNeg + 1 - low.toNatClampNeg) what, g)
  else (1, 0, g)
def sp_verdict (g : st_G) (s k : Int32) : sp_R :=
  if st_in s 4 = true then
    if st_in k (sg_n g) = true then (0, (if sg_at g s.toNatClampNeg ≤ k.toNatClampNeg then 0 else if iv_gd (sg_lg g k.toNatClampNeg) = true then 1 else 2), g) else (2, 0, g)
  else (1, 0, g)
def sp_tell (x : st_I) (what : Int32) : Nat :=
  if what = 0 then iv_sn x else if what = 1 then iv_lv x else if what = 2 then pb_cnt (iv_rd x) 256 else if what = 3 then iv_np x else if what = 4 then iv_nw x else iv_sv x
def sp_intention (g : st_G) (k what : Int32) : sp_R :=
  if st_in what 6 = true then
    if st_in k (sg_n g) = true then (0, lN (sp_tell (sg_lg g k.toNatClampNeg) what), g) else (2, 0, g)
  else (1, 0, g)
def sp_count (g : st_G) (what k j : Int32) : sp_R :=
  if st_in what 5 = true then
    if what = 0 then (0, lN (sg_n g), g)
    else if what = 1 then (0, lN (pb_cnt (fun t => (sg_dr g t).isSome) 16), g)
    else if st_in k 4 = true then
      if what = 2 then (0, lN (sg_at g k.toNatClampNeg), g)
      else if what = 3 then (0, lN (pb_cnt (fun i => iv_gd (sg_lg g i)) (sg_at g k.toNatClampNeg)), g)
      else if st_in j 256 = true then (0, (st_lw (sg_lg g) j.toNatClampNeg (sg_at g k.toNatClampNeg)).toInt64, g)
      else (1, 0, g)
    else (1, 0, g)
  else (1, 0, g)
def st_G0 : st_G := ((0, fun _ => st_new 0 0 0), (fun _ => 0), (fun _ => none), 0)
end
section
/-! ROWS FOR WALKS: numbers as nI n, truth values as mh_b, calls that return or throw -/
def mh_b (x : Bool) : Int32 := match x with | true => 1 | false => 0
theorem mh_b_eq0 {x : Bool} : mh_b x = 0 ↔ x = false := by cases x <;> decide
theorem mh_b_ne0 {x : Bool} : ¬ mh_b x = 0 ↔ x = true := by cases x <;> decide
theorem mh_b_nar (x : Bool) : narrow .boolean (.int (mh_b x)) = .int (mh_b x) := by cases x <;> rfl
theorem mh_b_fit (x : Bool) : fits .boolean (.int (mh_b x)) = true := by cases x <;> rfl
theorem mh_b_vn (x : Bool) : vp_nar .boolean (mh_b x) = mh_b x := by cases x <;> rfl
theorem mh_inc (a : Nat) : nI a + Int32.ofInt 1 = nI (a + 1) := (nI_1 a)
theorem mh_dec (x : Int32) : x + Int32.ofInt (-1) = x - 1 := (Int32.sub_eq_add_neg x 1).symm
abbrev mh_V (v : Option Value) (Φ : mh_w → Prop) : Outcome → mh_w → Prop := fun o w' => o = .returned v ∧ Φ w'
abbrev mh_T (ci : Nat) (Φ : mh_w → Prop) : Outcome → mh_w → Prop := fun o w' => ∃ q : Nat, o = .threw q ∧ w' 99 0 = some (q, .inr (ci, [])) ∧ Φ w'
theorem mh_kp {w : mh_w} {k i k' i' : Nat} {q r : Option (Nat × va_E)} (h : w k' i' = r) (hne : ¬ (k' = k ∧ i' = i)) : mh_set w k i q k' i' = r := (mh_set_ne w k i q hne).trans h
theorem mh_self {D : va_G} {b : Nat} {w : mh_w} {k i : Nat} {q : Option (Nat × va_E)} {H : Heap} (_ : mh_P D b (mh_set w k i q) H) : mh_set w k i q k i = q := mh_set_eq w k i q
theorem mh_mmax {x y : Nat} (hx : x < 2 ^ 31) (hy : y < 2 ^ 31) : (if nI x < nI y then nI y else nI x) = nI (max x y) := by
  by_cases h : x < y
  · rw [if_pos ((nI_ltI hx hy).mpr h), show max x y = y by omega]
  · rw [if_neg (fun q => h ((nI_ltI hx hy).mp q)), show max x y = x by omega]
theorem mh_mmin {x y : Nat} (hx : x < 2 ^ 31) (hy : y < 2 ^ 31) : (if nI y < nI x then nI y else nI x) = nI (min x y) := by
  by_cases h : y < x
  · rw [if_pos ((nI_ltI hy hx).mpr h), show min x y = y by omega]
  · rw [if_neg (fun q => h ((nI_ltI hy hx).mp q)), show min x y = x by omega]
section MHN
variable {p : Program} {l : Launch} {e : Env} {R : Room} {s : State} {m : MethodId} {args : Array Value} {below : List Frame} {meth : Method} {c : Code} {H : Heap} {locs : List Loc} {cells slots : Nat} {Q : State → Prop}
variable {cc : ByteArray} {pc : Nat} {ls : Array Slot} {rest : List Value} {own : String} {b : Nat} {dC : Nat → ClassId} {dI : Nat → Nat → Nat} {dA : Nat → ClassId} {zs : Nat → Nat} {w w0 : mh_w} {k i a : Nat}
theorem mh_addN (hx : p.tables.exec = Jvm.exec) (hb : c.code = cc) {x y : Nat} (hdg : decode cc pc = .ok (.iadd, 1)) (kk : W p l e R s m args below meth c H locs cells slots Q (F0 m (pc + 1) ls (.int (nI (x + y)) :: rest))) : W p l e R s m args below meth c H locs cells slots Q (F0 m pc ls (.int (nI y) :: .int (nI x) :: rest)) :=
  lv_iadd hx hb hdg (by rw [nI_add]; exact kk)
theorem mh_subN (hx : p.tables.exec = Jvm.exec) (hb : c.code = cc) {x y : Nat} (h : y ≤ x) (hdg : decode cc pc = .ok (.isub, 1)) (kk : W p l e R s m args below meth c H locs cells slots Q (F0 m (pc + 1) ls (.int (nI (x - y)) :: rest))) : W p l e R s m args below meth c H locs cells slots Q (F0 m pc ls (.int (nI y) :: .int (nI x) :: rest)) :=
  lv_isub hx hb hdg (by rw [pk_sub h]; exact kk)
theorem mh_divN (hx : p.tables.exec = Jvm.exec) (hb : c.code = cc) {x y : Nat} (h : x < 2 ^ 31) (h0 : 0 < y) (h2 : y < 2 ^ 31) (hdg : decode cc pc = .ok (.idiv, 1)) (kk : W p l e R s m args below meth c H locs cells slots Q (F0 m (pc + 1) ls (.int (nI (x / y)) :: rest))) : W p l e R s m args below meth c H locs cells slots Q (F0 m pc ls (.int (nI y) :: .int (nI x) :: rest)) :=
  lv_idiv hx hb hdg (nI_ne0 h0 h2) (by rw [pk_div h h0 h2]; exact kk)
theorem mh_remN (hx : p.tables.exec = Jvm.exec) (hb : c.code = cc) {x y : Nat} (h : x < 2 ^ 31) (h0 : 0 < y) (h2 : y < 2 ^ 31) (hdg : decode cc pc = .ok (.irem, 1)) (kk : W p l e R s m args below meth c H locs cells slots Q (F0 m (pc + 1) ls (.int (nI (x % y)) :: rest))) : W p l e R s m args below meth c H locs cells slots Q (F0 m pc ls (.int (nI y) :: .int (nI x) :: rest)) :=
  lv_irem hx hb hdg (nI_ne0 h0 h2) (by rw [pk_rem h h0 h2]; exact kk)
theorem mh_ialdN (K0 : mh_K0 p s m args c own cc dC dI dA) (hX : mh_P (dC, dI) b w H) {n : Nat} {f : Nat → Int32} (h : w k i = some (a, .inl (dA 0, n, .inl f))) {j : Nat} (hj : j < n) (hn : n < 2 ^ 31) (hdg : decode cc pc = .ok (.iaload, 1))
    (kk : W p l e R s m args below meth c H locs cells slots Q (F0 m (pc + 1) ls (.int (f j) :: rest))) : W p l e R s m args below meth c H locs cells slots Q (F0 m pc ls (.int (nI j) :: .ref a :: rest)) :=
  mh_iald K0 hX h (vp_in_nI hj hn) hdg (by rw [nI_clamp (by omega)]; exact kk)
theorem mh_laldN (K0 : mh_K0 p s m args c own cc dC dI dA) (hX : mh_P (dC, dI) b w H) {n : Nat} {f : Nat → Int64} (h : w k i = some (a, .inl (dA 1, n, .inr (.inl f)))) {j : Nat} (hj : j < n) (hn : n < 2 ^ 31) (hdg : decode cc pc = .ok (.laload, 1))
    (kk : W p l e R s m args below meth c H locs cells slots Q (F0 m (pc + 1) ls (.long (f j) :: rest))) : W p l e R s m args below meth c H locs cells slots Q (F0 m pc ls (.int (nI j) :: .ref a :: rest)) :=
  mh_lald K0 hX h (vp_in_nI hj hn) hdg (by rw [nI_clamp (by omega)]; exact kk)
theorem mh_zaldN (K0 : mh_K0 p s m args c own cc dC dI dA) (hX : mh_P (dC, dI) b w H) {n : Nat} {f : Nat → Int32} (h : w k i = some (a, .inl (dA 2, n, .inl f))) {j : Nat} (hj : j < n) (hn : n < 2 ^ 31) (hdg : decode cc pc = .ok (.baload, 1))
    (kk : W p l e R s m args below meth c H locs cells slots Q (F0 m (pc + 1) ls (.int (f j) :: rest))) : W p l e R s m args below meth c H locs cells slots Q (F0 m pc ls (.int (nI j) :: .ref a :: rest)) :=
  mh_zald K0 hX h (vp_in_nI hj hn) hdg (by rw [nI_clamp (by omega)]; exact kk)
theorem mh_aaldN (t : Nat) {C : String} (ht : (mh_tys dA)[t]? = some (dA t, .object C)) (K0 : mh_K0 p s m args c own cc dC dI dA) (hX : mh_P (dC, dI) b w H) {n : Nat} {f : Nat → Option Nat} (h : w k i = some (a, .inl (dA t, n, .inr (.inr (.inr (.inr f)))))) {j : Nat} (hj : j < n) (hn : n < 2 ^ 31) {r : Option Nat} (hr : f j = r) (hdg : decode cc pc = .ok (.aaload, 1))
    (kk : W p l e R s m args below meth c H locs cells slots Q (F0 m (pc + 1) ls (va_rf r :: rest))) : W p l e R s m args below meth c H locs cells slots Q (F0 m pc ls (.int (nI j) :: .ref a :: rest)) :=
  mh_aald t ht K0 hX h (vp_in_nI hj hn) (by rw [nI_clamp (by omega)]; exact hr) hdg kk
theorem mh_iastN (K0 : mh_K0 p s m args c own cc dC dI dA) (hX : mh_P (dC, dI) b w H) (hS : va_S (mh_A b) s.heap H locs) {n : Nat} {f : Nat → Int32} (h : w k i = some (a, .inl (dA 0, n, .inl f))) {j : Nat} {v : Int32} (hj : j < n) (hn : n < 2 ^ 31) (hdg : decode cc pc = .ok (.iastore, 1))
    (kk : ∀ (H1 : Heap) (locs1 : List Loc), mh_P (dC, dI) b (mh_set w k i (some (a, .inl (dA 0, n, .inl (upd f j v))))) H1 → va_S (mh_A b) s.heap H1 locs1 → W p l e R s m args below meth c H1 locs1 cells slots Q (F0 m (pc + 1) ls rest)) : W p l e R s m args below meth c H locs cells slots Q (F0 m pc ls (.int v :: .int (nI j) :: .ref a :: rest)) :=
  mh_iast K0 hX hS h (vp_in_nI hj hn) hdg (by rw [nI_clamp (by omega)]; exact kk)
theorem mh_zastN (K0 : mh_K0 p s m args c own cc dC dI dA) (hX : mh_P (dC, dI) b w H) (hS : va_S (mh_A b) s.heap H locs) {n : Nat} {f : Nat → Int32} (h : w k i = some (a, .inl (dA 2, n, .inl f))) {j : Nat} {v : Int32} (hv : vp_nar .boolean v = v) (hj : j < n) (hn : n < 2 ^ 31) (hdg : decode cc pc = .ok (.bastore, 1))
    (kk : ∀ (H1 : Heap) (locs1 : List Loc), mh_P (dC, dI) b (mh_set w k i (some (a, .inl (dA 2, n, .inl (upd f j v))))) H1 → va_S (mh_A b) s.heap H1 locs1 → W p l e R s m args below meth c H1 locs1 cells slots Q (F0 m (pc + 1) ls rest)) : W p l e R s m args below meth c H locs cells slots Q (F0 m pc ls (.int v :: .int (nI j) :: .ref a :: rest)) :=
  mh_zast K0 hX hS h hv (vp_in_nI hj hn) hdg (by rw [nI_clamp (by omega)]; exact kk)
theorem mh_lastN (K0 : mh_K0 p s m args c own cc dC dI dA) (hX : mh_P (dC, dI) b w H) (hS : va_S (mh_A b) s.heap H locs) {n : Nat} {f : Nat → Int64} (h : w k i = some (a, .inl (dA 1, n, .inr (.inl f)))) {j : Nat} {v : Int64} (hj : j < n) (hn : n < 2 ^ 31) (hdg : decode cc pc = .ok (.lastore, 1))
    (kk : ∀ (H1 : Heap) (locs1 : List Loc), mh_P (dC, dI) b (mh_set w k i (some (a, .inl (dA 1, n, .inr (.inl (vp_updL f j v)))))) H1 → va_S (mh_A b) s.heap H1 locs1 → W p l e R s m args below meth c H1 locs1 cells slots Q (F0 m (pc + 1) ls rest)) : W p l e R s m args below meth c H locs cells slots Q (F0 m pc ls (.long v :: .int (nI j) :: .ref a :: rest)) :=
  mh_last K0 hX hS h (vp_in_nI hj hn) hdg (by rw [nI_clamp (by omega)]; exact kk)
theorem mh_aastNN (t : Nat) {C : String} (ht : (mh_tys dA)[t]? = some (dA t, .object C)) (K0 : mh_K0 p s m args c own cc dC dI dA) (hX : mh_P (dC, dI) b w H) (hS : va_S (mh_A b) s.heap H locs) {n : Nat} {f : Nat → Option Nat} (h : w k i = some (a, .inl (dA t, n, .inr (.inr (.inr (.inr f)))))) {j : Nat} (hj : j < n) (hn : n < 2 ^ 31) (hdg : decode cc pc = .ok (.aastore, 1))
    (kk : ∀ (H1 : Heap) (locs1 : List Loc), mh_P (dC, dI) b (mh_set w k i (some (a, .inl (dA t, n, .inr (.inr (.inr (.inr (va_up f j none)))))))) H1 → va_S (mh_A b) s.heap H1 locs1 → W p l e R s m args below meth c H1 locs1 cells slots Q (F0 m (pc + 1) ls rest)) : W p l e R s m args below meth c H locs cells slots Q (F0 m pc ls (.null :: .int (nI j) :: .ref a :: rest)) :=
  mh_aastN t ht K0 hX hS h (vp_in_nI hj hn) hdg (by rw [nI_clamp (by omega)]; exact kk)
theorem mh_aastX (t : Nat) {k2 i2 v ci : Nat} {vs : List Value} {r : vw_C} (ht : (mh_tys dA)[t]? = some (dA t, .object r.1)) (hc : classes[ci]? = some r) (K0 : mh_K0 p s m args c own cc dC dI dA) (hX : mh_P (dC, dI) b w H) (hS : va_S (mh_A b) s.heap H locs) {n : Nat} {f : Nat → Option Nat} (h : w k i = some (a, .inl (dA t, n, .inr (.inr (.inr (.inr f)))))) (hv : w k2 i2 = some (v, .inr (ci, vs))) {j : Nat} (hj : j < n) (hn : n < 2 ^ 31) (hdg : decode cc pc = .ok (.aastore, 1))
    (kk : ∀ (H1 : Heap) (locs1 : List Loc), mh_P (dC, dI) b (mh_set w k i (some (a, .inl (dA t, n, .inr (.inr (.inr (.inr (va_up f j (some v))))))))) H1 → va_S (mh_A b) s.heap H1 locs1 → W p l e R s m args below meth c H1 locs1 cells slots Q (F0 m (pc + 1) ls rest)) : W p l e R s m args below meth c H locs cells slots Q (F0 m pc ls (.ref v :: .int (nI j) :: .ref a :: rest)) :=
  mh_aast t ht hc K0 hX hS h hv (vp_in_nI hj hn) hdg (by rw [nI_clamp (by omega)]; exact kk)
/-- branches on truth values -/
theorem mh_ifeqB (hx : p.tables.exec = Jvm.exec) (hb : c.code = cc) {x : Bool} {off : Int} {tgt : Nat} (hdg : decode cc pc = .ok (.ifCond .eq off, 3)) (ht : (pc : Int) + off = (tgt : Int)) (kt : x = false → W p l e R s m args below meth c H locs cells slots Q (F0 m tgt ls rest)) (kf : x = true → W p l e R s m args below meth c H locs cells slots Q (F0 m (pc + 3) ls rest)) : W p l e R s m args below meth c H locs cells slots Q (F0 m pc ls (.int (mh_b x) :: rest)) :=
  lv_if_eq hx hb hdg ht (fun z => kt (mh_b_eq0.mp z)) (fun z => kf (mh_b_ne0.mp z))
theorem mh_ifneB (hx : p.tables.exec = Jvm.exec) (hb : c.code = cc) {x : Bool} {off : Int} {tgt : Nat} (hdg : decode cc pc = .ok (.ifCond .ne off, 3)) (ht : (pc : Int) + off = (tgt : Int)) (kt : x = true → W p l e R s m args below meth c H locs cells slots Q (F0 m tgt ls rest)) (kf : x = false → W p l e R s m args below meth c H locs cells slots Q (F0 m (pc + 3) ls rest)) : W p l e R s m args below meth c H locs cells slots Q (F0 m pc ls (.int (mh_b x) :: rest)) :=
  lv_if_ne hx hb hdg ht (fun z => kt (mh_b_ne0.mp z)) (fun z => kf (mh_b_eq0.mp z))
/-- a call that returns v -/
theorem mh_callV {y : MethodName} {rm : Room} {av st0 : List Value} {v : Option Value} {Φ : mh_w → Prop} (site : mh_Site p l e R s m args below meth c H locs cells slots (F0 m pc ls st0) rest y av) (hM : mh_Met l b dC dI dA zs y rm av w (mh_V v Φ)) (K0 : mh_K0 p s m args c own cc dC dI dA) (hOK : mh_OK b dC dI dA zs w0 s)
    {nL : Nat} (hml : c.maxLocals = nL) (hsz : ls.size = nL) {cY : ByteArray} {nY : Nat} {rY : Option FieldType} {hsY : List (Nat × Nat × Nat × Nat)} {n : Nat} (C0 : mh_cee y cY nY rY hsY n) (hX : mh_P (dC, dI) b w H) (hS : va_S (mh_A b) s.heap H locs) {ig : Instr} (hdg : decode cc pc = .ok (ig, 3))
    (hfr : rm.frames + 1 ≤ R.frames) (hW9 : (rest.map fun v => v.category).sum ≤ 8) (hlo : 8 + (nY + 11) + rm.locals ≤ R.locals) (h4 : cells + rm.cells ≤ R.cells) (h5 : slots + rm.slots ≤ R.slots)
    (kk : ∀ (w' : mh_w) (H1 : Heap) (locs1 : List Loc), Φ w' → mh_P (dC, dI) b w' H1 → va_S (mh_A b) s.heap H1 locs1 → W p l e R s m args below meth c H1 locs1 (cells + rm.cells) (slots + rm.slots) Q (F0 m (pc + 3) ls (v.toList ++ rest))) :
    W p l e R s m args below meth c H locs cells slots Q (F0 m pc ls st0) := by
  refine mh_call site hM K0 hOK hml hsz C0 hX hS hdg hfr hW9 hlo h4 h5 (fun q w' H1 locs1 hP => ?_) (fun v' w' H1 locs1 hP hX' hS' => ?_)
  · cases hP.1
  · have e := hP.1
    cases e
    exact kk w' H1 locs1 hP.2 hX' hS'
/-- .. and leaves the world as it is -/
theorem mh_callR {y : MethodName} {rm : Room} {av st0 : List Value} {v : Option Value} (site : mh_Site p l e R s m args below meth c H locs cells slots (F0 m pc ls st0) rest y av) (hM : mh_Met l b dC dI dA zs y rm av w (mh_V v (fun w' => w' = w))) (K0 : mh_K0 p s m args c own cc dC dI dA) (hOK : mh_OK b dC dI dA zs w0 s)
    {nL : Nat} (hml : c.maxLocals = nL) (hsz : ls.size = nL) {cY : ByteArray} {nY : Nat} {rY : Option FieldType} {hsY : List (Nat × Nat × Nat × Nat)} {n : Nat} (C0 : mh_cee y cY nY rY hsY n) (hX : mh_P (dC, dI) b w H) (hS : va_S (mh_A b) s.heap H locs) {ig : Instr} (hdg : decode cc pc = .ok (ig, 3))
    (hfr : rm.frames + 1 ≤ R.frames) (hW9 : (rest.map fun v => v.category).sum ≤ 8) (hlo : 8 + (nY + 11) + rm.locals ≤ R.locals) (h4 : cells + rm.cells ≤ R.cells) (h5 : slots + rm.slots ≤ R.slots)
    (kk : ∀ (H1 : Heap) (locs1 : List Loc), mh_P (dC, dI) b w H1 → va_S (mh_A b) s.heap H1 locs1 → W p l e R s m args below meth c H1 locs1 (cells + rm.cells) (slots + rm.slots) Q (F0 m (pc + 3) ls (v.toList ++ rest))) :
    W p l e R s m args below meth c H locs cells slots Q (F0 m pc ls st0) :=
  mh_callV site hM K0 hOK hml hsz C0 hX hS hdg hfr hW9 hlo h4 h5 (fun w' H1 locs1 hw hX' hS' => by subst hw; exact kk H1 locs1 hX' hS')
/-- a call that throws -/
theorem mh_callT {y : MethodName} {rm : Room} {av st0 : List Value} {ci : Nat} {Φ : mh_w → Prop} (site : mh_Site p l e R s m args below meth c H locs cells slots (F0 m pc ls st0) rest y av) (hM : mh_Met l b dC dI dA zs y rm av w (mh_T ci Φ)) (K0 : mh_K0 p s m args c own cc dC dI dA) (hOK : mh_OK b dC dI dA zs w0 s)
    {nL : Nat} (hml : c.maxLocals = nL) (hsz : ls.size = nL) {cY : ByteArray} {nY : Nat} {rY : Option FieldType} {hsY : List (Nat × Nat × Nat × Nat)} {n : Nat} (C0 : mh_cee y cY nY rY hsY n) (hX : mh_P (dC, dI) b w H) (hS : va_S (mh_A b) s.heap H locs) {ig : Instr} (hdg : decode cc pc = .ok (ig, 3))
    (hfr : rm.frames + 1 ≤ R.frames) (hW9 : (rest.map fun v => v.category).sum ≤ 8) (hlo : 8 + (nY + 11) + rm.locals ≤ R.locals) (h4 : cells + rm.cells ≤ R.cells) (h5 : slots + rm.slots ≤ R.slots)
    (kx : ∀ (q : Nat) (w' : mh_w) (H1 : Heap) (locs1 : List Loc), w' 99 0 = some (q, .inr (ci, [])) → Φ w' → mh_P (dC, dI) b w' H1 → va_S (mh_A b) s.heap H1 locs1 → mh_X p l e R s m args below meth c H1 locs1 (cells + rm.cells) (slots + rm.slots) Q (F0 m pc ls rest) q) :
    W p l e R s m args below meth c H locs cells slots Q (F0 m pc ls st0) := by
  refine mh_call site hM K0 hOK hml hsz C0 hX hS hdg hfr hW9 hlo h4 h5 (fun q w' H1 locs1 hP hX' hS' => ?_) (fun v' w' H1 locs1 hP hX' hS' => ?_)
  · obtain ⟨q', e1, e2, e3⟩ := hP
    cases e1
    exact kx q w' H1 locs1 e2 e3 hX' hS'
  · obtain ⟨q', e1, -⟩ := hP
    cases e1
end MHN
section MHB
variable {p : Program} {l : Launch} {e : Env} {R : Room} {s : State} {m : MethodId} {args : Array Value} {below : List Frame} {meth : Method} {c : Code} {H : Heap} {locs : List Loc} {cells slots : Nat} {Q : State → Prop}
variable {cc : ByteArray} {pc : Nat} {ls : Array Slot} {rest : List Value}
theorem mh_icmp_eq (hx : p.tables.exec = Jvm.exec) (hb : c.code = cc) {x y : Nat} (hxx : x < 2 ^ 31) (hyy : y < 2 ^ 31) {off : Int} {tgt : Nat} (hdg : decode cc pc = .ok (.if_icmp .eq off, 3)) (ht : (pc : Int) + off = (tgt : Int)) (kt : x = y → W p l e R s m args below meth c H locs cells slots Q (F0 m tgt ls rest)) (kf : ¬ x = y → W p l e R s m args below meth c H locs cells slots Q (F0 m (pc + 3) ls rest)) : W p l e R s m args below meth c H locs cells slots Q (F0 m pc ls (.int (nI y) :: .int (nI x) :: rest)) :=
  lv_icmp_eq hx hb hdg ht (fun z => kt ((nI_eq hxx hyy).mp z)) (fun z => kf (fun q => z ((nI_eq hxx hyy).mpr q)))
theorem mh_if_eq (hx : p.tables.exec = Jvm.exec) (hb : c.code = cc) {x : Nat} (hxx : x < 2 ^ 31) {off : Int} {tgt : Nat} (hdg : decode cc pc = .ok (.ifCond .eq off, 3)) (ht : (pc : Int) + off = (tgt : Int)) (kt : x = 0 → W p l e R s m args below meth c H locs cells slots Q (F0 m tgt ls rest)) (kf : ¬ x = 0 → W p l e R s m args below meth c H locs cells slots Q (F0 m (pc + 3) ls rest)) : W p l e R s m args below meth c H locs cells slots Q (F0 m pc ls (.int (nI x) :: rest)) :=
  lv_if_eq hx hb hdg ht (fun z => kt ((nI_eq hxx (by decide)).mp z)) (fun z => kf (fun q => z (by rw [q]; rfl)))
theorem mh_icmp_ne (hx : p.tables.exec = Jvm.exec) (hb : c.code = cc) {x y : Nat} (hxx : x < 2 ^ 31) (hyy : y < 2 ^ 31) {off : Int} {tgt : Nat} (hdg : decode cc pc = .ok (.if_icmp .ne off, 3)) (ht : (pc : Int) + off = (tgt : Int)) (kt : ¬ x = y → W p l e R s m args below meth c H locs cells slots Q (F0 m tgt ls rest)) (kf : x = y → W p l e R s m args below meth c H locs cells slots Q (F0 m (pc + 3) ls rest)) : W p l e R s m args below meth c H locs cells slots Q (F0 m pc ls (.int (nI y) :: .int (nI x) :: rest)) :=
  lv_icmp_ne hx hb hdg ht (fun z => kt (fun q => z ((nI_eq hxx hyy).mpr q))) (fun z => kf ((nI_eq hxx hyy).mp z))
theorem mh_if_ne (hx : p.tables.exec = Jvm.exec) (hb : c.code = cc) {x : Nat} (hxx : x < 2 ^ 31) {off : Int} {tgt : Nat} (hdg : decode cc pc = .ok (.ifCond .ne off, 3)) (ht : (pc : Int) + off = (tgt : Int)) (kt : ¬ x = 0 → W p l e R s m args below meth c H locs cells slots Q (F0 m tgt ls rest)) (kf : x = 0 → W p l e R s m args below meth c H locs cells slots Q (F0 m (pc + 3) ls rest)) : W p l e R s m args below meth c H locs cells slots Q (F0 m pc ls (.int (nI x) :: rest)) :=
  lv_if_ne hx hb hdg ht (fun z => kt (fun q => z (by rw [q]; rfl))) (fun z => kf ((nI_eq hxx (by decide)).mp z))
theorem mh_icmp_lt (hx : p.tables.exec = Jvm.exec) (hb : c.code = cc) {x y : Nat} (hxx : x < 2 ^ 31) (hyy : y < 2 ^ 31) {off : Int} {tgt : Nat} (hdg : decode cc pc = .ok (.if_icmp .lt off, 3)) (ht : (pc : Int) + off = (tgt : Int)) (kt : x < y → W p l e R s m args below meth c H locs cells slots Q (F0 m tgt ls rest)) (kf : y ≤ x → W p l e R s m args below meth c H locs cells slots Q (F0 m (pc + 3) ls rest)) : W p l e R s m args below meth c H locs cells slots Q (F0 m pc ls (.int (nI y) :: .int (nI x) :: rest)) :=
  lv_icmp_lt hx hb hdg ht (fun z => kt ((nI_ltI hxx hyy).mp z)) (fun z => kf (Nat.not_lt.mp (fun u => z ((nI_ltI hxx hyy).mpr u))))
theorem mh_if_lt (hx : p.tables.exec = Jvm.exec) (hb : c.code = cc) {x : Nat} (hxx : x < 2 ^ 31) {off : Int} {tgt : Nat} (hdg : decode cc pc = .ok (.ifCond .lt off, 3)) (ht : (pc : Int) + off = (tgt : Int)) (kt : x < 0 → W p l e R s m args below meth c H locs cells slots Q (F0 m tgt ls rest)) (kf : 0 ≤ x → W p l e R s m args below meth c H locs cells slots Q (F0 m (pc + 3) ls rest)) : W p l e R s m args below meth c H locs cells slots Q (F0 m pc ls (.int (nI x) :: rest)) :=
  lv_if_lt hx hb hdg ht (fun z => kt ((nI_ltI hxx (b := 0) (by decide)).mp z)) (fun z => kf (Nat.not_lt.mp (fun u => z ((nI_ltI hxx (b := 0) (by decide)).mpr u))))
theorem mh_icmp_ge (hx : p.tables.exec = Jvm.exec) (hb : c.code = cc) {x y : Nat} (hxx : x < 2 ^ 31) (hyy : y < 2 ^ 31) {off : Int} {tgt : Nat} (hdg : decode cc pc = .ok (.if_icmp .ge off, 3)) (ht : (pc : Int) + off = (tgt : Int)) (kt : y ≤ x → W p l e R s m args below meth c H locs cells slots Q (F0 m tgt ls rest)) (kf : x < y → W p l e R s m args below meth c H locs cells slots Q (F0 m (pc + 3) ls rest)) : W p l e R s m args below meth c H locs cells slots Q (F0 m pc ls (.int (nI y) :: .int (nI x) :: rest)) :=
  lv_icmp_ge hx hb hdg ht (fun z => kt ((nI_leI hyy hxx).mp z)) (fun z => kf (Nat.not_le.mp (fun u => z ((nI_leI hyy hxx).mpr u))))
theorem mh_if_ge (hx : p.tables.exec = Jvm.exec) (hb : c.code = cc) {x : Nat} (hxx : x < 2 ^ 31) {off : Int} {tgt : Nat} (hdg : decode cc pc = .ok (.ifCond .ge off, 3)) (ht : (pc : Int) + off = (tgt : Int)) (kt : 0 ≤ x → W p l e R s m args below meth c H locs cells slots Q (F0 m tgt ls rest)) (kf : x < 0 → W p l e R s m args below meth c H locs cells slots Q (F0 m (pc + 3) ls rest)) : W p l e R s m args below meth c H locs cells slots Q (F0 m pc ls (.int (nI x) :: rest)) :=
  lv_if_ge hx hb hdg ht (fun z => kt ((nI_leI (a := 0) (by decide) hxx).mp z)) (fun z => kf (Nat.not_le.mp (fun u => z ((nI_leI (a := 0) (by decide) hxx).mpr u))))
theorem mh_icmp_gt (hx : p.tables.exec = Jvm.exec) (hb : c.code = cc) {x y : Nat} (hxx : x < 2 ^ 31) (hyy : y < 2 ^ 31) {off : Int} {tgt : Nat} (hdg : decode cc pc = .ok (.if_icmp .gt off, 3)) (ht : (pc : Int) + off = (tgt : Int)) (kt : y < x → W p l e R s m args below meth c H locs cells slots Q (F0 m tgt ls rest)) (kf : x ≤ y → W p l e R s m args below meth c H locs cells slots Q (F0 m (pc + 3) ls rest)) : W p l e R s m args below meth c H locs cells slots Q (F0 m pc ls (.int (nI y) :: .int (nI x) :: rest)) :=
  lv_icmp_gt hx hb hdg ht (fun z => kt ((nI_ltI hyy hxx).mp z)) (fun z => kf (Nat.not_lt.mp (fun u => z ((nI_ltI hyy hxx).mpr u))))
theorem mh_if_gt (hx : p.tables.exec = Jvm.exec) (hb : c.code = cc) {x : Nat} (hxx : x < 2 ^ 31) {off : Int} {tgt : Nat} (hdg : decode cc pc = .ok (.ifCond .gt off, 3)) (ht : (pc : Int) + off = (tgt : Int)) (kt : 0 < x → W p l e R s m args below meth c H locs cells slots Q (F0 m tgt ls rest)) (kf : x ≤ 0 → W p l e R s m args below meth c H locs cells slots Q (F0 m (pc + 3) ls rest)) : W p l e R s m args below meth c H locs cells slots Q (F0 m pc ls (.int (nI x) :: rest)) :=
  lv_if_gt hx hb hdg ht (fun z => kt ((nI_ltI (a := 0) (by decide) hxx).mp z)) (fun z => kf (Nat.not_lt.mp (fun u => z ((nI_ltI (a := 0) (by decide) hxx).mpr u))))
theorem mh_icmp_le (hx : p.tables.exec = Jvm.exec) (hb : c.code = cc) {x y : Nat} (hxx : x < 2 ^ 31) (hyy : y < 2 ^ 31) {off : Int} {tgt : Nat} (hdg : decode cc pc = .ok (.if_icmp .le off, 3)) (ht : (pc : Int) + off = (tgt : Int)) (kt : x ≤ y → W p l e R s m args below meth c H locs cells slots Q (F0 m tgt ls rest)) (kf : y < x → W p l e R s m args below meth c H locs cells slots Q (F0 m (pc + 3) ls rest)) : W p l e R s m args below meth c H locs cells slots Q (F0 m pc ls (.int (nI y) :: .int (nI x) :: rest)) :=
  lv_icmp_le hx hb hdg ht (fun z => kt ((nI_leI hxx hyy).mp z)) (fun z => kf (Nat.not_le.mp (fun u => z ((nI_leI hxx hyy).mpr u))))
theorem mh_if_le (hx : p.tables.exec = Jvm.exec) (hb : c.code = cc) {x : Nat} (hxx : x < 2 ^ 31) {off : Int} {tgt : Nat} (hdg : decode cc pc = .ok (.ifCond .le off, 3)) (ht : (pc : Int) + off = (tgt : Int)) (kt : x ≤ 0 → W p l e R s m args below meth c H locs cells slots Q (F0 m tgt ls rest)) (kf : 0 < x → W p l e R s m args below meth c H locs cells slots Q (F0 m (pc + 3) ls rest)) : W p l e R s m args below meth c H locs cells slots Q (F0 m pc ls (.int (nI x) :: rest)) :=
  lv_if_le hx hb hdg ht (fun z => kt ((nI_leI hxx (b := 0) (by decide)).mp z)) (fun z => kf (Nat.not_le.mp (fun u => z ((nI_leI hxx (b := 0) (by decide)).mpr u))))
end MHB
/-! WHAT THE CELLS SAY: sets of keys, numbers, intentions -/
/-- outside the kinds k, .., k + n - 1 at i nothing has changed -/
def mh_F (w w' : mh_w) (k n i : Nat) : Prop := ∀ k' i', ¬ (k ≤ k' ∧ k' < k + n ∧ i' = i) → w' k' i' = w k' i'
theorem mh_F.rf {w : mh_w} {k n i : Nat} : mh_F w w k n i := fun _ _ _ => rfl
theorem mh_F.tr {w w1 w2 : mh_w} {k n i k1 n1 k2 n2 : Nat} (h1 : mh_F w w1 k1 n1 i) (h2 : mh_F w1 w2 k2 n2 i) (e1 : k ≤ k1) (e2 : k1 + n1 ≤ k + n) (e3 : k ≤ k2) (e4 : k2 + n2 ≤ k + n) : mh_F w w2 k n i :=
  fun k' i' h => (h2 k' i' (fun z => h (by omega))).trans (h1 k' i' (fun z => h (by omega)))
theorem mh_F.set {w w1 : mh_w} {k n i k1 : Nat} {q : Option (Nat × va_E)} (h1 : mh_F w w1 k n i) (e1 : k ≤ k1) (e2 : k1 < k + n) : mh_F w (mh_set w1 k1 i q) k n i :=
  fun k' i' h => (mh_set_ne w1 k1 i q (fun z => h (by omega))).trans (h1 k' i' h)
def rK (dA : Nat → ClassId) (w : mh_w) (k i a : Nat) (rd : Nat → Bool) : Prop := ∃ (a1 : Nat) (f : Nat → Int64), w k i = some (a, .inr (0, [.ref a1])) ∧ w (k + 1) i = some (a1, .inl (dA 1, 4, .inr (.inl f))) ∧ ∀ j, j < 256 → pb_b f j = rd j
theorem rK.to {dA : Nat → ClassId} {w w' : mh_w} {k i a : Nat} {rd rd' : Nat → Bool} (h : rK dA w k i a rd) (h1 : ∀ z, z < 2 → w' (k + z) i = w (k + z) i) (h2 : ∀ j, j < 256 → rd j = rd' j) : rK dA w' k i a rd' := by
  obtain ⟨a1, f, e1, e2, e3⟩ := h
  exact ⟨a1, f, (h1 0 (by omega)).trans e1, (h1 1 (by omega)).trans e2, fun j hj => (e3 j hj).trans (h2 j hj)⟩
def rN (dA : Nat → ClassId) (w : mh_w) (k i a : Nat) (st : Nat → Option Int64) : Prop := ∃ (a1 a3 : Nat) (f : Nat → Int64), w k i = some (a, .inr (1, [.ref a1, .ref a3])) ∧ rK dA w (k + 1) i a1 (fun j => (st j).isSome) ∧ w (k + 3) i = some (a3, .inl (dA 1, 256, .inr (.inl f))) ∧ ∀ j v, j < 256 → st j = some v → f j = v
theorem rN.to {dA : Nat → ClassId} {w w' : mh_w} {k i a : Nat} {st st' : Nat → Option Int64} (h : rN dA w k i a st) (h1 : ∀ z, z < 4 → w' (k + z) i = w (k + z) i) (h2 : ∀ j, j < 256 → st j = st' j) : rN dA w' k i a st' := by
  obtain ⟨a1, a3, f, e1, e2, e3, e4⟩ := h
  exact ⟨a1, a3, f, (h1 0 (by omega)).trans e1, e2.to (fun z hz => by have := h1 (1 + z) (by omega); rwa [← Nat.add_assoc] at this) (fun j hj => by rw [h2 j hj]), (h1 3 (by omega)).trans e3, fun j v hj hv => e4 j v hj ((h2 j hj).trans hv)⟩
def rI (dA : Nat → ClassId) (w : mh_w) (k i a : Nat) (x : st_I) : Prop := ∃ (a1 a3 a4 a5 a6 a7 : Nat) (lo hi wk hn : Nat → Int32) (nn : Nat → Int64),
  w k i = some (a, .inr (2, [.int (nI (iv_sv x)), .int (nI (iv_sn x)), .int (nI (iv_lv x)), .ref a1, .ref a3, .ref a4, .ref a5, .ref a6, .ref a7, .int (nI (iv_np x)), .int (nI (iv_nw x)), .int (mh_b (iv_gd x))])) ∧ rK dA w (k + 1) i a1 (iv_rd x) ∧
  w (k + 3) i = some (a3, .inl (dA 0, 8, .inl lo)) ∧ w (k + 4) i = some (a4, .inl (dA 0, 8, .inl hi)) ∧ w (k + 5) i = some (a5, .inl (dA 0, 8, .inl wk)) ∧ w (k + 6) i = some (a6, .inl (dA 2, 8, .inl hn)) ∧ w (k + 7) i = some (a7, .inl (dA 1, 8, .inr (.inl nn))) ∧
  (∀ j, j < iv_np x → lo j = nI (iv_lo x j) ∧ hi j = nI (iv_hi x j)) ∧ ∀ j, j < iv_nw x → wk j = nI (iv_wk x j) ∧ hn j = mh_b (iv_wv x j).isSome ∧ ∀ v, iv_wv x j = some v → nn j = v
theorem rI.to {dA : Nat → ClassId} {w w' : mh_w} {k i k' i' a : Nat} {x : st_I} (h : rI dA w k i a x) (h1 : ∀ z, z < 8 → w' (k' + z) i' = w (k + z) i) : rI dA w' k' i' a x := by
  obtain ⟨a1, a3, a4, a5, a6, a7, lo, hi, wk, hn, nn, e0, ⟨b1, f, e1, e2, g⟩, e3, e4, e5, e6, e7, e8, e9⟩ := h
  exact ⟨a1, a3, a4, a5, a6, a7, lo, hi, wk, hn, nn, (h1 0 (by omega)).trans e0, ⟨b1, f, (h1 1 (by omega)).trans e1, (h1 2 (by omega)).trans e2, g⟩, (h1 3 (by omega)).trans e3, (h1 4 (by omega)).trans e4, (h1 5 (by omega)).trans e5, (h1 6 (by omega)).trans e6, (h1 7 (by omega)).trans e7, e8, e9⟩
section MHY
variable {p : Program} {l : Launch} {e : Env} {R : Room} {s : State} {m : MethodId} {args : Array Value} {below : List Frame} {meth : Method} {c : Code} {H : Heap} {locs : List Loc} {cells slots : Nat} {Q : State → Prop}
variable {cc : ByteArray} {pc : Nat} {ls : Array Slot} {rest : List Value} {own : String} {b : Nat} {dC : Nat → ClassId} {dI : Nat → Nat → Nat} {dA : Nat → ClassId} {zs : Nat → Nat} {w w0 : mh_w} {k i a : Nat}
/-- System.arraycopy of the first n longs -/
theorem mh_copyl (K0 : mh_K0 p s m args c own cc dC dI dA) {nL : Nat} (hml : c.maxLocals = nL) (hsz : ls.size = nL) {index : Nat} (hlink : Cond.methodLink own index arraycopyName ∈ mh_TB) (hnat : Cond.native arraycopyName ∈ mh_TB) (hstat : Cond.static arraycopyName ∈ mh_TB) (hini : Cond.initialized "java/lang/System" ∈ mh_TB) (hX : mh_P (dC, dI) b w H) (hS : va_S (mh_A b) s.heap H locs)
    {k0 i0 a0 n0 n1 : Nat} {f g : Nat → Int64} (h0 : w k0 i0 = some (a0, .inl (dA 1, n0, .inr (.inl f)))) (h1 : w k i = some (a, .inl (dA 1, n1, .inr (.inl g)))) {n : Nat} (hn0 : n ≤ n0) (hn1 : n ≤ n1) (hn : n < 2 ^ 31) (hframes : 1 ≤ R.frames) (hlocals : (rest.map fun v => v.category).sum + (nativeFrameWords "java/lang/System" "arraycopy" 5 + 11) ≤ R.locals) (hdg : decode cc pc = .ok (.invokestatic index, 3))
    (kk : ∀ (H1 : Heap) (locs1 : List Loc), mh_P (dC, dI) b (mh_set w k i (some (a, .inl (dA 1, n1, .inr (.inl (va_cpy f g 0 0 n)))))) H1 → va_S (mh_A b) s.heap H1 locs1 → W p l e R s m args below meth c H1 locs1 cells slots Q (F0 m (pc + 3) ls rest)) : W p l e R s m args below meth c H locs cells slots Q (F0 m pc ls (.int (nI n) :: .int (nI 0) :: .ref a :: .int (nI 0) :: .ref a0 :: rest)) := by
  obtain ⟨hx, hb, hown, hts, hN, hK⟩ := K0
  intro T hT X
  have c0 : H[a0]? = some (vp_cell (dA 1) (n0, .inr (.inl f))) := hX.at h0
  have c1 : H[a]? = some (vp_cell (dA 1) (n1, .inr (.inl g))) := hX.at h1
  have z0 : (nI 0).toNatClampNeg = 0 := nI_clamp (by decide)
  have zn : (nI n).toNatClampNeg = n := nI_clamp hn
  have t0 : (nI 0).toInt = 0 := nI_toInt (n := 0) (by decide)
  have tn : (nI n).toInt = n := nI_toInt hn
  obtain ⟨-, q0, e0, cm0, g0⟩ := (hK.2 1 _ rfl).1 n0 (fun j => .long (f j))
  obtain ⟨-, q1, e1, cm1, g1⟩ := (hK.2 1 _ rfl).1 n1 (fun j => .long (g j))
  obtain ⟨vm', X', step⟩ := X.arraycopy hx hown (hts _ hlink) (hts _ hnat) (hts _ hstat) (hts _ hini) (src := a0) (dst := a) (cs := vp_cell (dA 1) (n0, .inr (.inl f))) (cd := vp_cell (dA 1) (n1, .inr (.inl g))) (srcPos := nI 0) (destPos := nI 0) (n := nI n) (by rw [hT]; exact c0) (by rw [hT]; exact c1)
    (fun _ h => by cases h) (fun _ h => by cases h) (fun h => by cases h) (fun h => by cases h) e0 e1 g0 g1 (by rfl) (nI_pos (by decide)) (nI_pos (by decide)) (nI_pos hn)
    (by rw [t0, tn]; show ¬ _ > ((arrV (dA 1) n0 (fun j => .long (f j))).slots.size : Int); rw [arrV_size]; omega)
    (by rw [t0, tn]; show ¬ _ > ((arrV (dA 1) n1 (fun j => .long (g j))).slots.size : Int); rw [arrV_size]; omega)
    (fun vm₁ _ i hi => by
      rw [zn] at hi
      have e : (vp_cell (dA 1) (n0, .inr (.inl f))).slots.getD ((nI 0).toNatClampNeg + i) .null = .long (f ((nI 0).toNatClampNeg + i)) := by
        rw [z0]
        show (arrV (dA 1) n0 (fun j => .long (f j))).slots.getD _ _ = _
        rw [Array.getD_eq_getD_getElem?, arrV_read _ _ (by omega)]
        rfl
      refine ⟨?_, ?_⟩
      · rw [e]; rfl
      · rw [e]; exact trivial)
    (g := F0 m pc ls (.int (nI n) :: .int (nI 0) :: .ref a :: .int (nI 0) :: .ref a0 :: rest)) rfl (by show ls.size = _; rw [hsz, hml]) (rest := rest) rfl (by rw [hb]; exact hdg) hframes (by show 2 * 0 + _ + _ ≤ _; omega)
  have ec : copied (vp_cell (dA 1) (n0, .inr (.inl f))) (vp_cell (dA 1) (n1, .inr (.inl g))) (nI 0) (nI 0) (nI n) = vp_cell (dA 1) (n1, .inr (.inl (va_cpy f g 0 0 n))) := by
    have := va_copied (fun z => Value.long z) (dA 1) (dA 1) (n0 := n0) (n1 := n1) (sp := (nI 0).toNatClampNeg) (dp := (nI 0).toNatClampNeg) (n := (nI n).toNatClampNeg) f g (by rw [z0, zn]; omega)
    have e9 : va_cpy f g (nI 0).toNatClampNeg (nI 0).toNatClampNeg (nI n).toNatClampNeg = va_cpy f g 0 0 n := by rw [z0, zn]
    rw [← e9]
    exact this
  rw [ec] at X' step
  have hl : a < H.size := (Array.getElem?_eq_some_iff.mp c1).1
  have hheap : ((T.setVm vm').setCell a (vp_cell (dA 1) (n1, .inr (.inl (va_cpy f g 0 0 n))))).heap = H.setIfInBounds a (vp_cell (dA 1) (n1, .inr (.inl (va_cpy f g 0 0 n)))) := by rw [← hT]; rfl
  have oq : ∀ q : Nat, q ≠ a → (H.setIfInBounds a (vp_cell (dA 1) (n1, .inr (.inl (va_cpy f g 0 0 n)))))[q]? = H[q]? := fun q hq => by simp [Array.getElem?_setIfInBounds, Ne.symm hq]
  obtain ⟨t, a1, b1⟩ := kk _ _ (hX.put h1 (show (H.setIfInBounds a _)[a]? = some _ by simp [Array.getElem?_setIfInBounds, hl]) oq) ⟨by simp; exact hS.1, fun q g1 g2 => by
      rw [oq q (fun e => g2 (by rw [e]; exact hX.le h1))]
      exact hS.2.1 q g1 g2, fun q hq => by
      rcases List.mem_append.mp hq with h | h
      · exact hS.2.2 q h
      · obtain ⟨z, -, hz⟩ := List.mem_map.mp h
        rw [← hz]
        exact hX.le h1⟩ _ hheap X'
  exact ⟨t, step t a1, b1⟩
end MHY
/-! Long.bitCount, its steps -/
theorem pb_c1 : pb_N 6148914691236517205 = pb_m55 8 := by decide +kernel
theorem pb_c2 : pb_N 3689348814741910323 = pb_m33 8 := by decide +kernel
theorem pb_c3 : pb_N 1085102592571150095 = pb_m0f 8 := by decide +kernel
theorem pb_N_addS {x y : Int64} (h : pb_N x + pb_N y < 18446744073709551616) : pb_N (x + y) = pb_N x + pb_N y := by rw [pb_N_add, Nat.mod_eq_of_lt h]
theorem pb_i32 (x : Int64) : x.toInt32.toBitVec.toNat = pb_N x % 4294967296 := by
  show (x.toBitVec.signExtend 32).toNat = x.toBitVec.toNat % 4294967296
  rw [BitVec.signExtend_eq_setWidth_of_le _ (by decide)]
  simp
theorem pb_bits {x v1 v2 v3 v4 v5 v6 : Int64} (e1 : v1 = x - ((x.toUInt64 >>> ((nI 1).toInt64.toUInt64 &&& Int64.toUInt64 63)).toInt64 &&& 6148914691236517205))
    (e2 : v2 = (v1 &&& 3689348814741910323) + ((v1.toUInt64 >>> ((nI 2).toInt64.toUInt64 &&& Int64.toUInt64 63)).toInt64 &&& 3689348814741910323))
    (e3 : v3 = (v2 + (v2.toUInt64 >>> ((nI 4).toInt64.toUInt64 &&& Int64.toUInt64 63)).toInt64) &&& 1085102592571150095)
    (e4 : v4 = v3 + (v3.toUInt64 >>> ((nI 8).toInt64.toUInt64 &&& Int64.toUInt64 63)).toInt64)
    (e5 : v5 = v4 + (v4.toUInt64 >>> ((nI 16).toInt64.toUInt64 &&& Int64.toUInt64 63)).toInt64)
    (e6 : v6 = v5 + (v5.toUInt64 >>> ((nI 32).toInt64.toUInt64 &&& Int64.toUInt64 63)).toInt64) : v6.toInt32 &&& nI 127 = nI (pb_pc 64 (pb_N x)) := by
  have hx := pb_N_lt x
  have n1 : pb_N v1 = pb_f1 8 (pb_N x) := by
    have ha : pb_N ((x.toUInt64 >>> ((nI 1).toInt64.toUInt64 &&& Int64.toUInt64 63)).toInt64 &&& 6148914691236517205) = (pb_N x / 2) &&& pb_m55 8 := by
      rw [pb_N_and, pb_N_shr x (k := 1) (by decide), pb_c1]
    rw [e1, pb_N_sub, ha]
    · rfl
    · rw [ha]
      exact Nat.le_trans Nat.and_le_left (Nat.div_le_self _ _)
  have n2 : pb_N v2 = pb_f2 8 (pb_N v1) ∧ pb_N v2 ≤ 7378697629483820646 := by
    have ha : pb_N (v1 &&& 3689348814741910323) = pb_N v1 &&& pb_m33 8 := by rw [pb_N_and, pb_c2]
    have hb : pb_N ((v1.toUInt64 >>> ((nI 2).toInt64.toUInt64 &&& Int64.toUInt64 63)).toInt64 &&& 3689348814741910323) = (pb_N v1 / 4) &&& pb_m33 8 := by
      rw [pb_N_and, pb_N_shr v1 (k := 2) (by decide), pb_c2]
    have b1 : pb_N v1 &&& pb_m33 8 ≤ 3689348814741910323 := Nat.and_le_right
    have b2 : (pb_N v1 / 4) &&& pb_m33 8 ≤ 3689348814741910323 := Nat.and_le_right
    rw [e2, pb_N_addS, ha, hb]
    · refine ⟨rfl, ?_⟩
      exact Nat.add_le_add b1 b2
    · rw [ha, hb]
      exact Nat.lt_of_le_of_lt (Nat.add_le_add b1 b2) (by decide)
  have n3 : pb_N v3 = pb_f3 8 (pb_N v2) := by
    rw [e3, pb_N_and, pb_c3, pb_N_addS, pb_N_shr v2 (k := 4) (by decide)]
    · rfl
    · rw [pb_N_shr v2 (k := 4) (by decide)]
      exact Nat.lt_of_le_of_lt (Nat.add_le_add n2.2 (Nat.le_trans (Nat.div_le_self _ _) n2.2)) (by decide)
  obtain ⟨y, s1, s2, s3, s4, s5, s6⟩ := pb_sum (pb_N x) hx
  rw [← n1, ← n2.1, ← n3] at s1
  have n4 : pb_N v4 = y + y / 256 := by
    rw [e4, pb_N_addS, pb_N_shr v3 (k := 8) (by decide), s1]
    · rw [pb_N_shr v3 (k := 8) (by decide), s1]; exact s3
  have n5 : pb_N v5 = y + y / 256 + (y + y / 256) / 65536 := by
    rw [e5, pb_N_addS, pb_N_shr v4 (k := 16) (by decide), n4]
    · rw [pb_N_shr v4 (k := 16) (by decide), n4]; exact s4
  have n6 : pb_N v6 = y + y / 256 + (y + y / 256) / 65536 + (y + y / 256 + (y + y / 256) / 65536) / 4294967296 := by
    rw [e6, pb_N_addS, pb_N_shr v5 (k := 32) (by decide), n5]
    · rw [pb_N_shr v5 (k := 32) (by decide), n5]; exact s5
  rw [pk_and v6.toInt32 (m := nI 127) 7 (by decide), pb_i32, Nat.mod_mod_of_dvd _ (by decide), n6]
  exact congrArg nI s6
theorem pb_word (f : Nat → Int64) (j : Nat) : pb_cnt (pb_b f) (64 * j) + pb_pc 64 (pb_N (f j)) = pb_cnt (pb_b f) (64 * (j + 1)) := by
  rw [show 64 * (j + 1) = 64 * j + 64 by omega, pb_cnt_add, pb_pc_cnt]
  congr 1
  refine pb_cnt_congr (fun i hi => ?_)
  show (pb_N (f j)).testBit i = (f ((64 * j + i) / 64)).toBitVec.getLsbD ((64 * j + i) % 64)
  rw [show (64 * j + i) / 64 = j by omega, show (64 * j + i) % 64 = i by omega, pb_N_bit]
end
section
theorem mh_lc0 (x y : Int64) : lg_cmp x y = 0 ↔ x = y := by
  unfold lg_cmp
  by_cases h : x > y
  · rw [if_pos h]
    constructor
    · intro z; exact absurd z (by decide)
    · intro z; subst z; exact absurd h (by rw [gt_iff_lt, Int64.lt_iff_toInt_lt]; omega)
  · rw [if_neg h]
    by_cases e : x = y
    · rw [if_pos e]; exact ⟨fun _ => e, fun _ => rfl⟩
    · rw [if_neg e]; exact ⟨fun z => absurd z (by decide), fun z => absurd z e⟩
theorem d_KS_init_0 : decode b_KS_init 0 = .ok (.aload_n 0, 1) := by decide +kernel
theorem d_KS_init_1 : decode b_KS_init 1 = .ok (.invokespecial 3, 3) := by decide +kernel
theorem d_KS_init_4 : decode b_KS_init 4 = .ok (.aload_n 0, 1) := by decide +kernel
theorem d_KS_init_5 : decode b_KS_init 5 = .ok (.iconst 4, 1) := by decide +kernel
theorem d_KS_init_6 : decode b_KS_init 6 = .ok (.newarray .long, 2) := by decide +kernel
theorem d_KS_init_8 : decode b_KS_init 8 = .ok (.putfield 11, 3) := by decide +kernel
theorem d_KS_init_11 : decode b_KS_init 11 = .ok (.return_, 1) := by decide +kernel
theorem d_KS_has_0 : decode b_KS_has 0 = .ok (.aload_n 0, 1) := by decide +kernel
theorem d_KS_has_1 : decode b_KS_has 1 = .ok (.getfield 11, 3) := by decide +kernel
theorem d_KS_has_4 : decode b_KS_has 4 = .ok (.iload_n 1, 1) := by decide +kernel
theorem d_KS_has_5 : decode b_KS_has 5 = .ok (.bipush 64, 2) := by decide +kernel
theorem d_KS_has_7 : decode b_KS_has 7 = .ok (.idiv, 1) := by decide +kernel
theorem d_KS_has_8 : decode b_KS_has 8 = .ok (.laload, 1) := by decide +kernel
theorem d_KS_has_9 : decode b_KS_has 9 = .ok (.iload_n 1, 1) := by decide +kernel
theorem d_KS_has_10 : decode b_KS_has 10 = .ok (.bipush 64, 2) := by decide +kernel
theorem d_KS_has_12 : decode b_KS_has 12 = .ok (.irem, 1) := by decide +kernel
theorem d_KS_has_13 : decode b_KS_has 13 = .ok (.lushr, 1) := by decide +kernel
theorem d_KS_has_14 : decode b_KS_has 14 = .ok (.lconst 1, 1) := by decide +kernel
theorem d_KS_has_15 : decode b_KS_has 15 = .ok (.land, 1) := by decide +kernel
theorem d_KS_has_16 : decode b_KS_has 16 = .ok (.lconst 0, 1) := by decide +kernel
theorem d_KS_has_17 : decode b_KS_has 17 = .ok (.lcmp, 1) := by decide +kernel
theorem d_KS_has_18 : decode b_KS_has 18 = .ok (.ifCond .eq 7, 3) := by decide +kernel
theorem d_KS_has_25 : decode b_KS_has 25 = .ok (.iconst 0, 1) := by decide +kernel
theorem d_KS_has_26 : decode b_KS_has 26 = .ok (.ireturn, 1) := by decide +kernel
theorem d_KS_has_21 : decode b_KS_has 21 = .ok (.iconst 1, 1) := by decide +kernel
theorem d_KS_has_22 : decode b_KS_has 22 = .ok (.goto 4, 3) := by decide +kernel
theorem d_KS_add_0 : decode b_KS_add 0 = .ok (.aload_n 0, 1) := by decide +kernel
theorem d_KS_add_1 : decode b_KS_add 1 = .ok (.getfield 11, 3) := by decide +kernel
theorem d_KS_add_4 : decode b_KS_add 4 = .ok (.iload_n 1, 1) := by decide +kernel
theorem d_KS_add_5 : decode b_KS_add 5 = .ok (.bipush 64, 2) := by decide +kernel
theorem d_KS_add_7 : decode b_KS_add 7 = .ok (.idiv, 1) := by decide +kernel
theorem d_KS_add_8 : decode b_KS_add 8 = .ok (.dup2, 1) := by decide +kernel
theorem d_KS_add_9 : decode b_KS_add 9 = .ok (.laload, 1) := by decide +kernel
theorem d_KS_add_10 : decode b_KS_add 10 = .ok (.lconst 1, 1) := by decide +kernel
theorem d_KS_add_11 : decode b_KS_add 11 = .ok (.iload_n 1, 1) := by decide +kernel
theorem d_KS_add_12 : decode b_KS_add 12 = .ok (.bipush 64, 2) := by decide +kernel
theorem d_KS_add_14 : decode b_KS_add 14 = .ok (.irem, 1) := by decide +kernel
theorem d_KS_add_15 : decode b_KS_add 15 = .ok (.lshl, 1) := by decide +kernel
theorem d_KS_add_16 : decode b_KS_add 16 = .ok (.lor, 1) := by decide +kernel
theorem d_KS_add_17 : decode b_KS_add 17 = .ok (.lastore, 1) := by decide +kernel
theorem d_KS_add_18 : decode b_KS_add 18 = .ok (.return_, 1) := by decide +kernel
theorem d_KS_drop_0 : decode b_KS_drop 0 = .ok (.aload_n 0, 1) := by decide +kernel
theorem d_KS_drop_1 : decode b_KS_drop 1 = .ok (.getfield 11, 3) := by decide +kernel
theorem d_KS_drop_4 : decode b_KS_drop 4 = .ok (.iload_n 1, 1) := by decide +kernel
theorem d_KS_drop_5 : decode b_KS_drop 5 = .ok (.bipush 64, 2) := by decide +kernel
theorem d_KS_drop_7 : decode b_KS_drop 7 = .ok (.idiv, 1) := by decide +kernel
theorem d_KS_drop_8 : decode b_KS_drop 8 = .ok (.dup2, 1) := by decide +kernel
theorem d_KS_drop_9 : decode b_KS_drop 9 = .ok (.laload, 1) := by decide +kernel
theorem d_KS_drop_10 : decode b_KS_drop 10 = .ok (.lconst 1, 1) := by decide +kernel
theorem d_KS_drop_11 : decode b_KS_drop 11 = .ok (.iload_n 1, 1) := by decide +kernel
theorem d_KS_drop_12 : decode b_KS_drop 12 = .ok (.bipush 64, 2) := by decide +kernel
theorem d_KS_drop_14 : decode b_KS_drop 14 = .ok (.irem, 1) := by decide +kernel
theorem d_KS_drop_15 : decode b_KS_drop 15 = .ok (.lshl, 1) := by decide +kernel
theorem d_KS_drop_16 : decode b_KS_drop 16 = .ok (.ldc2_w 15, 3) := by decide +kernel
theorem d_KS_drop_19 : decode b_KS_drop 19 = .ok (.lxor, 1) := by decide +kernel
theorem d_KS_drop_20 : decode b_KS_drop 20 = .ok (.land, 1) := by decide +kernel
theorem d_KS_drop_21 : decode b_KS_drop 21 = .ok (.lastore, 1) := by decide +kernel
theorem d_KS_drop_22 : decode b_KS_drop 22 = .ok (.return_, 1) := by decide +kernel
theorem d_AR_fillJ_0 : decode b_AR_fillJ 0 = .ok (.iconst 0, 1) := by decide +kernel
theorem d_AR_fillJ_1 : decode b_AR_fillJ 1 = .ok (.istore_n 3, 1) := by decide +kernel
theorem d_AR_fillJ_2 : decode b_AR_fillJ 2 = .ok (.aload_n 0, 1) := by decide +kernel
theorem d_AR_fillJ_3 : decode b_AR_fillJ 3 = .ok (.arraylength, 1) := by decide +kernel
theorem d_AR_fillJ_4 : decode b_AR_fillJ 4 = .ok (.istore 4, 2) := by decide +kernel
theorem d_AR_fillJ_6 : decode b_AR_fillJ 6 = .ok (.iload_n 3, 1) := by decide +kernel
theorem d_AR_fillJ_7 : decode b_AR_fillJ 7 = .ok (.iload 4, 2) := by decide +kernel
theorem d_AR_fillJ_9 : decode b_AR_fillJ 9 = .ok (.if_icmp .ge 13, 3) := by decide +kernel
theorem d_AR_fillJ_22 : decode b_AR_fillJ 22 = .ok (.return_, 1) := by decide +kernel
theorem d_AR_fillJ_12 : decode b_AR_fillJ 12 = .ok (.aload_n 0, 1) := by decide +kernel
theorem d_AR_fillJ_13 : decode b_AR_fillJ 13 = .ok (.iload_n 3, 1) := by decide +kernel
theorem d_AR_fillJ_14 : decode b_AR_fillJ 14 = .ok (.lload_n 1, 1) := by decide +kernel
theorem d_AR_fillJ_15 : decode b_AR_fillJ 15 = .ok (.lastore, 1) := by decide +kernel
theorem d_AR_fillJ_16 : decode b_AR_fillJ 16 = .ok (.iinc 3 1, 3) := by decide +kernel
theorem d_AR_fillJ_19 : decode b_AR_fillJ 19 = .ok (.goto (-13), 3) := by decide +kernel
theorem d_AR_fillI_0 : decode b_AR_fillI 0 = .ok (.iconst 0, 1) := by decide +kernel
theorem d_AR_fillI_1 : decode b_AR_fillI 1 = .ok (.istore_n 2, 1) := by decide +kernel
theorem d_AR_fillI_2 : decode b_AR_fillI 2 = .ok (.aload_n 0, 1) := by decide +kernel
theorem d_AR_fillI_3 : decode b_AR_fillI 3 = .ok (.arraylength, 1) := by decide +kernel
theorem d_AR_fillI_4 : decode b_AR_fillI 4 = .ok (.istore_n 3, 1) := by decide +kernel
theorem d_AR_fillI_5 : decode b_AR_fillI 5 = .ok (.iload_n 2, 1) := by decide +kernel
theorem d_AR_fillI_6 : decode b_AR_fillI 6 = .ok (.iload_n 3, 1) := by decide +kernel
theorem d_AR_fillI_7 : decode b_AR_fillI 7 = .ok (.if_icmp .ge 13, 3) := by decide +kernel
theorem d_AR_fillI_20 : decode b_AR_fillI 20 = .ok (.return_, 1) := by decide +kernel
theorem d_AR_fillI_10 : decode b_AR_fillI 10 = .ok (.aload_n 0, 1) := by decide +kernel
theorem d_AR_fillI_11 : decode b_AR_fillI 11 = .ok (.iload_n 2, 1) := by decide +kernel
theorem d_AR_fillI_12 : decode b_AR_fillI 12 = .ok (.iload_n 1, 1) := by decide +kernel
theorem d_AR_fillI_13 : decode b_AR_fillI 13 = .ok (.iastore, 1) := by decide +kernel
theorem d_AR_fillI_14 : decode b_AR_fillI 14 = .ok (.iinc 2 1, 3) := by decide +kernel
theorem d_AR_fillI_17 : decode b_AR_fillI 17 = .ok (.goto (-12), 3) := by decide +kernel
theorem d_KS_dropAll_0 : decode b_KS_dropAll 0 = .ok (.aload_n 0, 1) := by decide +kernel
theorem d_KS_dropAll_1 : decode b_KS_dropAll 1 = .ok (.getfield 11, 3) := by decide +kernel
theorem d_KS_dropAll_4 : decode b_KS_dropAll 4 = .ok (.lconst 0, 1) := by decide +kernel
theorem d_KS_dropAll_5 : decode b_KS_dropAll 5 = .ok (.invokestatic 17, 3) := by decide +kernel
theorem d_KS_dropAll_8 : decode b_KS_dropAll 8 = .ok (.return_, 1) := by decide +kernel
theorem d_KS_copyFrom_0 : decode b_KS_copyFrom 0 = .ok (.aload_n 1, 1) := by decide +kernel
theorem d_KS_copyFrom_1 : decode b_KS_copyFrom 1 = .ok (.getfield 11, 3) := by decide +kernel
theorem d_KS_copyFrom_4 : decode b_KS_copyFrom 4 = .ok (.iconst 0, 1) := by decide +kernel
theorem d_KS_copyFrom_5 : decode b_KS_copyFrom 5 = .ok (.aload_n 0, 1) := by decide +kernel
theorem d_KS_copyFrom_6 : decode b_KS_copyFrom 6 = .ok (.getfield 11, 3) := by decide +kernel
theorem d_KS_copyFrom_9 : decode b_KS_copyFrom 9 = .ok (.iconst 0, 1) := by decide +kernel
theorem d_KS_copyFrom_10 : decode b_KS_copyFrom 10 = .ok (.aload_n 0, 1) := by decide +kernel
theorem d_KS_copyFrom_11 : decode b_KS_copyFrom 11 = .ok (.getfield 11, 3) := by decide +kernel
theorem d_KS_copyFrom_14 : decode b_KS_copyFrom 14 = .ok (.arraylength, 1) := by decide +kernel
theorem d_KS_copyFrom_15 : decode b_KS_copyFrom 15 = .ok (.invokestatic 23, 3) := by decide +kernel
theorem d_KS_copyFrom_18 : decode b_KS_copyFrom 18 = .ok (.return_, 1) := by decide +kernel
theorem d_LG_bitCount_0 : decode b_LG_bitCount 0 = .ok (.lload_n 0, 1) := by decide +kernel
theorem d_LG_bitCount_1 : decode b_LG_bitCount 1 = .ok (.lload_n 0, 1) := by decide +kernel
theorem d_LG_bitCount_2 : decode b_LG_bitCount 2 = .ok (.iconst 1, 1) := by decide +kernel
theorem d_LG_bitCount_3 : decode b_LG_bitCount 3 = .ok (.lushr, 1) := by decide +kernel
theorem d_LG_bitCount_4 : decode b_LG_bitCount 4 = .ok (.ldc2_w 314, 3) := by decide +kernel
theorem d_LG_bitCount_7 : decode b_LG_bitCount 7 = .ok (.land, 1) := by decide +kernel
theorem d_LG_bitCount_8 : decode b_LG_bitCount 8 = .ok (.lsub, 1) := by decide +kernel
theorem d_LG_bitCount_9 : decode b_LG_bitCount 9 = .ok (.lstore_n 0, 1) := by decide +kernel
theorem d_LG_bitCount_10 : decode b_LG_bitCount 10 = .ok (.lload_n 0, 1) := by decide +kernel
theorem d_LG_bitCount_11 : decode b_LG_bitCount 11 = .ok (.ldc2_w 316, 3) := by decide +kernel
theorem d_LG_bitCount_14 : decode b_LG_bitCount 14 = .ok (.land, 1) := by decide +kernel
theorem d_LG_bitCount_15 : decode b_LG_bitCount 15 = .ok (.lload_n 0, 1) := by decide +kernel
theorem d_LG_bitCount_16 : decode b_LG_bitCount 16 = .ok (.iconst 2, 1) := by decide +kernel
theorem d_LG_bitCount_17 : decode b_LG_bitCount 17 = .ok (.lushr, 1) := by decide +kernel
theorem d_LG_bitCount_18 : decode b_LG_bitCount 18 = .ok (.ldc2_w 316, 3) := by decide +kernel
theorem d_LG_bitCount_21 : decode b_LG_bitCount 21 = .ok (.land, 1) := by decide +kernel
theorem d_LG_bitCount_22 : decode b_LG_bitCount 22 = .ok (.ladd, 1) := by decide +kernel
theorem d_LG_bitCount_23 : decode b_LG_bitCount 23 = .ok (.lstore_n 0, 1) := by decide +kernel
theorem d_LG_bitCount_24 : decode b_LG_bitCount 24 = .ok (.lload_n 0, 1) := by decide +kernel
theorem d_LG_bitCount_25 : decode b_LG_bitCount 25 = .ok (.lload_n 0, 1) := by decide +kernel
theorem d_LG_bitCount_26 : decode b_LG_bitCount 26 = .ok (.iconst 4, 1) := by decide +kernel
theorem d_LG_bitCount_27 : decode b_LG_bitCount 27 = .ok (.lushr, 1) := by decide +kernel
theorem d_LG_bitCount_28 : decode b_LG_bitCount 28 = .ok (.ladd, 1) := by decide +kernel
theorem d_LG_bitCount_29 : decode b_LG_bitCount 29 = .ok (.ldc2_w 318, 3) := by decide +kernel
theorem d_LG_bitCount_32 : decode b_LG_bitCount 32 = .ok (.land, 1) := by decide +kernel
theorem d_LG_bitCount_33 : decode b_LG_bitCount 33 = .ok (.lstore_n 0, 1) := by decide +kernel
theorem d_LG_bitCount_34 : decode b_LG_bitCount 34 = .ok (.lload_n 0, 1) := by decide +kernel
theorem d_LG_bitCount_35 : decode b_LG_bitCount 35 = .ok (.lload_n 0, 1) := by decide +kernel
theorem d_LG_bitCount_36 : decode b_LG_bitCount 36 = .ok (.bipush 8, 2) := by decide +kernel
theorem d_LG_bitCount_38 : decode b_LG_bitCount 38 = .ok (.lushr, 1) := by decide +kernel
theorem d_LG_bitCount_39 : decode b_LG_bitCount 39 = .ok (.ladd, 1) := by decide +kernel
theorem d_LG_bitCount_40 : decode b_LG_bitCount 40 = .ok (.lstore_n 0, 1) := by decide +kernel
theorem d_LG_bitCount_41 : decode b_LG_bitCount 41 = .ok (.lload_n 0, 1) := by decide +kernel
theorem d_LG_bitCount_42 : decode b_LG_bitCount 42 = .ok (.lload_n 0, 1) := by decide +kernel
theorem d_LG_bitCount_43 : decode b_LG_bitCount 43 = .ok (.bipush 16, 2) := by decide +kernel
theorem d_LG_bitCount_45 : decode b_LG_bitCount 45 = .ok (.lushr, 1) := by decide +kernel
theorem d_LG_bitCount_46 : decode b_LG_bitCount 46 = .ok (.ladd, 1) := by decide +kernel
theorem d_LG_bitCount_47 : decode b_LG_bitCount 47 = .ok (.lstore_n 0, 1) := by decide +kernel
theorem d_LG_bitCount_48 : decode b_LG_bitCount 48 = .ok (.lload_n 0, 1) := by decide +kernel
theorem d_LG_bitCount_49 : decode b_LG_bitCount 49 = .ok (.lload_n 0, 1) := by decide +kernel
theorem d_LG_bitCount_50 : decode b_LG_bitCount 50 = .ok (.bipush 32, 2) := by decide +kernel
theorem d_LG_bitCount_52 : decode b_LG_bitCount 52 = .ok (.lushr, 1) := by decide +kernel
theorem d_LG_bitCount_53 : decode b_LG_bitCount 53 = .ok (.ladd, 1) := by decide +kernel
theorem d_LG_bitCount_54 : decode b_LG_bitCount 54 = .ok (.lstore_n 0, 1) := by decide +kernel
theorem d_LG_bitCount_55 : decode b_LG_bitCount 55 = .ok (.lload_n 0, 1) := by decide +kernel
theorem d_LG_bitCount_56 : decode b_LG_bitCount 56 = .ok (.l2i, 1) := by decide +kernel
theorem d_LG_bitCount_57 : decode b_LG_bitCount 57 = .ok (.bipush 127, 2) := by decide +kernel
theorem d_LG_bitCount_59 : decode b_LG_bitCount 59 = .ok (.iand, 1) := by decide +kernel
theorem d_LG_bitCount_60 : decode b_LG_bitCount 60 = .ok (.ireturn, 1) := by decide +kernel
theorem d_KS_size_0 : decode b_KS_size 0 = .ok (.iconst 0, 1) := by decide +kernel
theorem d_KS_size_1 : decode b_KS_size 1 = .ok (.istore_n 1, 1) := by decide +kernel
theorem d_KS_size_2 : decode b_KS_size 2 = .ok (.iconst 0, 1) := by decide +kernel
theorem d_KS_size_3 : decode b_KS_size 3 = .ok (.istore_n 2, 1) := by decide +kernel
theorem d_KS_size_4 : decode b_KS_size 4 = .ok (.iload_n 2, 1) := by decide +kernel
theorem d_KS_size_5 : decode b_KS_size 5 = .ok (.aload_n 0, 1) := by decide +kernel
theorem d_KS_size_6 : decode b_KS_size 6 = .ok (.getfield 11, 3) := by decide +kernel
theorem d_KS_size_9 : decode b_KS_size 9 = .ok (.arraylength, 1) := by decide +kernel
theorem d_KS_size_10 : decode b_KS_size 10 = .ok (.if_icmp .ge 21, 3) := by decide +kernel
theorem d_KS_size_31 : decode b_KS_size 31 = .ok (.iload_n 1, 1) := by decide +kernel
theorem d_KS_size_32 : decode b_KS_size 32 = .ok (.ireturn, 1) := by decide +kernel
theorem d_KS_size_13 : decode b_KS_size 13 = .ok (.iload_n 1, 1) := by decide +kernel
theorem d_KS_size_14 : decode b_KS_size 14 = .ok (.aload_n 0, 1) := by decide +kernel
theorem d_KS_size_15 : decode b_KS_size 15 = .ok (.getfield 11, 3) := by decide +kernel
theorem d_KS_size_18 : decode b_KS_size 18 = .ok (.iload_n 2, 1) := by decide +kernel
theorem d_KS_size_19 : decode b_KS_size 19 = .ok (.laload, 1) := by decide +kernel
theorem d_KS_size_20 : decode b_KS_size 20 = .ok (.invokestatic 29, 3) := by decide +kernel
theorem d_KS_size_23 : decode b_KS_size 23 = .ok (.iadd, 1) := by decide +kernel
theorem d_KS_size_24 : decode b_KS_size 24 = .ok (.istore_n 1, 1) := by decide +kernel
theorem d_KS_size_25 : decode b_KS_size 25 = .ok (.iinc 2 1, 3) := by decide +kernel
theorem d_KS_size_28 : decode b_KS_size 28 = .ok (.goto (-24), 3) := by decide +kernel
set_option maxHeartbeats 4000000 in
set_option maxRecDepth 100000 in
theorem c_KS_init {l : Launch} {b : Nat} {dC : Nat → ClassId} {dI : Nat → Nat → Nat} {dA : Nat → ClassId} {zs : Nat → Nat} {w : mh_w} {k i a : Nat} (h : w k i = some (a, .inr (0, [.null]))) : mh_Met l b dC dI dA zs y_KS_init (mh_rm 1 1 4) [.ref a] w (mh_V none (fun w' => rK dA w' k i a (fun _ => false) ∧ mh_F w w' k 2 i)) := by
  refine mh_ofW (cc := b_KS_init) (n := 1) (ret := none) (hs := []) (by decide) k76 ?_
  intro p e s m below meth c hx hb hr hml hown hts hlocks hnm hT hOK hadm
  have K0 : mh_K0 p s m ([.ref a]).toArray c "MeldHost$KeySet" b_KS_init dC dI dA := ⟨hx, hb, hown, hts, hOK.1, hOK.2.1⟩
  have hX := hOK.2.2.2.2
  have hb0 := hOK.2.2.2.1
  have hS : va_S (mh_A b) s.heap s.heap [] := va_S.rf
  have hl := lv_entry ([.ref a]) (n := 1) (Nat.le_of_ble_eq_true rfl)
  rw [lg_entry_eq]
  generalize (lg_sl ([.ref a]) ++ List.replicate (1 - (lg_sl ([.ref a])).length) Slot.unset).toArray = ls at hl ⊢
  have hl : lv_has ls 1 [(0, .ref a)] := hl
  refine lv_aload_n hx hb d_KS_init_0 rfl (lv_at hl 0 rfl) ?_
  refine W.objInit hx hb hown (hts _ k77) (hts _ k31) (hts _ k32) rfl (by rw [hml]; exact hl.1) rfl d_KS_init_1 (Nat.le_of_ble_eq_true rfl) (Nat.le_of_ble_eq_true rfl) ?_
  refine W.eq (g2 := F0 m 4 ls []) rfl ?_
  refine lv_aload_n hx hb d_KS_init_4 rfl (lv_at hl 0 rfl) ?_
  refine lv_iconst (v := nI 4) hx hb d_KS_init_5 (by decide) ?_
  refine mh_newa (k + 1) i 1 K0 hX hS hb0 (ty := .long) rfl rfl k82 (N' := 4) (a0 := (4, .inr (.inl (fun _ => 0)))) (fun cA => rfl) (by decide) (by decide) (by decide) (Nat.le_of_ble_eq_true rfl) (Nat.le_of_ble_eq_true rfl) d_KS_init_6 (fun q H hX hS => ?_)
  have fs1 := mh_self hX
  refine mh_putF K0 hX hS (mh_kp h (by omega)) f_KS_11 p_0_0 hnm (fun C T N h => by cases h; rfl) rfl rfl (Nat.le_of_ble_eq_true rfl) d_KS_init_8 (fun C T N h => by cases h; exact k78) (fun H locs hX hS => ?_)
  have hX : mh_P (dC, dI) b (mh_set _ k i (some (a, .inr (0, [.ref q])))) H := hX
  have fs2 := mh_self hX
  exact mh_vret K0 hr hlocks hX hS (⟨rfl, ⟨q, _, mh_set_eq _ _ _ _, mh_kp (mh_set_eq _ _ _ _) (by omega), fun j _ => pb_zero j⟩, (mh_F.rf.set (by omega) (by omega)).set (by omega) (by omega)⟩) (Nat.le_of_ble_eq_true rfl) (Nat.le_of_ble_eq_true rfl) d_KS_init_11
set_option maxHeartbeats 4000000 in
set_option maxRecDepth 100000 in
theorem c_KS_has {l : Launch} {b : Nat} {dC : Nat → ClassId} {dI : Nat → Nat → Nat} {dA : Nat → ClassId} {zs : Nat → Nat} {w : mh_w} {k i a : Nat} {rd : Nat → Bool} (h : rK dA w k i a rd) {key : Nat} (hk : key < 256) : mh_Met l b dC dI dA zs y_KS_has (mh_rm 0 0 0) [.ref a, .int (nI key)] w (mh_V (some (.int (mh_b (rd key)))) (fun w' => w' = w)) := by
  obtain ⟨a1, f, h0, h1, hf⟩ := h
  refine mh_ofW (cc := b_KS_has) (n := 2) (ret := (some .boolean)) (hs := []) (by decide) k328 ?_
  intro p e s m below meth c hx hb hr hml hown hts hlocks hnm hT hOK hadm
  have K0 : mh_K0 p s m ([.ref a, .int (nI key)]).toArray c "MeldHost$KeySet" b_KS_has dC dI dA := ⟨hx, hb, hown, hts, hOK.1, hOK.2.1⟩
  have hX := hOK.2.2.2.2
  have hb0 := hOK.2.2.2.1
  have hS : va_S (mh_A b) s.heap s.heap [] := va_S.rf
  have hl := lv_entry ([.ref a, .int (nI key)]) (n := 2) (Nat.le_of_ble_eq_true rfl)
  rw [lg_entry_eq]
  generalize (lg_sl ([.ref a, .int (nI key)]) ++ List.replicate (2 - (lg_sl ([.ref a, .int (nI key)])).length) Slot.unset).toArray = ls at hl ⊢
  have hl : lv_has ls 2 [(0, .ref a), (1, .int (nI key))] := hl
  refine lv_aload_n hx hb d_KS_has_0 rfl (lv_at hl 0 rfl) ?_
  refine mh_get K0 hX h0 f_KS_11 rfl d_KS_has_1 ?_
  refine lv_iload_n hx hb d_KS_has_4 rfl (lv_at hl 1 rfl) ?_
  refine lv_bipush (v := nI 64) hx hb d_KS_has_5 (by decide) ?_
  refine mh_divN hx hb (by omega) (by omega) (by omega) d_KS_has_7 ?_
  refine mh_laldN K0 hX h1 (by omega) (by omega) d_KS_has_8 ?_
  refine lv_iload_n hx hb d_KS_has_9 rfl (lv_at hl 1 rfl) ?_
  refine lv_bipush (v := nI 64) hx hb d_KS_has_10 (by decide) ?_
  refine mh_remN hx hb (by omega) (by omega) (by omega) d_KS_has_12 ?_
  refine lv_lushr hx hb d_KS_has_13 rfl ?_
  refine lv_lconst (v := 1) hx hb d_KS_has_14 rfl ?_
  refine lv_land hx hb d_KS_has_15 ?_
  refine lv_lconst (v := 0) hx hb d_KS_has_16 rfl ?_
  refine W.lcmp hx hb d_KS_has_17 ?_
  refine lv_if_eq (tgt := 25) hx hb d_KS_has_18 (by decide) (fun ct => ?_) (fun cf => ?_)
  · skip
    have hz : pb_b f key = false := (pb_has f key).mp ((mh_lc0 _ _).mp ct)
    refine lv_iconst (v := nI 0) hx hb d_KS_has_25 (by decide) ?_
    exact mh_iret K0 hr (by decide) hlocks hX hS (⟨by rw [← hf key hk, hz]; rfl, rfl⟩) (Nat.le_of_ble_eq_true rfl) (Nat.le_of_ble_eq_true rfl) d_KS_has_26
  · skip
    have hz : pb_b f key = true := by cases e9 : pb_b f key with | true => rfl | false => exact absurd ((mh_lc0 _ _).mpr ((pb_has f key).mpr e9)) cf
    refine lv_iconst (v := nI 1) hx hb d_KS_has_21 (by decide) ?_
    refine lv_goto (tgt := 26) hx hb d_KS_has_22 (by decide) ?_
    exact mh_iret K0 hr (by decide) hlocks hX hS (⟨by rw [← hf key hk, hz]; rfl, rfl⟩) (Nat.le_of_ble_eq_true rfl) (Nat.le_of_ble_eq_true rfl) d_KS_has_26
set_option maxHeartbeats 4000000 in
set_option maxRecDepth 100000 in
theorem c_KS_add {l : Launch} {b : Nat} {dC : Nat → ClassId} {dI : Nat → Nat → Nat} {dA : Nat → ClassId} {zs : Nat → Nat} {w : mh_w} {k i a : Nat} {rd : Nat → Bool} (h : rK dA w k i a rd) {key : Nat} (hk : key < 256) : mh_Met l b dC dI dA zs y_KS_add (mh_rm 0 0 0) [.ref a, .int (nI key)] w (mh_V none (fun w' => rK dA w' k i a (fun j => decide (j = key) || rd j) ∧ mh_F w w' k 2 i)) := by
  obtain ⟨a1, f, h0, h1, hf⟩ := h
  refine mh_ofW (cc := b_KS_add) (n := 2) (ret := none) (hs := []) (by decide) k321 ?_
  intro p e s m below meth c hx hb hr hml hown hts hlocks hnm hT hOK hadm
  have K0 : mh_K0 p s m ([.ref a, .int (nI key)]).toArray c "MeldHost$KeySet" b_KS_add dC dI dA := ⟨hx, hb, hown, hts, hOK.1, hOK.2.1⟩
  have hX := hOK.2.2.2.2
  have hb0 := hOK.2.2.2.1
  have hS : va_S (mh_A b) s.heap s.heap [] := va_S.rf
  have hl := lv_entry ([.ref a, .int (nI key)]) (n := 2) (Nat.le_of_ble_eq_true rfl)
  rw [lg_entry_eq]
  generalize (lg_sl ([.ref a, .int (nI key)]) ++ List.replicate (2 - (lg_sl ([.ref a, .int (nI key)])).length) Slot.unset).toArray = ls at hl ⊢
  have hl : lv_has ls 2 [(0, .ref a), (1, .int (nI key))] := hl
  refine lv_aload_n hx hb d_KS_add_0 rfl (lv_at hl 0 rfl) ?_
  refine mh_get K0 hX h0 f_KS_11 rfl d_KS_add_1 ?_
  refine lv_iload_n hx hb d_KS_add_4 rfl (lv_at hl 1 rfl) ?_
  refine lv_bipush (v := nI 64) hx hb d_KS_add_5 (by decide) ?_
  refine mh_divN hx hb (by omega) (by omega) (by omega) d_KS_add_7 ?_
  refine lv_dup2_11 hx hb d_KS_add_8 rfl rfl ?_
  refine mh_laldN K0 hX h1 (by omega) (by omega) d_KS_add_9 ?_
  refine lv_lconst (v := 1) hx hb d_KS_add_10 rfl ?_
  refine lv_iload_n hx hb d_KS_add_11 rfl (lv_at hl 1 rfl) ?_
  refine lv_bipush (v := nI 64) hx hb d_KS_add_12 (by decide) ?_
  refine mh_remN hx hb (by omega) (by omega) (by omega) d_KS_add_14 ?_
  refine lv_lshl hx hb d_KS_add_15 rfl ?_
  refine lv_lor hx hb d_KS_add_16 ?_
  refine mh_lastN K0 hX hS h1 (by omega) (by omega) d_KS_add_17 (fun H locs hX hS => ?_)
  have fs3 := mh_self hX
  exact mh_vret K0 hr hlocks hX hS (⟨rfl, ⟨a1, _, mh_kp h0 (by omega), mh_set_eq _ _ _ _, fun j hj => by rw [pb_add, hf j hj]⟩, mh_F.rf.set (by omega) (by omega)⟩) (Nat.le_of_ble_eq_true rfl) (Nat.le_of_ble_eq_true rfl) d_KS_add_18
set_option maxHeartbeats 4000000 in
set_option maxRecDepth 100000 in
theorem c_KS_drop {l : Launch} {b : Nat} {dC : Nat → ClassId} {dI : Nat → Nat → Nat} {dA : Nat → ClassId} {zs : Nat → Nat} {w : mh_w} {k i a : Nat} {rd : Nat → Bool} (h : rK dA w k i a rd) {key : Nat} (hk : key < 256) : mh_Met l b dC dI dA zs y_KS_drop (mh_rm 0 0 0) [.ref a, .int (nI key)] w (mh_V none (fun w' => rK dA w' k i a (fun j => !decide (j = key) && rd j) ∧ mh_F w w' k 2 i)) := by
  obtain ⟨a1, f, h0, h1, hf⟩ := h
  refine mh_ofW (cc := b_KS_drop) (n := 2) (ret := none) (hs := []) (by decide) k402 ?_
  intro p e s m below meth c hx hb hr hml hown hts hlocks hnm hT hOK hadm
  have K0 : mh_K0 p s m ([.ref a, .int (nI key)]).toArray c "MeldHost$KeySet" b_KS_drop dC dI dA := ⟨hx, hb, hown, hts, hOK.1, hOK.2.1⟩
  have hX := hOK.2.2.2.2
  have hb0 := hOK.2.2.2.1
  have hS : va_S (mh_A b) s.heap s.heap [] := va_S.rf
  have hl := lv_entry ([.ref a, .int (nI key)]) (n := 2) (Nat.le_of_ble_eq_true rfl)
  rw [lg_entry_eq]
  generalize (lg_sl ([.ref a, .int (nI key)]) ++ List.replicate (2 - (lg_sl ([.ref a, .int (nI key)])).length) Slot.unset).toArray = ls at hl ⊢
  have hl : lv_has ls 2 [(0, .ref a), (1, .int (nI key))] := hl
  refine lv_aload_n hx hb d_KS_drop_0 rfl (lv_at hl 0 rfl) ?_
  refine mh_get K0 hX h0 f_KS_11 rfl d_KS_drop_1 ?_
  refine lv_iload_n hx hb d_KS_drop_4 rfl (lv_at hl 1 rfl) ?_
  refine lv_bipush (v := nI 64) hx hb d_KS_drop_5 (by decide) ?_
  refine mh_divN hx hb (by omega) (by omega) (by omega) d_KS_drop_7 ?_
  refine lv_dup2_11 hx hb d_KS_drop_8 rfl rfl ?_
  refine mh_laldN K0 hX h1 (by omega) (by omega) d_KS_drop_9 ?_
  refine lv_lconst (v := 1) hx hb d_KS_drop_10 rfl ?_
  refine lv_iload_n hx hb d_KS_drop_11 rfl (lv_at hl 1 rfl) ?_
  refine lv_bipush (v := nI 64) hx hb d_KS_drop_12 (by decide) ?_
  refine mh_remN hx hb (by omega) (by omega) (by omega) d_KS_drop_14 ?_
  refine lv_lshl hx hb d_KS_drop_15 rfl ?_
  refine lv_ldc2 hx hb hown (hts _ k403) d_KS_drop_16 ?_
  refine lv_lxor hx hb d_KS_drop_19 ?_
  refine lv_land hx hb d_KS_drop_20 ?_
  refine mh_lastN K0 hX hS h1 (by omega) (by omega) d_KS_drop_21 (fun H locs hX hS => ?_)
  have fs4 := mh_self hX
  exact mh_vret K0 hr hlocks hX hS (⟨rfl, ⟨a1, _, mh_kp h0 (by omega), mh_set_eq _ _ _ _, fun j hj => by rw [pb_del, hf j hj]⟩, mh_F.rf.set (by omega) (by omega)⟩) (Nat.le_of_ble_eq_true rfl) (Nat.le_of_ble_eq_true rfl) d_KS_drop_22
set_option maxHeartbeats 4000000 in
set_option maxRecDepth 100000 in
theorem c_AR_fillJ {l : Launch} {b : Nat} {dC : Nat → ClassId} {dI : Nat → Nat → Nat} {dA : Nat → ClassId} {zs : Nat → Nat} {w : mh_w} {k i a n0 : Nat} {f : Nat → Int64} {v : Int64} (h : w k i = some (a, .inl (dA 1, n0, .inr (.inl f)))) (hn0 : n0 < 2 ^ 31) : mh_Met l b dC dI dA zs y_AR_fillJ (mh_rm 0 0 0) [.ref a, .long v] w (mh_V none (fun w' => (∃ g : Nat → Int64, w' k i = some (a, .inl (dA 1, n0, .inr (.inl g))) ∧ ∀ j, j < n0 → g j = v) ∧ mh_F w w' k 1 i)) := by
  refine mh_ofW (cc := b_AR_fillJ) (n := 5) (ret := none) (hs := []) (by decide) k585 ?_
  intro p e s m below meth c hx hb hr hml hown hts hlocks hnm hT hOK hadm
  have K0 : mh_K0 p s m ([.ref a, .long v]).toArray c "java/util/Arrays" b_AR_fillJ dC dI dA := ⟨hx, hb, hown, hts, hOK.1, hOK.2.1⟩
  have hX := hOK.2.2.2.2
  have hb0 := hOK.2.2.2.1
  have hS : va_S (mh_A b) s.heap s.heap [] := va_S.rf
  have hl := lv_entry ([.ref a, .long v]) (n := 5) (Nat.le_of_ble_eq_true rfl)
  rw [lg_entry_eq]
  generalize (lg_sl ([.ref a, .long v]) ++ List.replicate (5 - (lg_sl ([.ref a, .long v])).length) Slot.unset).toArray = ls at hl ⊢
  have hl : lv_has ls 5 [(0, .ref a), (1, .long v)] := hl
  refine lv_iconst (v := nI 0) hx hb d_AR_fillJ_0 (by decide) ?_
  refine lv_istore_n (lv' := [(3, .int (nI 0)), (0, .ref a), (1, .long v)]) hx hb d_AR_fillJ_1 rfl hl (by decide) rfl (fun ls hl => ?_)
  refine lv_aload_n hx hb d_AR_fillJ_2 rfl (lv_at hl 1 rfl) ?_
  refine mh_alen 1 rfl K0 hX h d_AR_fillJ_3 ?_
  refine lv_istore (lv' := [(4, .int (nI n0)), (3, .int (nI 0)), (0, .ref a), (1, .long v)]) hx hb d_AR_fillJ_4 hl (by decide) rfl (fun ls hl => ?_)
  have LP : ∀ (n : Nat) (j : Nat) (w1 : mh_w) (g : Nat → Int64) (H : Heap) (locs : List Loc) (ls : Array Slot), mh_P (dC, dI) b w1 H → va_S (mh_A b) s.heap H locs → lv_has ls 5 [(4, .int (nI n0)), (3, .int (nI j)), (0, .ref a), (1, .long v)] → (j + n = n0) → (w1 k i = some (a, .inl (dA 1, n0, .inr (.inl g)))) → (mh_F w w1 k 1 i) → (∀ z, z < j → g z = v) → W p l e (mh_rm 0 0 0) s m ([.ref a, .long v]).toArray below meth c H locs (0) (0) (mh_MQ below b dC dI (mh_V none (fun w' => (∃ g : Nat → Int64, w' k i = some (a, .inl (dA 1, n0, .inr (.inl g))) ∧ ∀ j, j < n0 → g j = v) ∧ mh_F w w' k 1 i)) ([.ref a, .long v]).toArray s 0 0) (F0 m 6 ls []) := by
    intro n
    induction n with
    | zero =>
      intro j w1 g H locs ls hX hS hl hn hc hF hg
      refine lv_iload_n hx hb d_AR_fillJ_6 rfl (lv_at hl 1 rfl) ?_
      refine lv_iload hx hb d_AR_fillJ_7 (lv_at hl 0 rfl) ?_
      refine mh_icmp_ge (tgt := 22) hx hb (by omega) (by omega) d_AR_fillJ_9 (by decide) (fun _ => ?_) (fun z => absurd z (by omega))
      exact mh_vret K0 hr hlocks hX hS (⟨rfl, ⟨g, hc, fun z hz => hg z (by omega)⟩, hF⟩) (Nat.le_of_ble_eq_true rfl) (Nat.le_of_ble_eq_true rfl) d_AR_fillJ_22
    | succ n ih =>
      intro j w1 g H locs ls hX hS hl hn hc hF hg
      refine lv_iload_n hx hb d_AR_fillJ_6 rfl (lv_at hl 1 rfl) ?_
      refine lv_iload hx hb d_AR_fillJ_7 (lv_at hl 0 rfl) ?_
      refine mh_icmp_ge (tgt := 22) hx hb (by omega) (by omega) d_AR_fillJ_9 (by decide) (fun z => absurd z (by omega)) (fun _ => ?_)
      refine lv_aload_n hx hb d_AR_fillJ_12 rfl (lv_at hl 2 rfl) ?_
      refine lv_iload_n hx hb d_AR_fillJ_13 rfl (lv_at hl 1 rfl) ?_
      refine lv_lload_n hx hb d_AR_fillJ_14 rfl (lv_at hl 3 rfl) ?_
      refine mh_lastN K0 hX hS hc (by omega) (by omega) d_AR_fillJ_15 (fun H locs hX hS => ?_)
      have fs5 := mh_self hX
      refine lv_iinc (v := nI (j + 1)) (k := 1) (lv' := [(3, .int (nI (j + 1))), (4, .int (nI n0)), (0, .ref a), (1, .long v)]) hx hb d_AR_fillJ_16 hl rfl (mh_inc j) (by decide) rfl (fun ls hl => ?_)
      refine lv_goto (tgt := 6) hx hb d_AR_fillJ_19 (by decide) ?_
      exact ih (j + 1) _ (vp_updL g j v) _ _ _ hX hS (lv_sub hl [1, 0, 2, 3] rfl) (by omega) (mh_set_eq _ _ _ _) (hF.set (by omega) (by omega)) (fun z hz => if e : z = j then (by rw [e]; exact pk_uLs) else (pk_uLn e).trans (hg z (by omega)))
  exact LP n0 0 _ f _ _ _ hX hS hl (by omega) h mh_F.rf (fun z hz => absurd hz (Nat.not_lt_zero z))
set_option maxHeartbeats 4000000 in
set_option maxRecDepth 100000 in
theorem c_AR_fillI {l : Launch} {b : Nat} {dC : Nat → ClassId} {dI : Nat → Nat → Nat} {dA : Nat → ClassId} {zs : Nat → Nat} {w : mh_w} {k i a n0 : Nat} {f : Nat → Int32} {v : Int32} (h : w k i = some (a, .inl (dA 0, n0, .inl f))) (hn0 : n0 < 2 ^ 31) : mh_Met l b dC dI dA zs y_AR_fillI (mh_rm 0 0 0) [.ref a, .int v] w (mh_V none (fun w' => (∃ g : Nat → Int32, w' k i = some (a, .inl (dA 0, n0, .inl g)) ∧ ∀ j, j < n0 → g j = v) ∧ mh_F w w' k 1 i)) := by
  refine mh_ofW (cc := b_AR_fillI) (n := 4) (ret := none) (hs := []) (by decide) k94 ?_
  intro p e s m below meth c hx hb hr hml hown hts hlocks hnm hT hOK hadm
  have K0 : mh_K0 p s m ([.ref a, .int v]).toArray c "java/util/Arrays" b_AR_fillI dC dI dA := ⟨hx, hb, hown, hts, hOK.1, hOK.2.1⟩
  have hX := hOK.2.2.2.2
  have hb0 := hOK.2.2.2.1
  have hS : va_S (mh_A b) s.heap s.heap [] := va_S.rf
  have hl := lv_entry ([.ref a, .int v]) (n := 4) (Nat.le_of_ble_eq_true rfl)
  rw [lg_entry_eq]
  generalize (lg_sl ([.ref a, .int v]) ++ List.replicate (4 - (lg_sl ([.ref a, .int v])).length) Slot.unset).toArray = ls at hl ⊢
  have hl : lv_has ls 4 [(0, .ref a), (1, .int v)] := hl
  refine lv_iconst (v := nI 0) hx hb d_AR_fillI_0 (by decide) ?_
  refine lv_istore_n (lv' := [(2, .int (nI 0)), (0, .ref a), (1, .int v)]) hx hb d_AR_fillI_1 rfl hl (by decide) rfl (fun ls hl => ?_)
  refine lv_aload_n hx hb d_AR_fillI_2 rfl (lv_at hl 1 rfl) ?_
  refine mh_alen 0 rfl K0 hX h d_AR_fillI_3 ?_
  refine lv_istore_n (lv' := [(3, .int (nI n0)), (2, .int (nI 0)), (0, .ref a), (1, .int v)]) hx hb d_AR_fillI_4 rfl hl (by decide) rfl (fun ls hl => ?_)
  have LP : ∀ (n : Nat) (j : Nat) (w1 : mh_w) (g : Nat → Int32) (H : Heap) (locs : List Loc) (ls : Array Slot), mh_P (dC, dI) b w1 H → va_S (mh_A b) s.heap H locs → lv_has ls 4 [(3, .int (nI n0)), (2, .int (nI j)), (0, .ref a), (1, .int v)] → (j + n = n0) → (w1 k i = some (a, .inl (dA 0, n0, .inl g))) → (mh_F w w1 k 1 i) → (∀ z, z < j → g z = v) → W p l e (mh_rm 0 0 0) s m ([.ref a, .int v]).toArray below meth c H locs (0) (0) (mh_MQ below b dC dI (mh_V none (fun w' => (∃ g : Nat → Int32, w' k i = some (a, .inl (dA 0, n0, .inl g)) ∧ ∀ j, j < n0 → g j = v) ∧ mh_F w w' k 1 i)) ([.ref a, .int v]).toArray s 0 0) (F0 m 5 ls []) := by
    intro n
    induction n with
    | zero =>
      intro j w1 g H locs ls hX hS hl hn hc hF hg
      refine lv_iload_n hx hb d_AR_fillI_5 rfl (lv_at hl 1 rfl) ?_
      refine lv_iload_n hx hb d_AR_fillI_6 rfl (lv_at hl 0 rfl) ?_
      refine mh_icmp_ge (tgt := 20) hx hb (by omega) (by omega) d_AR_fillI_7 (by decide) (fun _ => ?_) (fun z => absurd z (by omega))
      exact mh_vret K0 hr hlocks hX hS (⟨rfl, ⟨g, hc, fun z hz => hg z (by omega)⟩, hF⟩) (Nat.le_of_ble_eq_true rfl) (Nat.le_of_ble_eq_true rfl) d_AR_fillI_20
    | succ n ih =>
      intro j w1 g H locs ls hX hS hl hn hc hF hg
      refine lv_iload_n hx hb d_AR_fillI_5 rfl (lv_at hl 1 rfl) ?_
      refine lv_iload_n hx hb d_AR_fillI_6 rfl (lv_at hl 0 rfl) ?_
      refine mh_icmp_ge (tgt := 20) hx hb (by omega) (by omega) d_AR_fillI_7 (by decide) (fun z => absurd z (by omega)) (fun _ => ?_)
      refine lv_aload_n hx hb d_AR_fillI_10 rfl (lv_at hl 2 rfl) ?_
      refine lv_iload_n hx hb d_AR_fillI_11 rfl (lv_at hl 1 rfl) ?_
      refine lv_iload_n hx hb d_AR_fillI_12 rfl (lv_at hl 3 rfl) ?_
      refine mh_iastN K0 hX hS hc (by omega) (by omega) d_AR_fillI_13 (fun H locs hX hS => ?_)
      have fs6 := mh_self hX
      refine lv_iinc (v := nI (j + 1)) (k := 1) (lv' := [(2, .int (nI (j + 1))), (3, .int (nI n0)), (0, .ref a), (1, .int v)]) hx hb d_AR_fillI_14 hl rfl (mh_inc j) (by decide) rfl (fun ls hl => ?_)
      refine lv_goto (tgt := 5) hx hb d_AR_fillI_17 (by decide) ?_
      exact ih (j + 1) _ (upd g j v) _ _ _ hX hS (lv_sub hl [1, 0, 2, 3] rfl) (by omega) (mh_set_eq _ _ _ _) (hF.set (by omega) (by omega)) (fun z hz => if e : z = j then (by rw [e]; exact pk_us) else (pk_un e).trans (hg z (by omega)))
  exact LP n0 0 _ f _ _ _ hX hS hl (by omega) h mh_F.rf (fun z hz => absurd hz (Nat.not_lt_zero z))
set_option maxHeartbeats 4000000 in
set_option maxRecDepth 100000 in
theorem c_KS_dropAll {l : Launch} {b : Nat} {dC : Nat → ClassId} {dI : Nat → Nat → Nat} {dA : Nat → ClassId} {zs : Nat → Nat} {w : mh_w} {k i a : Nat} {rd : Nat → Bool} (h : rK dA w k i a rd) : mh_Met l b dC dI dA zs y_KS_dropAll (mh_rm 1 0 0) [.ref a] w (mh_V none (fun w' => rK dA w' k i a (fun _ => false) ∧ mh_F w w' k 2 i)) := by
  obtain ⟨a1, f, h0, h1, hf⟩ := h
  refine mh_ofW (cc := b_KS_dropAll) (n := 1) (ret := none) (hs := []) (by decide) k582 ?_
  intro p e s m below meth c hx hb hr hml hown hts hlocks hnm hT hOK hadm
  have K0 : mh_K0 p s m ([.ref a]).toArray c "MeldHost$KeySet" b_KS_dropAll dC dI dA := ⟨hx, hb, hown, hts, hOK.1, hOK.2.1⟩
  have hX := hOK.2.2.2.2
  have hb0 := hOK.2.2.2.1
  have hS : va_S (mh_A b) s.heap s.heap [] := va_S.rf
  have hl := lv_entry ([.ref a]) (n := 1) (Nat.le_of_ble_eq_true rfl)
  rw [lg_entry_eq]
  generalize (lg_sl ([.ref a]) ++ List.replicate (1 - (lg_sl ([.ref a])).length) Slot.unset).toArray = ls at hl ⊢
  have hl : lv_has ls 1 [(0, .ref a)] := hl
  refine lv_aload_n hx hb d_KS_dropAll_0 rfl (lv_at hl 0 rfl) ?_
  refine mh_get K0 hX h0 f_KS_11 rfl d_KS_dropAll_1 ?_
  refine lv_lconst (v := 0) hx hb d_KS_dropAll_4 rfl ?_
  refine mh_callV (mh_sS (rest := []) (av := [.ref a1, .long 0]) K0 e_AR_fillJ l_KS_17 k584 rfl rfl d_KS_dropAll_5) (c_AR_fillJ h1 (by decide)) K0 hOK hml hl.1 e_AR_fillJ hX hS d_KS_dropAll_5 (Nat.le_of_ble_eq_true rfl) (Nat.le_of_ble_eq_true rfl) (Nat.le_of_ble_eq_true rfl) (Nat.le_of_ble_eq_true rfl) (Nat.le_of_ble_eq_true rfl) (fun w1 H locs ⟨⟨g, hg, hz⟩, hF⟩ hX hS => ?_)
  refine W.eq (g2 := F0 m 8 ls []) rfl ?_
  exact mh_vret K0 hr hlocks hX hS (⟨rfl, ⟨a1, g, (hF k i (by omega)).trans h0, hg, fun j hj => by unfold pb_b; rw [hz _ (by omega)]; simp⟩, fun k2 i2 h2 => hF k2 i2 (by omega)⟩) (Nat.le_of_ble_eq_true rfl) (Nat.le_of_ble_eq_true rfl) d_KS_dropAll_8
set_option maxHeartbeats 4000000 in
set_option maxRecDepth 100000 in
theorem c_KS_copyFrom {l : Launch} {b : Nat} {dC : Nat → ClassId} {dI : Nat → Nat → Nat} {dA : Nat → ClassId} {zs : Nat → Nat} {w : mh_w} {k i a : Nat} {rd : Nat → Bool} (h : rK dA w k i a rd) {k2 i2 a2 : Nat} {rd2 : Nat → Bool} (h2 : rK dA w k2 i2 a2 rd2) : mh_Met l b dC dI dA zs y_KS_copyFrom (mh_rm 1 0 0) [.ref a, .ref a2] w (mh_V none (fun w' => rK dA w' k i a rd2 ∧ mh_F w w' k 2 i)) := by
  obtain ⟨a1, f, h0, h1, hf⟩ := h
  obtain ⟨b1, g, g0, g1, hg⟩ := h2
  refine mh_ofW (cc := b_KS_copyFrom) (n := 2) (ret := none) (hs := []) (by decide) k288 ?_
  intro p e s m below meth c hx hb hr hml hown hts hlocks hnm hT hOK hadm
  have K0 : mh_K0 p s m ([.ref a, .ref a2]).toArray c "MeldHost$KeySet" b_KS_copyFrom dC dI dA := ⟨hx, hb, hown, hts, hOK.1, hOK.2.1⟩
  have hX := hOK.2.2.2.2
  have hb0 := hOK.2.2.2.1
  have hS : va_S (mh_A b) s.heap s.heap [] := va_S.rf
  have hl := lv_entry ([.ref a, .ref a2]) (n := 2) (Nat.le_of_ble_eq_true rfl)
  rw [lg_entry_eq]
  generalize (lg_sl ([.ref a, .ref a2]) ++ List.replicate (2 - (lg_sl ([.ref a, .ref a2])).length) Slot.unset).toArray = ls at hl ⊢
  have hl : lv_has ls 2 [(0, .ref a), (1, .ref a2)] := hl
  refine lv_aload_n hx hb d_KS_copyFrom_0 rfl (lv_at hl 1 rfl) ?_
  refine mh_get K0 hX g0 f_KS_11 rfl d_KS_copyFrom_1 ?_
  refine lv_iconst (v := nI 0) hx hb d_KS_copyFrom_4 (by decide) ?_
  refine lv_aload_n hx hb d_KS_copyFrom_5 rfl (lv_at hl 0 rfl) ?_
  refine mh_get K0 hX h0 f_KS_11 rfl d_KS_copyFrom_6 ?_
  refine lv_iconst (v := nI 0) hx hb d_KS_copyFrom_9 (by decide) ?_
  refine lv_aload_n hx hb d_KS_copyFrom_10 rfl (lv_at hl 0 rfl) ?_
  refine mh_get K0 hX h0 f_KS_11 rfl d_KS_copyFrom_11 ?_
  refine mh_alen 1 rfl K0 hX h1 d_KS_copyFrom_14 ?_
  refine mh_copyl (rest := []) K0 hml hl.1 k289 k291 k290 k17 hX hS g1 h1 (n := 4) (by omega) (by omega) (by omega) (Nat.le_of_ble_eq_true rfl) (Nat.le_of_ble_eq_true rfl) d_KS_copyFrom_15 (fun H locs hX hS => ?_)
  have fs7 := mh_self hX
  exact mh_vret K0 hr hlocks hX hS (⟨rfl, ⟨a1, _, mh_kp h0 (by omega), mh_set_eq _ _ _ _, fun j hj => by unfold pb_b; rw [pk_cpy_in (by omega) (by omega), Nat.zero_add, Nat.sub_zero]; exact hg j hj⟩, mh_F.rf.set (by omega) (by omega)⟩) (Nat.le_of_ble_eq_true rfl) (Nat.le_of_ble_eq_true rfl) d_KS_copyFrom_18
set_option maxHeartbeats 4000000 in
set_option maxRecDepth 100000 in
theorem c_LG_bitCount {l : Launch} {b : Nat} {dC : Nat → ClassId} {dI : Nat → Nat → Nat} {dA : Nat → ClassId} {zs : Nat → Nat} {w : mh_w} {x : Int64} : mh_Met l b dC dI dA zs y_LG_bitCount (mh_rm 0 0 0) [.long x] w (mh_V (some (.int (nI (pb_pc 64 (pb_N x))))) (fun w' => w' = w)) := by
  refine mh_ofW (cc := b_LG_bitCount) (n := 2) (ret := (some .int)) (hs := []) (by decide) k629 ?_
  intro p e s m below meth c hx hb hr hml hown hts hlocks hnm hT hOK hadm
  have K0 : mh_K0 p s m ([.long x]).toArray c "java/lang/Long" b_LG_bitCount dC dI dA := ⟨hx, hb, hown, hts, hOK.1, hOK.2.1⟩
  have hX := hOK.2.2.2.2
  have hb0 := hOK.2.2.2.1
  have hS : va_S (mh_A b) s.heap s.heap [] := va_S.rf
  have hl := lv_entry ([.long x]) (n := 2) (Nat.le_of_ble_eq_true rfl)
  rw [lg_entry_eq]
  generalize (lg_sl ([.long x]) ++ List.replicate (2 - (lg_sl ([.long x])).length) Slot.unset).toArray = ls at hl ⊢
  have hl : lv_has ls 2 [(0, .long x)] := hl
  refine lv_lload_n hx hb d_LG_bitCount_0 rfl (lv_at hl 0 rfl) ?_
  refine lv_lload_n hx hb d_LG_bitCount_1 rfl (lv_at hl 0 rfl) ?_
  refine lv_iconst (v := nI 1) hx hb d_LG_bitCount_2 (by decide) ?_
  refine lv_lushr hx hb d_LG_bitCount_3 rfl ?_
  refine lv_ldc2 hx hb hown (hts _ k630) d_LG_bitCount_4 ?_
  refine lv_land hx hb d_LG_bitCount_7 ?_
  refine lv_lsub hx hb d_LG_bitCount_8 ?_
  refine lv_topl (fun v1 e1 => ?_)
  refine lv_lstore_n (lv' := [(0, .long v1)]) hx hb d_LG_bitCount_9 rfl hl (by decide) rfl (fun ls hl => ?_)
  refine lv_lload_n hx hb d_LG_bitCount_10 rfl (lv_at hl 0 rfl) ?_
  refine lv_ldc2 hx hb hown (hts _ k631) d_LG_bitCount_11 ?_
  refine lv_land hx hb d_LG_bitCount_14 ?_
  refine lv_lload_n hx hb d_LG_bitCount_15 rfl (lv_at hl 0 rfl) ?_
  refine lv_iconst (v := nI 2) hx hb d_LG_bitCount_16 (by decide) ?_
  refine lv_lushr hx hb d_LG_bitCount_17 rfl ?_
  refine lv_ldc2 hx hb hown (hts _ k631) d_LG_bitCount_18 ?_
  refine lv_land hx hb d_LG_bitCount_21 ?_
  refine lv_ladd hx hb d_LG_bitCount_22 ?_
  refine lv_topl (fun v2 e2 => ?_)
  refine lv_lstore_n (lv' := [(0, .long v2)]) hx hb d_LG_bitCount_23 rfl hl (by decide) rfl (fun ls hl => ?_)
  refine lv_lload_n hx hb d_LG_bitCount_24 rfl (lv_at hl 0 rfl) ?_
  refine lv_lload_n hx hb d_LG_bitCount_25 rfl (lv_at hl 0 rfl) ?_
  refine lv_iconst (v := nI 4) hx hb d_LG_bitCount_26 (by decide) ?_
  refine lv_lushr hx hb d_LG_bitCount_27 rfl ?_
  refine lv_ladd hx hb d_LG_bitCount_28 ?_
  refine lv_ldc2 hx hb hown (hts _ k632) d_LG_bitCount_29 ?_
  refine lv_land hx hb d_LG_bitCount_32 ?_
  refine lv_topl (fun v3 e3 => ?_)
  refine lv_lstore_n (lv' := [(0, .long v3)]) hx hb d_LG_bitCount_33 rfl hl (by decide) rfl (fun ls hl => ?_)
  refine lv_lload_n hx hb d_LG_bitCount_34 rfl (lv_at hl 0 rfl) ?_
  refine lv_lload_n hx hb d_LG_bitCount_35 rfl (lv_at hl 0 rfl) ?_
  refine lv_bipush (v := nI 8) hx hb d_LG_bitCount_36 (by decide) ?_
  refine lv_lushr hx hb d_LG_bitCount_38 rfl ?_
  refine lv_ladd hx hb d_LG_bitCount_39 ?_
  refine lv_topl (fun v4 e4 => ?_)
  refine lv_lstore_n (lv' := [(0, .long v4)]) hx hb d_LG_bitCount_40 rfl hl (by decide) rfl (fun ls hl => ?_)
  refine lv_lload_n hx hb d_LG_bitCount_41 rfl (lv_at hl 0 rfl) ?_
  refine lv_lload_n hx hb d_LG_bitCount_42 rfl (lv_at hl 0 rfl) ?_
  refine lv_bipush (v := nI 16) hx hb d_LG_bitCount_43 (by decide) ?_
  refine lv_lushr hx hb d_LG_bitCount_45 rfl ?_
  refine lv_ladd hx hb d_LG_bitCount_46 ?_
  refine lv_topl (fun v5 e5 => ?_)
  refine lv_lstore_n (lv' := [(0, .long v5)]) hx hb d_LG_bitCount_47 rfl hl (by decide) rfl (fun ls hl => ?_)
  refine lv_lload_n hx hb d_LG_bitCount_48 rfl (lv_at hl 0 rfl) ?_
  refine lv_lload_n hx hb d_LG_bitCount_49 rfl (lv_at hl 0 rfl) ?_
  refine lv_bipush (v := nI 32) hx hb d_LG_bitCount_50 (by decide) ?_
  refine lv_lushr hx hb d_LG_bitCount_52 rfl ?_
  refine lv_ladd hx hb d_LG_bitCount_53 ?_
  refine lv_topl (fun v6 e6 => ?_)
  refine lv_lstore_n (lv' := [(0, .long v6)]) hx hb d_LG_bitCount_54 rfl hl (by decide) rfl (fun ls hl => ?_)
  refine lv_lload_n hx hb d_LG_bitCount_55 rfl (lv_at hl 0 rfl) ?_
  refine lv_l2i hx hb d_LG_bitCount_56 rfl ?_
  refine lv_bipush (v := nI 127) hx hb d_LG_bitCount_57 (by decide) ?_
  refine lv_iand hx hb d_LG_bitCount_59 ?_
  refine mh_ti (y := nI (pb_pc 64 (pb_N x))) (pb_bits e1 e2 e3 e4 e5 e6) ?_
  exact mh_iret K0 hr rfl hlocks hX hS (⟨rfl, rfl⟩) (Nat.le_of_ble_eq_true rfl) (Nat.le_of_ble_eq_true rfl) d_LG_bitCount_60
set_option maxHeartbeats 4000000 in
set_option maxRecDepth 100000 in
theorem c_KS_size {l : Launch} {b : Nat} {dC : Nat → ClassId} {dI : Nat → Nat → Nat} {dA : Nat → ClassId} {zs : Nat → Nat} {w : mh_w} {k i a : Nat} {rd : Nat → Bool} (h : rK dA w k i a rd) : mh_Met l b dC dI dA zs y_KS_size (mh_rm 1 0 0) [.ref a] w (mh_V (some (.int (nI (pb_cnt rd 256)))) (fun w' => w' = w)) := by
  obtain ⟨a1, f, h0, h1, hf⟩ := h
  refine mh_ofW (cc := b_KS_size) (n := 3) (ret := (some .int)) (hs := []) (by decide) k626 ?_
  intro p e s m below meth c hx hb hr hml hown hts hlocks hnm hT hOK hadm
  have K0 : mh_K0 p s m ([.ref a]).toArray c "MeldHost$KeySet" b_KS_size dC dI dA := ⟨hx, hb, hown, hts, hOK.1, hOK.2.1⟩
  have hX := hOK.2.2.2.2
  have hb0 := hOK.2.2.2.1
  have hS : va_S (mh_A b) s.heap s.heap [] := va_S.rf
  have hl := lv_entry ([.ref a]) (n := 3) (Nat.le_of_ble_eq_true rfl)
  rw [lg_entry_eq]
  generalize (lg_sl ([.ref a]) ++ List.replicate (3 - (lg_sl ([.ref a])).length) Slot.unset).toArray = ls at hl ⊢
  have hl : lv_has ls 3 [(0, .ref a)] := hl
  refine lv_iconst (v := nI 0) hx hb d_KS_size_0 (by decide) ?_
  refine lv_istore_n (lv' := [(1, .int (nI 0)), (0, .ref a)]) hx hb d_KS_size_1 rfl hl (by decide) rfl (fun ls hl => ?_)
  refine lv_iconst (v := nI 0) hx hb d_KS_size_2 (by decide) ?_
  refine lv_istore_n (lv' := [(2, .int (nI 0)), (1, .int (nI 0)), (0, .ref a)]) hx hb d_KS_size_3 rfl hl (by decide) rfl (fun ls hl => ?_)
  have LP : ∀ (n : Nat) (j : Nat) (H : Heap) (locs : List Loc) (ls : Array Slot), mh_P (dC, dI) b w H → va_S (mh_A b) s.heap H locs → lv_has ls 3 [(2, .int (nI j)), (1, .int (nI (pb_cnt (pb_b f) (64 * j)))), (0, .ref a)] → (j + n = 4) → W p l e (mh_rm 1 0 0) s m ([.ref a]).toArray below meth c H locs (0) (0) (mh_MQ below b dC dI (mh_V (some (.int (nI (pb_cnt rd 256)))) (fun w' => w' = w)) ([.ref a]).toArray s 0 0) (F0 m 4 ls []) := by
    intro n
    induction n with
    | zero =>
      intro j H locs ls hX hS hl hn
      refine lv_iload_n hx hb d_KS_size_4 rfl (lv_at hl 0 rfl) ?_
      refine lv_aload_n hx hb d_KS_size_5 rfl (lv_at hl 2 rfl) ?_
      refine mh_get K0 hX h0 f_KS_11 rfl d_KS_size_6 ?_
      refine mh_alen 1 rfl K0 hX h1 d_KS_size_9 ?_
      refine mh_icmp_ge (tgt := 31) hx hb (by omega) (by omega) d_KS_size_10 (by decide) (fun _ => ?_) (fun z => absurd z (by omega))
      refine lv_iload_n hx hb d_KS_size_31 rfl (lv_at hl 1 rfl) ?_
      exact mh_iret K0 hr rfl hlocks hX hS (⟨by rw [show j = 4 by omega, pb_cnt_congr (f := pb_b f) (g := rd) (n := 256) hf], rfl⟩) (Nat.le_of_ble_eq_true rfl) (Nat.le_of_ble_eq_true rfl) d_KS_size_32
    | succ n ih =>
      intro j H locs ls hX hS hl hn
      refine lv_iload_n hx hb d_KS_size_4 rfl (lv_at hl 0 rfl) ?_
      refine lv_aload_n hx hb d_KS_size_5 rfl (lv_at hl 2 rfl) ?_
      refine mh_get K0 hX h0 f_KS_11 rfl d_KS_size_6 ?_
      refine mh_alen 1 rfl K0 hX h1 d_KS_size_9 ?_
      refine mh_icmp_ge (tgt := 31) hx hb (by omega) (by omega) d_KS_size_10 (by decide) (fun z => absurd z (by omega)) (fun _ => ?_)
      refine lv_iload_n hx hb d_KS_size_13 rfl (lv_at hl 1 rfl) ?_
      refine lv_aload_n hx hb d_KS_size_14 rfl (lv_at hl 2 rfl) ?_
      refine mh_get K0 hX h0 f_KS_11 rfl d_KS_size_15 ?_
      refine lv_iload_n hx hb d_KS_size_18 rfl (lv_at hl 0 rfl) ?_
      refine mh_laldN K0 hX h1 (by omega) (by omega) d_KS_size_19 ?_
      refine mh_callR (mh_sS (rest := [.int (nI (pb_cnt (pb_b f) (64 * j)))]) (av := [.long (f j)]) K0 e_LG_bitCount l_KS_29 k628 rfl rfl d_KS_size_20) (c_LG_bitCount) K0 hOK hml hl.1 e_LG_bitCount hX hS d_KS_size_20 (Nat.le_of_ble_eq_true rfl) (Nat.le_of_ble_eq_true rfl) (Nat.le_of_ble_eq_true rfl) (Nat.le_of_ble_eq_true rfl) (Nat.le_of_ble_eq_true rfl) (fun H locs hX hS => ?_)
      refine W.eq (g2 := F0 m 23 ls [.int (nI (pb_pc 64 (pb_N (f j)))), .int (nI (pb_cnt (pb_b f) (64 * j)))]) rfl ?_
      refine mh_addN hx hb d_KS_size_23 ?_
      refine mh_ti (y := nI (pb_cnt (pb_b f) (64 * (j + 1)))) (by rw [pb_word]) ?_
      refine lv_istore_n (lv' := [(1, .int (nI (pb_cnt (pb_b f) (64 * (j + 1))))), (2, .int (nI j)), (0, .ref a)]) hx hb d_KS_size_24 rfl hl (by decide) rfl (fun ls hl => ?_)
      refine lv_iinc (v := nI (j + 1)) (k := 1) (lv' := [(2, .int (nI (j + 1))), (1, .int (nI (pb_cnt (pb_b f) (64 * (j + 1))))), (0, .ref a)]) hx hb d_KS_size_25 hl rfl (mh_inc j) (by decide) rfl (fun ls hl => ?_)
      refine lv_goto (tgt := 4) hx hb d_KS_size_28 (by decide) ?_
      exact ih (j + 1) _ _ _ hX hS hl (by omega)
  exact LP 4 0 _ _ _ hX hS hl rfl
end
section
theorem tl_n_t {st : Nat → Option Int64} {low j : Nat} (h : (st (low + j)).isSome = true) : tl_n st low (j + 1) = tl_n st low j + 1 := by
  unfold tl_n
  rw [pb_cnt]
  simp [h]
theorem tl_n_f {st : Nat → Option Int64} {low j : Nat} (h : (st (low + j)).isSome = false) : tl_n st low (j + 1) = tl_n st low j := by
  unfold tl_n
  rw [pb_cnt]
  simp [h]
theorem tl_n_le (st : Nat → Option Int64) (low m : Nat) : tl_n st low m ≤ m := pb_cnt_le _ _
theorem tl_s_t {st : Nat → Option Int64} {low j : Nat} {v : Int64} (h : st (low + j) = some v) : tl_s st low (j + 1) = tl_s st low j + v := by rw [tl_s, h]
theorem tl_s_f {st : Nat → Option Int64} {low j : Nat} (h : (st (low + j)).isSome = false) : tl_s st low (j + 1) = tl_s st low j := by
  rw [tl_s]
  cases e : st (low + j) with
  | none => rfl
  | some v => rw [e] at h; cases h
theorem tl_l_t {st : Nat → Option Int64} {low j : Nat} (h0 : tl_l st low j = none) (h : (st (low + j)).isSome = true) : tl_l st low (j + 1) = some (low + j) := by rw [tl_l, h0]; exact if_pos h
theorem tl_l_f {st : Nat → Option Int64} {low j : Nat} (h0 : tl_l st low j = none) (h : (st (low + j)).isSome = false) : tl_l st low (j + 1) = none := by rw [tl_l, h0]; exact if_neg (by rw [h]; decide)
theorem tl_l_on {st : Nat → Option Int64} {low j k n : Nat} (h : tl_l st low j = some k) : tl_l st low (j + n) = some k := by
  induction n with
  | zero => exact h
  | succ n ih => rw [← Nat.add_assoc, tl_l, ih]
theorem tl_g_t {st : Nat → Option Int64} {low j : Nat} (h : (st (low + j)).isSome = true) : tl_g st low (j + 1) = some (low + j) := by rw [tl_g]; exact if_pos h
theorem tl_g_f {st : Nat → Option Int64} {low j : Nat} (h : (st (low + j)).isSome = false) : tl_g st low (j + 1) = tl_g st low j := by rw [tl_g]; exact if_neg (by rw [h]; decide)
theorem nI_dlt : ∀ n, n < 256 → nI n - 1 < nI n := by decide +kernel
theorem tl_a0 {st : Nat → Option Int64} {low m : Nat} : tl_a st low m (nI 0) = lN (tl_n st low m) := if_pos rfl
theorem tl_a1 {st : Nat → Option Int64} {low m : Nat} : tl_a st low m (nI 1) = tl_s st low m := rfl
theorem tl_a2 {st : Nat → Option Int64} {low m : Nat} : tl_a st low m (nI 2) = (tl_i (tl_l st low m)).toInt64 := rfl
theorem tl_a3 {st : Nat → Option Int64} {low m : Nat} : tl_a st low m (nI 3) = (tl_i (tl_g st low m)).toInt64 := rfl
theorem va_up_some {st : Nat → Option Int64} {key j : Nat} {v : Int64} : (va_up st key (some v) j).isSome = (decide (j = key) || (st j).isSome) := by
  by_cases e : j = key
  · subst e; rw [va_up_self]; simp
  · rw [va_up_ne _ _ e]; simp [e]
theorem va_up_none {st : Nat → Option Int64} {key j : Nat} : (va_up st key none j).isSome = (!decide (j = key) && (st j).isSome) := by
  by_cases e : j = key
  · subst e; rw [va_up_self]; simp
  · rw [va_up_ne _ _ e]; simp [e]
theorem d_NU_init_0 : decode b_NU_init 0 = .ok (.aload_n 0, 1) := by decide +kernel
theorem d_NU_init_1 : decode b_NU_init 1 = .ok (.invokespecial 3, 3) := by decide +kernel
theorem d_NU_init_4 : decode b_NU_init 4 = .ok (.aload_n 0, 1) := by decide +kernel
theorem d_NU_init_5 : decode b_NU_init 5 = .ok (.new 9, 3) := by decide +kernel
theorem d_NU_init_8 : decode b_NU_init 8 = .ok (.dup, 1) := by decide +kernel
theorem d_NU_init_9 : decode b_NU_init 9 = .ok (.invokespecial 11, 3) := by decide +kernel
theorem d_NU_init_12 : decode b_NU_init 12 = .ok (.putfield 12, 3) := by decide +kernel
theorem d_NU_init_15 : decode b_NU_init 15 = .ok (.aload_n 0, 1) := by decide +kernel
theorem d_NU_init_16 : decode b_NU_init 16 = .ok (.sipush 256, 3) := by decide +kernel
theorem d_NU_init_19 : decode b_NU_init 19 = .ok (.newarray .long, 2) := by decide +kernel
theorem d_NU_init_21 : decode b_NU_init 21 = .ok (.putfield 18, 3) := by decide +kernel
theorem d_NU_init_24 : decode b_NU_init 24 = .ok (.return_, 1) := by decide +kernel
theorem d_NU_give_0 : decode b_NU_give 0 = .ok (.aload_n 0, 1) := by decide +kernel
theorem d_NU_give_1 : decode b_NU_give 1 = .ok (.getfield 12, 3) := by decide +kernel
theorem d_NU_give_4 : decode b_NU_give 4 = .ok (.iload_n 1, 1) := by decide +kernel
theorem d_NU_give_5 : decode b_NU_give 5 = .ok (.invokevirtual 22, 3) := by decide +kernel
theorem d_NU_give_8 : decode b_NU_give 8 = .ok (.aload_n 0, 1) := by decide +kernel
theorem d_NU_give_9 : decode b_NU_give 9 = .ok (.getfield 18, 3) := by decide +kernel
theorem d_NU_give_12 : decode b_NU_give 12 = .ok (.iload_n 1, 1) := by decide +kernel
theorem d_NU_give_13 : decode b_NU_give 13 = .ok (.lload_n 2, 1) := by decide +kernel
theorem d_NU_give_14 : decode b_NU_give 14 = .ok (.lastore, 1) := by decide +kernel
theorem d_NU_give_15 : decode b_NU_give 15 = .ok (.return_, 1) := by decide +kernel
theorem d_NU_take_0 : decode b_NU_take 0 = .ok (.aload_n 0, 1) := by decide +kernel
theorem d_NU_take_1 : decode b_NU_take 1 = .ok (.getfield 12, 3) := by decide +kernel
theorem d_NU_take_4 : decode b_NU_take 4 = .ok (.iload_n 1, 1) := by decide +kernel
theorem d_NU_take_5 : decode b_NU_take 5 = .ok (.invokevirtual 26, 3) := by decide +kernel
theorem d_NU_take_8 : decode b_NU_take 8 = .ok (.return_, 1) := by decide +kernel
theorem d_NU_takeAll_0 : decode b_NU_takeAll 0 = .ok (.aload_n 0, 1) := by decide +kernel
theorem d_NU_takeAll_1 : decode b_NU_takeAll 1 = .ok (.getfield 12, 3) := by decide +kernel
theorem d_NU_takeAll_4 : decode b_NU_takeAll 4 = .ok (.invokevirtual 29, 3) := by decide +kernel
theorem d_NU_takeAll_7 : decode b_NU_takeAll 7 = .ok (.return_, 1) := by decide +kernel
theorem d_NU_copyFrom_0 : decode b_NU_copyFrom 0 = .ok (.aload_n 0, 1) := by decide +kernel
theorem d_NU_copyFrom_1 : decode b_NU_copyFrom 1 = .ok (.getfield 12, 3) := by decide +kernel
theorem d_NU_copyFrom_4 : decode b_NU_copyFrom 4 = .ok (.aload_n 1, 1) := by decide +kernel
theorem d_NU_copyFrom_5 : decode b_NU_copyFrom 5 = .ok (.getfield 12, 3) := by decide +kernel
theorem d_NU_copyFrom_8 : decode b_NU_copyFrom 8 = .ok (.invokevirtual 32, 3) := by decide +kernel
theorem d_NU_copyFrom_11 : decode b_NU_copyFrom 11 = .ok (.aload_n 1, 1) := by decide +kernel
theorem d_NU_copyFrom_12 : decode b_NU_copyFrom 12 = .ok (.getfield 18, 3) := by decide +kernel
theorem d_NU_copyFrom_15 : decode b_NU_copyFrom 15 = .ok (.iconst 0, 1) := by decide +kernel
theorem d_NU_copyFrom_16 : decode b_NU_copyFrom 16 = .ok (.aload_n 0, 1) := by decide +kernel
theorem d_NU_copyFrom_17 : decode b_NU_copyFrom 17 = .ok (.getfield 18, 3) := by decide +kernel
theorem d_NU_copyFrom_20 : decode b_NU_copyFrom 20 = .ok (.iconst 0, 1) := by decide +kernel
theorem d_NU_copyFrom_21 : decode b_NU_copyFrom 21 = .ok (.sipush 256, 3) := by decide +kernel
theorem d_NU_copyFrom_24 : decode b_NU_copyFrom 24 = .ok (.invokestatic 36, 3) := by decide +kernel
theorem d_NU_copyFrom_27 : decode b_NU_copyFrom 27 = .ok (.return_, 1) := by decide +kernel
theorem d_NU_howMany_0 : decode b_NU_howMany 0 = .ok (.iconst 0, 1) := by decide +kernel
theorem d_NU_howMany_1 : decode b_NU_howMany 1 = .ok (.istore_n 3, 1) := by decide +kernel
theorem d_NU_howMany_2 : decode b_NU_howMany 2 = .ok (.iload_n 1, 1) := by decide +kernel
theorem d_NU_howMany_3 : decode b_NU_howMany 3 = .ok (.istore 4, 2) := by decide +kernel
theorem d_NU_howMany_5 : decode b_NU_howMany 5 = .ok (.iload 4, 2) := by decide +kernel
theorem d_NU_howMany_7 : decode b_NU_howMany 7 = .ok (.iload_n 2, 1) := by decide +kernel
theorem d_NU_howMany_8 : decode b_NU_howMany 8 = .ok (.if_icmp .gt 24, 3) := by decide +kernel
theorem d_NU_howMany_32 : decode b_NU_howMany 32 = .ok (.iload_n 3, 1) := by decide +kernel
theorem d_NU_howMany_33 : decode b_NU_howMany 33 = .ok (.ireturn, 1) := by decide +kernel
theorem d_NU_howMany_11 : decode b_NU_howMany 11 = .ok (.aload_n 0, 1) := by decide +kernel
theorem d_NU_howMany_12 : decode b_NU_howMany 12 = .ok (.getfield 12, 3) := by decide +kernel
theorem d_NU_howMany_15 : decode b_NU_howMany 15 = .ok (.iload 4, 2) := by decide +kernel
theorem d_NU_howMany_17 : decode b_NU_howMany 17 = .ok (.invokevirtual 56, 3) := by decide +kernel
theorem d_NU_howMany_20 : decode b_NU_howMany 20 = .ok (.ifCond .eq 6, 3) := by decide +kernel
theorem d_NU_howMany_26 : decode b_NU_howMany 26 = .ok (.iinc 4 1, 3) := by decide +kernel
theorem d_NU_howMany_29 : decode b_NU_howMany 29 = .ok (.goto (-24), 3) := by decide +kernel
theorem d_NU_howMany_23 : decode b_NU_howMany 23 = .ok (.iinc 3 1, 3) := by decide +kernel
theorem d_NU_sum_0 : decode b_NU_sum 0 = .ok (.lconst 0, 1) := by decide +kernel
theorem d_NU_sum_1 : decode b_NU_sum 1 = .ok (.lstore_n 3, 1) := by decide +kernel
theorem d_NU_sum_2 : decode b_NU_sum 2 = .ok (.iload_n 1, 1) := by decide +kernel
theorem d_NU_sum_3 : decode b_NU_sum 3 = .ok (.istore 5, 2) := by decide +kernel
theorem d_NU_sum_5 : decode b_NU_sum 5 = .ok (.iload 5, 2) := by decide +kernel
theorem d_NU_sum_7 : decode b_NU_sum 7 = .ok (.iload_n 2, 1) := by decide +kernel
theorem d_NU_sum_8 : decode b_NU_sum 8 = .ok (.if_icmp .gt 31, 3) := by decide +kernel
theorem d_NU_sum_39 : decode b_NU_sum 39 = .ok (.lload_n 3, 1) := by decide +kernel
theorem d_NU_sum_40 : decode b_NU_sum 40 = .ok (.lreturn, 1) := by decide +kernel
theorem d_NU_sum_11 : decode b_NU_sum 11 = .ok (.aload_n 0, 1) := by decide +kernel
theorem d_NU_sum_12 : decode b_NU_sum 12 = .ok (.getfield 12, 3) := by decide +kernel
theorem d_NU_sum_15 : decode b_NU_sum 15 = .ok (.iload 5, 2) := by decide +kernel
theorem d_NU_sum_17 : decode b_NU_sum 17 = .ok (.invokevirtual 56, 3) := by decide +kernel
theorem d_NU_sum_20 : decode b_NU_sum 20 = .ok (.ifCond .eq 13, 3) := by decide +kernel
theorem d_NU_sum_33 : decode b_NU_sum 33 = .ok (.iinc 5 1, 3) := by decide +kernel
theorem d_NU_sum_36 : decode b_NU_sum 36 = .ok (.goto (-31), 3) := by decide +kernel
theorem d_NU_sum_23 : decode b_NU_sum 23 = .ok (.lload_n 3, 1) := by decide +kernel
theorem d_NU_sum_24 : decode b_NU_sum 24 = .ok (.aload_n 0, 1) := by decide +kernel
theorem d_NU_sum_25 : decode b_NU_sum 25 = .ok (.getfield 18, 3) := by decide +kernel
theorem d_NU_sum_28 : decode b_NU_sum 28 = .ok (.iload 5, 2) := by decide +kernel
theorem d_NU_sum_30 : decode b_NU_sum 30 = .ok (.laload, 1) := by decide +kernel
theorem d_NU_sum_31 : decode b_NU_sum 31 = .ok (.ladd, 1) := by decide +kernel
theorem d_NU_sum_32 : decode b_NU_sum 32 = .ok (.lstore_n 3, 1) := by decide +kernel
theorem d_NU_least_0 : decode b_NU_least 0 = .ok (.iload_n 1, 1) := by decide +kernel
theorem d_NU_least_1 : decode b_NU_least 1 = .ok (.istore_n 3, 1) := by decide +kernel
theorem d_NU_least_2 : decode b_NU_least 2 = .ok (.iload_n 3, 1) := by decide +kernel
theorem d_NU_least_3 : decode b_NU_least 3 = .ok (.iload_n 2, 1) := by decide +kernel
theorem d_NU_least_4 : decode b_NU_least 4 = .ok (.if_icmp .gt 22, 3) := by decide +kernel
theorem d_NU_least_26 : decode b_NU_least 26 = .ok (.iconst (-1), 1) := by decide +kernel
theorem d_NU_least_27 : decode b_NU_least 27 = .ok (.ireturn, 1) := by decide +kernel
theorem d_NU_least_7 : decode b_NU_least 7 = .ok (.aload_n 0, 1) := by decide +kernel
theorem d_NU_least_8 : decode b_NU_least 8 = .ok (.getfield 12, 3) := by decide +kernel
theorem d_NU_least_11 : decode b_NU_least 11 = .ok (.iload_n 3, 1) := by decide +kernel
theorem d_NU_least_12 : decode b_NU_least 12 = .ok (.invokevirtual 56, 3) := by decide +kernel
theorem d_NU_least_15 : decode b_NU_least 15 = .ok (.ifCond .eq 5, 3) := by decide +kernel
theorem d_NU_least_20 : decode b_NU_least 20 = .ok (.iinc 3 1, 3) := by decide +kernel
theorem d_NU_least_23 : decode b_NU_least 23 = .ok (.goto (-21), 3) := by decide +kernel
theorem d_NU_least_18 : decode b_NU_least 18 = .ok (.iload_n 3, 1) := by decide +kernel
theorem d_NU_least_19 : decode b_NU_least 19 = .ok (.ireturn, 1) := by decide +kernel
theorem d_NU_greatest_0 : decode b_NU_greatest 0 = .ok (.iload_n 2, 1) := by decide +kernel
theorem d_NU_greatest_1 : decode b_NU_greatest 1 = .ok (.istore_n 3, 1) := by decide +kernel
theorem d_NU_greatest_2 : decode b_NU_greatest 2 = .ok (.iload_n 3, 1) := by decide +kernel
theorem d_NU_greatest_3 : decode b_NU_greatest 3 = .ok (.iload_n 1, 1) := by decide +kernel
theorem d_NU_greatest_4 : decode b_NU_greatest 4 = .ok (.if_icmp .lt 22, 3) := by decide +kernel
theorem d_NU_greatest_26 : decode b_NU_greatest 26 = .ok (.iconst (-1), 1) := by decide +kernel
theorem d_NU_greatest_27 : decode b_NU_greatest 27 = .ok (.ireturn, 1) := by decide +kernel
theorem d_NU_greatest_7 : decode b_NU_greatest 7 = .ok (.aload_n 0, 1) := by decide +kernel
theorem d_NU_greatest_8 : decode b_NU_greatest 8 = .ok (.getfield 12, 3) := by decide +kernel
theorem d_NU_greatest_11 : decode b_NU_greatest 11 = .ok (.iload_n 3, 1) := by decide +kernel
theorem d_NU_greatest_12 : decode b_NU_greatest 12 = .ok (.invokevirtual 56, 3) := by decide +kernel
theorem d_NU_greatest_15 : decode b_NU_greatest 15 = .ok (.ifCond .eq 5, 3) := by decide +kernel
theorem d_NU_greatest_20 : decode b_NU_greatest 20 = .ok (.iinc 3 (-1), 3) := by decide +kernel
theorem d_NU_greatest_23 : decode b_NU_greatest 23 = .ok (.goto (-21), 3) := by decide +kernel
theorem d_NU_greatest_18 : decode b_NU_greatest 18 = .ok (.iload_n 3, 1) := by decide +kernel
theorem d_NU_greatest_19 : decode b_NU_greatest 19 = .ok (.ireturn, 1) := by decide +kernel
theorem d_NU_tell_0 : decode b_NU_tell 0 = .ok (.iload_n 3, 1) := by decide +kernel
theorem d_NU_tell_1 : decode b_NU_tell 1 = .ok (.tableswitch 50 0 2 #[27, 35, 42], 27) := by decide +kernel
theorem d_NU_tell_28 : decode b_NU_tell 28 = .ok (.aload_n 0, 1) := by decide +kernel
theorem d_NU_tell_29 : decode b_NU_tell 29 = .ok (.iload_n 1, 1) := by decide +kernel
theorem d_NU_tell_30 : decode b_NU_tell 30 = .ok (.iload_n 2, 1) := by decide +kernel
theorem d_NU_tell_31 : decode b_NU_tell 31 = .ok (.invokevirtual 42, 3) := by decide +kernel
theorem d_NU_tell_34 : decode b_NU_tell 34 = .ok (.i2l, 1) := by decide +kernel
theorem d_NU_tell_35 : decode b_NU_tell 35 = .ok (.lreturn, 1) := by decide +kernel
theorem d_NU_tell_36 : decode b_NU_tell 36 = .ok (.aload_n 0, 1) := by decide +kernel
theorem d_NU_tell_37 : decode b_NU_tell 37 = .ok (.iload_n 1, 1) := by decide +kernel
theorem d_NU_tell_38 : decode b_NU_tell 38 = .ok (.iload_n 2, 1) := by decide +kernel
theorem d_NU_tell_39 : decode b_NU_tell 39 = .ok (.invokevirtual 46, 3) := by decide +kernel
theorem d_NU_tell_42 : decode b_NU_tell 42 = .ok (.lreturn, 1) := by decide +kernel
theorem d_NU_tell_43 : decode b_NU_tell 43 = .ok (.aload_n 0, 1) := by decide +kernel
theorem d_NU_tell_44 : decode b_NU_tell 44 = .ok (.iload_n 1, 1) := by decide +kernel
theorem d_NU_tell_45 : decode b_NU_tell 45 = .ok (.iload_n 2, 1) := by decide +kernel
theorem d_NU_tell_46 : decode b_NU_tell 46 = .ok (.invokevirtual 50, 3) := by decide +kernel
theorem d_NU_tell_49 : decode b_NU_tell 49 = .ok (.i2l, 1) := by decide +kernel
theorem d_NU_tell_50 : decode b_NU_tell 50 = .ok (.lreturn, 1) := by decide +kernel
theorem d_NU_tell_51 : decode b_NU_tell 51 = .ok (.aload_n 0, 1) := by decide +kernel
theorem d_NU_tell_52 : decode b_NU_tell 52 = .ok (.iload_n 1, 1) := by decide +kernel
theorem d_NU_tell_53 : decode b_NU_tell 53 = .ok (.iload_n 2, 1) := by decide +kernel
theorem d_NU_tell_54 : decode b_NU_tell 54 = .ok (.invokevirtual 53, 3) := by decide +kernel
theorem d_NU_tell_57 : decode b_NU_tell 57 = .ok (.i2l, 1) := by decide +kernel
theorem d_NU_tell_58 : decode b_NU_tell 58 = .ok (.lreturn, 1) := by decide +kernel
set_option maxHeartbeats 4000000 in
set_option maxRecDepth 100000 in
theorem c_NU_init {l : Launch} {b : Nat} {dC : Nat → ClassId} {dI : Nat → Nat → Nat} {dA : Nat → ClassId} {zs : Nat → Nat} {w : mh_w} {k i a : Nat} (h : w k i = some (a, .inr (1, [.null, .null]))) : mh_Met l b dC dI dA zs y_NU_init (mh_rm 2 3 261) [.ref a] w (mh_V none (fun w' => rN dA w' k i a (fun _ => none) ∧ mh_F w w' k 4 i)) := by
  refine mh_ofW (cc := b_NU_init) (n := 1) (ret := none) (hs := []) (by decide) k70 ?_
  intro p e s m below meth c hx hb hr hml hown hts hlocks hnm hT hOK hadm
  have K0 : mh_K0 p s m ([.ref a]).toArray c "MeldHost$Numbers" b_NU_init dC dI dA := ⟨hx, hb, hown, hts, hOK.1, hOK.2.1⟩
  have hX := hOK.2.2.2.2
  have hb0 := hOK.2.2.2.1
  have hS : va_S (mh_A b) s.heap s.heap [] := va_S.rf
  have hl := lv_entry ([.ref a]) (n := 1) (Nat.le_of_ble_eq_true rfl)
  rw [lg_entry_eq]
  generalize (lg_sl ([.ref a]) ++ List.replicate (1 - (lg_sl ([.ref a])).length) Slot.unset).toArray = ls at hl ⊢
  have hl : lv_has ls 1 [(0, .ref a)] := hl
  refine lv_aload_n hx hb d_NU_init_0 rfl (lv_at hl 0 rfl) ?_
  refine W.objInit hx hb hown (hts _ k71) (hts _ k31) (hts _ k32) rfl (by rw [hml]; exact hl.1) rfl d_NU_init_1 (Nat.le_of_ble_eq_true rfl) (Nat.le_of_ble_eq_true rfl) ?_
  refine W.eq (g2 := F0 m 4 ls []) rfl ?_
  refine lv_aload_n hx hb d_NU_init_4 rfl (lv_at hl 0 rfl) ?_
  refine mh_new (k + 1) i K0 hX hS hb0 (ci := 0) rfl i_KS ty_KS ty_KS_ok k72 k73 k7 (fs := [.null]) (by decide) (Nat.le_of_ble_eq_true rfl) (Nat.le_of_ble_eq_true rfl) d_NU_init_5 (fun q H hX hS => ?_)
  have fs8 := mh_self hX
  refine lv_dup hx hb d_NU_init_8 rfl ?_
  refine mh_callV (mh_sI (rest := [.ref q, .ref a]) (av := []) K0 e_KS_init l_NU_11 k75 rfl rfl rfl d_NU_init_9) (c_KS_init (mh_set_eq _ _ _ _)) K0 hOK hml hl.1 e_KS_init hX hS d_NU_init_9 (Nat.le_of_ble_eq_true rfl) (Nat.le_of_ble_eq_true rfl) (Nat.le_of_ble_eq_true rfl) (Nat.le_of_ble_eq_true rfl) (Nat.le_of_ble_eq_true rfl) (fun w1 H locs ⟨hK, hF⟩ hX hS => ?_)
  refine W.eq (g2 := F0 m 12 ls [.ref q, .ref a]) rfl ?_
  refine mh_putF K0 hX hS ((hF k i (by omega)).trans (mh_kp h (by omega))) f_NU_12 p_1_0 hnm (fun C T N h => by cases h; rfl) rfl rfl (Nat.le_of_ble_eq_true rfl) d_NU_init_12 (fun C T N h => by cases h; exact k83) (fun H locs hX hS => ?_)
  have hX : mh_P (dC, dI) b (mh_set _ k i (some (a, .inr (1, [.ref q, .null])))) H := hX
  have fs9 := mh_self hX
  refine lv_aload_n hx hb d_NU_init_15 rfl (lv_at hl 0 rfl) ?_
  refine lv_sipush (v := nI 256) hx hb d_NU_init_16 (by decide) ?_
  refine mh_newa (k + 3) i 1 K0 hX hS hb0 (ty := .long) rfl rfl k82 (N' := 256) (a0 := (256, .inr (.inl (fun _ => 0)))) (fun cA => rfl) (by decide) (by decide) (by decide) (Nat.le_of_ble_eq_true rfl) (Nat.le_of_ble_eq_true rfl) d_NU_init_19 (fun q3 H hX hS => ?_)
  have fs10 := mh_self hX
  refine mh_putF K0 hX hS (mh_kp fs9 (by omega)) f_NU_18 p_1_1 hnm (fun C T N h => by cases h; rfl) rfl rfl (Nat.le_of_ble_eq_true rfl) d_NU_init_21 (fun C T N h => by cases h; exact k85) (fun H locs hX hS => ?_)
  have hX : mh_P (dC, dI) b (mh_set _ k i (some (a, .inr (1, [.ref q, .ref q3])))) H := hX
  have fs11 := mh_self hX
  exact mh_vret K0 hr hlocks hX hS (⟨rfl, ⟨q, q3, _, mh_set_eq _ _ _ _, hK.to (fun z hz => by rw [mh_set_ne _ _ _ _ (by omega), mh_set_ne _ _ _ _ (by omega), mh_set_ne _ _ _ _ (by omega)]) (fun j _ => rfl), mh_kp (mh_set_eq _ _ _ _) (by omega), fun j v _ hv => by cases hv⟩, (((mh_F.tr (k := k) (n := 4) (mh_F.rf.set (k := k + 1) (n := 1) (by omega) (by omega)) hF (by omega) (by omega) (by omega) (by omega)).set (by omega) (by omega)).set (by omega) (by omega)).set (by omega) (by omega)⟩) (Nat.le_of_ble_eq_true rfl) (Nat.le_of_ble_eq_true rfl) d_NU_init_24
set_option maxHeartbeats 4000000 in
set_option maxRecDepth 100000 in
theorem c_NU_give {l : Launch} {b : Nat} {dC : Nat → ClassId} {dI : Nat → Nat → Nat} {dA : Nat → ClassId} {zs : Nat → Nat} {w : mh_w} {k i a : Nat} {st : Nat → Option Int64} (h : rN dA w k i a st) {key : Nat} {v : Int64} (hk : key < 256) : mh_Met l b dC dI dA zs y_NU_give (mh_rm 1 0 0) [.ref a, .int (nI key), .long v] w (mh_V none (fun w' => rN dA w' k i a (va_up st key (some v)) ∧ mh_F w w' k 4 i)) := by
  obtain ⟨a1, a3, f, h0, hK, h3, hf⟩ := h
  have hK2 := hK
  obtain ⟨b1, fb, hk0, hk1, hkf⟩ := hK2
  refine mh_ofW (cc := b_NU_give) (n := 4) (ret := none) (hs := []) (by decide) k386 ?_
  intro p e s m below meth c hx hb hr hml hown hts hlocks hnm hT hOK hadm
  have K0 : mh_K0 p s m ([.ref a, .int (nI key), .long v]).toArray c "MeldHost$Numbers" b_NU_give dC dI dA := ⟨hx, hb, hown, hts, hOK.1, hOK.2.1⟩
  have hX := hOK.2.2.2.2
  have hb0 := hOK.2.2.2.1
  have hS : va_S (mh_A b) s.heap s.heap [] := va_S.rf
  have hl := lv_entry ([.ref a, .int (nI key), .long v]) (n := 4) (Nat.le_of_ble_eq_true rfl)
  rw [lg_entry_eq]
  generalize (lg_sl ([.ref a, .int (nI key), .long v]) ++ List.replicate (4 - (lg_sl ([.ref a, .int (nI key), .long v])).length) Slot.unset).toArray = ls at hl ⊢
  have hl : lv_has ls 4 [(0, .ref a), (1, .int (nI key)), (2, .long v)] := hl
  refine lv_aload_n hx hb d_NU_give_0 rfl (lv_at hl 0 rfl) ?_
  refine mh_get K0 hX h0 f_NU_12 rfl d_NU_give_1 ?_
  refine lv_iload_n hx hb d_NU_give_4 rfl (lv_at hl 1 rfl) ?_
  refine mh_callV (mh_sV (rest := []) (av := [.int (nI key)]) K0 hX hk0 rfl e_KS_add l_NU_22 k319 k320 rfl rfl d_NU_give_5) (c_KS_add hK hk) K0 hOK hml hl.1 e_KS_add hX hS d_NU_give_5 (Nat.le_of_ble_eq_true rfl) (Nat.le_of_ble_eq_true rfl) (Nat.le_of_ble_eq_true rfl) (Nat.le_of_ble_eq_true rfl) (Nat.le_of_ble_eq_true rfl) (fun w1 H locs ⟨hK1, hF⟩ hX hS => ?_)
  refine W.eq (g2 := F0 m 8 ls []) rfl ?_
  refine lv_aload_n hx hb d_NU_give_8 rfl (lv_at hl 0 rfl) ?_
  refine mh_get K0 hX ((hF k i (by omega)).trans h0) f_NU_18 rfl d_NU_give_9 ?_
  refine lv_iload_n hx hb d_NU_give_12 rfl (lv_at hl 1 rfl) ?_
  refine lv_lload_n hx hb d_NU_give_13 rfl (lv_at hl 2 rfl) ?_
  refine mh_lastN K0 hX hS ((hF (k + 3) i (by omega)).trans h3) (by omega) (by omega) d_NU_give_14 (fun H locs hX hS => ?_)
  have fs12 := mh_self hX
  exact mh_vret K0 hr hlocks hX hS (⟨rfl, ⟨a1, a3, _, mh_kp ((hF k i (by omega)).trans h0) (by omega), hK1.to (fun z hz => mh_set_ne _ _ _ _ (by omega)) (fun j _ => va_up_some.symm), mh_set_eq _ _ _ _, fun j u hj hu => by
      by_cases e : j = key
      · subst e; rw [va_up_self] at hu; cases hu; exact pk_uLs
      · rw [va_up_ne _ _ e] at hu; rw [pk_uLn e]; exact hf j u hj hu⟩, (mh_F.tr (k := k) (n := 4) hF mh_F.rf (k2 := k) (n2 := 4) (by omega) (by omega) (by omega) (by omega)).set (by omega) (by omega)⟩) (Nat.le_of_ble_eq_true rfl) (Nat.le_of_ble_eq_true rfl) d_NU_give_15
set_option maxHeartbeats 4000000 in
set_option maxRecDepth 100000 in
theorem c_NU_take {l : Launch} {b : Nat} {dC : Nat → ClassId} {dI : Nat → Nat → Nat} {dA : Nat → ClassId} {zs : Nat → Nat} {w : mh_w} {k i a : Nat} {st : Nat → Option Int64} (h : rN dA w k i a st) {key : Nat} (hk : key < 256) : mh_Met l b dC dI dA zs y_NU_take (mh_rm 1 0 0) [.ref a, .int (nI key)] w (mh_V none (fun w' => rN dA w' k i a (va_up st key none) ∧ mh_F w w' k 4 i)) := by
  obtain ⟨a1, a3, f, h0, hK, h3, hf⟩ := h
  have hK2 := hK
  obtain ⟨b1, fb, hk0, hk1, hkf⟩ := hK2
  refine mh_ofW (cc := b_NU_take) (n := 2) (ret := none) (hs := []) (by decide) k398 ?_
  intro p e s m below meth c hx hb hr hml hown hts hlocks hnm hT hOK hadm
  have K0 : mh_K0 p s m ([.ref a, .int (nI key)]).toArray c "MeldHost$Numbers" b_NU_take dC dI dA := ⟨hx, hb, hown, hts, hOK.1, hOK.2.1⟩
  have hX := hOK.2.2.2.2
  have hb0 := hOK.2.2.2.1
  have hS : va_S (mh_A b) s.heap s.heap [] := va_S.rf
  have hl := lv_entry ([.ref a, .int (nI key)]) (n := 2) (Nat.le_of_ble_eq_true rfl)
  rw [lg_entry_eq]
  generalize (lg_sl ([.ref a, .int (nI key)]) ++ List.replicate (2 - (lg_sl ([.ref a, .int (nI key)])).length) Slot.unset).toArray = ls at hl ⊢
  have hl : lv_has ls 2 [(0, .ref a), (1, .int (nI key))] := hl
  refine lv_aload_n hx hb d_NU_take_0 rfl (lv_at hl 0 rfl) ?_
  refine mh_get K0 hX h0 f_NU_12 rfl d_NU_take_1 ?_
  refine lv_iload_n hx hb d_NU_take_4 rfl (lv_at hl 1 rfl) ?_
  refine mh_callV (mh_sV (rest := []) (av := [.int (nI key)]) K0 hX hk0 rfl e_KS_drop l_NU_26 k400 k401 rfl rfl d_NU_take_5) (c_KS_drop hK hk) K0 hOK hml hl.1 e_KS_drop hX hS d_NU_take_5 (Nat.le_of_ble_eq_true rfl) (Nat.le_of_ble_eq_true rfl) (Nat.le_of_ble_eq_true rfl) (Nat.le_of_ble_eq_true rfl) (Nat.le_of_ble_eq_true rfl) (fun w1 H locs ⟨hK1, hF⟩ hX hS => ?_)
  refine W.eq (g2 := F0 m 8 ls []) rfl ?_
  exact mh_vret K0 hr hlocks hX hS (⟨rfl, ⟨a1, a3, f, (hF k i (by omega)).trans h0, hK1.to (fun z hz => rfl) (fun j _ => va_up_none.symm), (hF (k + 3) i (by omega)).trans h3, fun j u hj hu => by
      by_cases e : j = key
      · subst e; rw [va_up_self] at hu; cases hu
      · rw [va_up_ne _ _ e] at hu; exact hf j u hj hu⟩, fun k2 i2 h2 => hF k2 i2 (by omega)⟩) (Nat.le_of_ble_eq_true rfl) (Nat.le_of_ble_eq_true rfl) d_NU_take_8
set_option maxHeartbeats 4000000 in
set_option maxRecDepth 100000 in
theorem c_NU_takeAll {l : Launch} {b : Nat} {dC : Nat → ClassId} {dI : Nat → Nat → Nat} {dA : Nat → ClassId} {zs : Nat → Nat} {w : mh_w} {k i a : Nat} {st : Nat → Option Int64} (h : rN dA w k i a st) : mh_Met l b dC dI dA zs y_NU_takeAll (mh_rm 2 0 0) [.ref a] w (mh_V none (fun w' => rN dA w' k i a (fun _ => none) ∧ mh_F w w' k 4 i)) := by
  obtain ⟨a1, a3, f, h0, hK, h3, hf⟩ := h
  have hK2 := hK
  obtain ⟨b1, fb, hk0, hk1, hkf⟩ := hK2
  refine mh_ofW (cc := b_NU_takeAll) (n := 1) (ret := none) (hs := []) (by decide) k578 ?_
  intro p e s m below meth c hx hb hr hml hown hts hlocks hnm hT hOK hadm
  have K0 : mh_K0 p s m ([.ref a]).toArray c "MeldHost$Numbers" b_NU_takeAll dC dI dA := ⟨hx, hb, hown, hts, hOK.1, hOK.2.1⟩
  have hX := hOK.2.2.2.2
  have hb0 := hOK.2.2.2.1
  have hS : va_S (mh_A b) s.heap s.heap [] := va_S.rf
  have hl := lv_entry ([.ref a]) (n := 1) (Nat.le_of_ble_eq_true rfl)
  rw [lg_entry_eq]
  generalize (lg_sl ([.ref a]) ++ List.replicate (1 - (lg_sl ([.ref a])).length) Slot.unset).toArray = ls at hl ⊢
  have hl : lv_has ls 1 [(0, .ref a)] := hl
  refine lv_aload_n hx hb d_NU_takeAll_0 rfl (lv_at hl 0 rfl) ?_
  refine mh_get K0 hX h0 f_NU_12 rfl d_NU_takeAll_1 ?_
  refine mh_callV (mh_sV (rest := []) (av := []) K0 hX hk0 rfl e_KS_dropAll l_NU_29 k580 k581 rfl rfl d_NU_takeAll_4) (c_KS_dropAll hK) K0 hOK hml hl.1 e_KS_dropAll hX hS d_NU_takeAll_4 (Nat.le_of_ble_eq_true rfl) (Nat.le_of_ble_eq_true rfl) (Nat.le_of_ble_eq_true rfl) (Nat.le_of_ble_eq_true rfl) (Nat.le_of_ble_eq_true rfl) (fun w1 H locs ⟨hK1, hF⟩ hX hS => ?_)
  refine W.eq (g2 := F0 m 7 ls []) rfl ?_
  exact mh_vret K0 hr hlocks hX hS (⟨rfl, ⟨a1, a3, f, (hF k i (by omega)).trans h0, hK1, (hF (k + 3) i (by omega)).trans h3, fun j u hj hu => by cases hu⟩, fun k2 i2 h2 => hF k2 i2 (by omega)⟩) (Nat.le_of_ble_eq_true rfl) (Nat.le_of_ble_eq_true rfl) d_NU_takeAll_7
set_option maxHeartbeats 4000000 in
set_option maxRecDepth 100000 in
theorem c_NU_copyFrom {l : Launch} {b : Nat} {dC : Nat → ClassId} {dI : Nat → Nat → Nat} {dA : Nat → ClassId} {zs : Nat → Nat} {w : mh_w} {k i a : Nat} {st : Nat → Option Int64} (h : rN dA w k i a st) {k2 i2 a2 : Nat} {st2 : Nat → Option Int64} (g : rN dA w k2 i2 a2 st2) (hd : k + 4 ≤ k2 ∨ k2 + 4 ≤ k) : mh_Met l b dC dI dA zs y_NU_copyFrom (mh_rm 2 0 0) [.ref a, .ref a2] w (mh_V none (fun w' => rN dA w' k i a st2 ∧ mh_F w w' k 4 i)) := by
  obtain ⟨a1, a3, f, h0, hK, h3, hf⟩ := h
  have hK2 := hK
  obtain ⟨b1, fb, hk0, hk1, hkf⟩ := hK2
  obtain ⟨c1, c3, gf, g0, gK, g3, hgf⟩ := g
  refine mh_ofW (cc := b_NU_copyFrom) (n := 2) (ret := none) (hs := []) (by decide) k284 ?_
  intro p e s m below meth c hx hb hr hml hown hts hlocks hnm hT hOK hadm
  have K0 : mh_K0 p s m ([.ref a, .ref a2]).toArray c "MeldHost$Numbers" b_NU_copyFrom dC dI dA := ⟨hx, hb, hown, hts, hOK.1, hOK.2.1⟩
  have hX := hOK.2.2.2.2
  have hb0 := hOK.2.2.2.1
  have hS : va_S (mh_A b) s.heap s.heap [] := va_S.rf
  have hl := lv_entry ([.ref a, .ref a2]) (n := 2) (Nat.le_of_ble_eq_true rfl)
  rw [lg_entry_eq]
  generalize (lg_sl ([.ref a, .ref a2]) ++ List.replicate (2 - (lg_sl ([.ref a, .ref a2])).length) Slot.unset).toArray = ls at hl ⊢
  have hl : lv_has ls 2 [(0, .ref a), (1, .ref a2)] := hl
  refine lv_aload_n hx hb d_NU_copyFrom_0 rfl (lv_at hl 0 rfl) ?_
  refine mh_get K0 hX h0 f_NU_12 rfl d_NU_copyFrom_1 ?_
  refine lv_aload_n hx hb d_NU_copyFrom_4 rfl (lv_at hl 1 rfl) ?_
  refine mh_get K0 hX g0 f_NU_12 rfl d_NU_copyFrom_5 ?_
  refine mh_callV (mh_sV (rest := []) (av := [.ref c1]) K0 hX hk0 rfl e_KS_copyFrom l_NU_32 k286 k287 rfl rfl d_NU_copyFrom_8) (c_KS_copyFrom hK gK) K0 hOK hml hl.1 e_KS_copyFrom hX hS d_NU_copyFrom_8 (Nat.le_of_ble_eq_true rfl) (Nat.le_of_ble_eq_true rfl) (Nat.le_of_ble_eq_true rfl) (Nat.le_of_ble_eq_true rfl) (Nat.le_of_ble_eq_true rfl) (fun w1 H locs ⟨hK1, hF⟩ hX hS => ?_)
  refine W.eq (g2 := F0 m 11 ls []) rfl ?_
  refine lv_aload_n hx hb d_NU_copyFrom_11 rfl (lv_at hl 1 rfl) ?_
  refine mh_get K0 hX ((hF k2 i2 (by omega)).trans g0) f_NU_18 rfl d_NU_copyFrom_12 ?_
  refine lv_iconst (v := nI 0) hx hb d_NU_copyFrom_15 (by decide) ?_
  refine lv_aload_n hx hb d_NU_copyFrom_16 rfl (lv_at hl 0 rfl) ?_
  refine mh_get K0 hX ((hF k i (by omega)).trans h0) f_NU_18 rfl d_NU_copyFrom_17 ?_
  refine lv_iconst (v := nI 0) hx hb d_NU_copyFrom_20 (by decide) ?_
  refine lv_sipush (v := nI 256) hx hb d_NU_copyFrom_21 (by decide) ?_
  refine mh_copyl (rest := []) K0 hml hl.1 k292 k291 k290 k17 hX hS ((hF (k2 + 3) i2 (by omega)).trans g3) ((hF (k + 3) i (by omega)).trans h3) (n := 256) (by omega) (by omega) (by omega) (Nat.le_of_ble_eq_true rfl) (Nat.le_of_ble_eq_true rfl) d_NU_copyFrom_24 (fun H locs hX hS => ?_)
  have fs13 := mh_self hX
  exact mh_vret K0 hr hlocks hX hS (⟨rfl, ⟨a1, a3, _, mh_kp ((hF k i (by omega)).trans h0) (by omega), hK1.to (fun z hz => mh_set_ne _ _ _ _ (by omega)) (fun j _ => rfl), mh_set_eq _ _ _ _, fun j u hj hu => by rw [pk_cpy_in (by omega) (by omega), Nat.zero_add, Nat.sub_zero]; exact hgf j u hj hu⟩, (mh_F.tr (k := k) (n := 4) hF mh_F.rf (k2 := k) (n2 := 4) (by omega) (by omega) (by omega) (by omega)).set (by omega) (by omega)⟩) (Nat.le_of_ble_eq_true rfl) (Nat.le_of_ble_eq_true rfl) d_NU_copyFrom_27
set_option maxHeartbeats 4000000 in
set_option maxRecDepth 100000 in
theorem c_NU_howMany {l : Launch} {b : Nat} {dC : Nat → ClassId} {dI : Nat → Nat → Nat} {dA : Nat → ClassId} {zs : Nat → Nat} {w : mh_w} {k i a : Nat} {st : Nat → Option Int64} (h : rN dA w k i a st) {low high : Nat} (h1 : low ≤ high) (h2 : high < 256) : mh_Met l b dC dI dA zs y_NU_howMany (mh_rm 1 0 0) [.ref a, .int (nI low), .int (nI high)] w (mh_V (some (.int (nI (tl_n st low (high + 1 - low))))) (fun w' => w' = w)) := by
  obtain ⟨a1, a3, f, h0, hK, h3, hf⟩ := h
  have hK2 := hK
  obtain ⟨b1, fb, hk0, hk1, hkf⟩ := hK2
  refine mh_ofW (cc := b_NU_howMany) (n := 5) (ret := (some .int)) (hs := []) (by decide) k426 ?_
  intro p e s m below meth c hx hb hr hml hown hts hlocks hnm hT hOK hadm
  have K0 : mh_K0 p s m ([.ref a, .int (nI low), .int (nI high)]).toArray c "MeldHost$Numbers" b_NU_howMany dC dI dA := ⟨hx, hb, hown, hts, hOK.1, hOK.2.1⟩
  have hX := hOK.2.2.2.2
  have hb0 := hOK.2.2.2.1
  have hS : va_S (mh_A b) s.heap s.heap [] := va_S.rf
  have hl := lv_entry ([.ref a, .int (nI low), .int (nI high)]) (n := 5) (Nat.le_of_ble_eq_true rfl)
  rw [lg_entry_eq]
  generalize (lg_sl ([.ref a, .int (nI low), .int (nI high)]) ++ List.replicate (5 - (lg_sl ([.ref a, .int (nI low), .int (nI high)])).length) Slot.unset).toArray = ls at hl ⊢
  have hl : lv_has ls 5 [(0, .ref a), (1, .int (nI low)), (2, .int (nI high))] := hl
  refine lv_iconst (v := nI 0) hx hb d_NU_howMany_0 (by decide) ?_
  refine lv_istore_n (lv' := [(3, .int (nI 0)), (0, .ref a), (1, .int (nI low)), (2, .int (nI high))]) hx hb d_NU_howMany_1 rfl hl (by decide) rfl (fun ls hl => ?_)
  refine lv_iload_n hx hb d_NU_howMany_2 rfl (lv_at hl 2 rfl) ?_
  refine lv_istore (lv' := [(4, .int (nI low)), (3, .int (nI 0)), (0, .ref a), (1, .int (nI low)), (2, .int (nI high))]) hx hb d_NU_howMany_3 hl (by decide) rfl (fun ls hl => ?_)
  have LP : ∀ (n : Nat) (j : Nat) (H : Heap) (locs : List Loc) (ls : Array Slot), mh_P (dC, dI) b w H → va_S (mh_A b) s.heap H locs → lv_has ls 5 [(4, .int (nI (low + j))), (3, .int (nI (tl_n st low j))), (0, .ref a), (1, .int (nI low)), (2, .int (nI high))] → (j + n = high + 1 - low) → W p l e (mh_rm 1 0 0) s m ([.ref a, .int (nI low), .int (nI high)]).toArray below meth c H locs (0) (0) (mh_MQ below b dC dI (mh_V (some (.int (nI (tl_n st low (high + 1 - low))))) (fun w' => w' = w)) ([.ref a, .int (nI low), .int (nI high)]).toArray s 0 0) (F0 m 5 ls []) := by
    intro n
    induction n with
    | zero =>
      intro j H locs ls hX hS hl hn
      refine lv_iload hx hb d_NU_howMany_5 (lv_at hl 0 rfl) ?_
      refine lv_iload_n hx hb d_NU_howMany_7 rfl (lv_at hl 4 rfl) ?_
      refine mh_icmp_gt (tgt := 32) hx hb (by omega) (by omega) d_NU_howMany_8 (by decide) (fun _ => ?_) (fun z => absurd z (by omega))
      refine lv_iload_n hx hb d_NU_howMany_32 rfl (lv_at hl 1 rfl) ?_
      exact mh_iret K0 hr rfl hlocks hX hS (⟨by rw [show high + 1 - low = j by omega], rfl⟩) (Nat.le_of_ble_eq_true rfl) (Nat.le_of_ble_eq_true rfl) d_NU_howMany_33
    | succ n ih =>
      intro j H locs ls hX hS hl hn
      refine lv_iload hx hb d_NU_howMany_5 (lv_at hl 0 rfl) ?_
      refine lv_iload_n hx hb d_NU_howMany_7 rfl (lv_at hl 4 rfl) ?_
      refine mh_icmp_gt (tgt := 32) hx hb (by omega) (by omega) d_NU_howMany_8 (by decide) (fun z => absurd z (by omega)) (fun _ => ?_)
      refine lv_aload_n hx hb d_NU_howMany_11 rfl (lv_at hl 2 rfl) ?_
      refine mh_get K0 hX h0 f_NU_12 rfl d_NU_howMany_12 ?_
      refine lv_iload hx hb d_NU_howMany_15 (lv_at hl 0 rfl) ?_
      refine mh_callR (mh_sV (rest := []) (av := [.int (nI (low + j))]) K0 hX hk0 rfl e_KS_has l_NU_56 k326 k327 rfl rfl d_NU_howMany_17) (c_KS_has (key := low + j) hK (by omega)) K0 hOK hml hl.1 e_KS_has hX hS d_NU_howMany_17 (Nat.le_of_ble_eq_true rfl) (Nat.le_of_ble_eq_true rfl) (Nat.le_of_ble_eq_true rfl) (Nat.le_of_ble_eq_true rfl) (Nat.le_of_ble_eq_true rfl) (fun H locs hX hS => ?_)
      refine W.eq (g2 := F0 m 20 ls [.int (mh_b ((st (low + j)).isSome))]) rfl ?_
      refine mh_ifeqB (tgt := 26) hx hb d_NU_howMany_20 (by decide) (fun ct => ?_) (fun cf => ?_)
      · skip
        refine lv_iinc (v := nI ((low + j) + 1)) (k := 0) (lv' := [(4, .int (nI ((low + j) + 1))), (3, .int (nI (tl_n st low j))), (0, .ref a), (1, .int (nI low)), (2, .int (nI high))]) hx hb d_NU_howMany_26 hl rfl (mh_inc (low + j)) (by decide) rfl (fun ls hl => ?_)
        refine lv_goto (tgt := 5) hx hb d_NU_howMany_29 (by decide) ?_
        have hl : lv_has ls 5 [(4, .int (nI (low + (j + 1)))), (3, .int (nI (tl_n st low (j + 1)))), (0, .ref a), (1, .int (nI low)), (2, .int (nI high))] := by rw [tl_n_f ct]; exact hl
        exact ih (j + 1) _ _ _ hX hS hl (by omega)
      · skip
        refine lv_iinc (v := nI ((tl_n st low j) + 1)) (k := 1) (lv' := [(3, .int (nI ((tl_n st low j) + 1))), (4, .int (nI (low + j))), (0, .ref a), (1, .int (nI low)), (2, .int (nI high))]) hx hb d_NU_howMany_23 hl rfl (mh_inc (tl_n st low j)) (by decide) rfl (fun ls hl => ?_)
        refine lv_iinc (v := nI ((low + j) + 1)) (k := 1) (lv' := [(4, .int (nI ((low + j) + 1))), (3, .int (nI ((tl_n st low j) + 1))), (0, .ref a), (1, .int (nI low)), (2, .int (nI high))]) hx hb d_NU_howMany_26 hl rfl (mh_inc (low + j)) (by decide) rfl (fun ls hl => ?_)
        refine lv_goto (tgt := 5) hx hb d_NU_howMany_29 (by decide) ?_
        have hl : lv_has ls 5 [(4, .int (nI (low + (j + 1)))), (3, .int (nI (tl_n st low (j + 1)))), (0, .ref a), (1, .int (nI low)), (2, .int (nI high))] := by rw [tl_n_t cf]; exact hl
        exact ih (j + 1) _ _ _ hX hS hl (by omega)
  exact LP (high + 1 - low) 0 _ _ _ hX hS hl (by omega)
set_option maxHeartbeats 4000000 in
set_option maxRecDepth 100000 in
theorem c_NU_sum {l : Launch} {b : Nat} {dC : Nat → ClassId} {dI : Nat → Nat → Nat} {dA : Nat → ClassId} {zs : Nat → Nat} {w : mh_w} {k i a : Nat} {st : Nat → Option Int64} (h : rN dA w k i a st) {low high : Nat} (h1 : low ≤ high) (h2 : high < 256) : mh_Met l b dC dI dA zs y_NU_sum (mh_rm 1 0 0) [.ref a, .int (nI low), .int (nI high)] w (mh_V (some (.long (tl_s st low (high + 1 - low)))) (fun w' => w' = w)) := by
  obtain ⟨a1, a3, f, h0, hK, h3, hf⟩ := h
  have hK2 := hK
  obtain ⟨b1, fb, hk0, hk1, hkf⟩ := hK2
  refine mh_ofW (cc := b_NU_sum) (n := 6) (ret := (some .long)) (hs := []) (by decide) k431 ?_
  intro p e s m below meth c hx hb hr hml hown hts hlocks hnm hT hOK hadm
  have K0 : mh_K0 p s m ([.ref a, .int (nI low), .int (nI high)]).toArray c "MeldHost$Numbers" b_NU_sum dC dI dA := ⟨hx, hb, hown, hts, hOK.1, hOK.2.1⟩
  have hX := hOK.2.2.2.2
  have hb0 := hOK.2.2.2.1
  have hS : va_S (mh_A b) s.heap s.heap [] := va_S.rf
  have hl := lv_entry ([.ref a, .int (nI low), .int (nI high)]) (n := 6) (Nat.le_of_ble_eq_true rfl)
  rw [lg_entry_eq]
  generalize (lg_sl ([.ref a, .int (nI low), .int (nI high)]) ++ List.replicate (6 - (lg_sl ([.ref a, .int (nI low), .int (nI high)])).length) Slot.unset).toArray = ls at hl ⊢
  have hl : lv_has ls 6 [(0, .ref a), (1, .int (nI low)), (2, .int (nI high))] := hl
  refine lv_lconst (v := 0) hx hb d_NU_sum_0 rfl ?_
  refine lv_lstore_n (lv' := [(3, .long 0), (0, .ref a), (1, .int (nI low)), (2, .int (nI high))]) hx hb d_NU_sum_1 rfl hl (by decide) rfl (fun ls hl => ?_)
  refine lv_iload_n hx hb d_NU_sum_2 rfl (lv_at hl 2 rfl) ?_
  refine lv_istore (lv' := [(5, .int (nI low)), (3, .long 0), (0, .ref a), (1, .int (nI low)), (2, .int (nI high))]) hx hb d_NU_sum_3 hl (by decide) rfl (fun ls hl => ?_)
  have LP : ∀ (n : Nat) (j : Nat) (H : Heap) (locs : List Loc) (ls : Array Slot), mh_P (dC, dI) b w H → va_S (mh_A b) s.heap H locs → lv_has ls 6 [(5, .int (nI (low + j))), (3, .long (tl_s st low j)), (0, .ref a), (1, .int (nI low)), (2, .int (nI high))] → (j + n = high + 1 - low) → W p l e (mh_rm 1 0 0) s m ([.ref a, .int (nI low), .int (nI high)]).toArray below meth c H locs (0) (0) (mh_MQ below b dC dI (mh_V (some (.long (tl_s st low (high + 1 - low)))) (fun w' => w' = w)) ([.ref a, .int (nI low), .int (nI high)]).toArray s 0 0) (F0 m 5 ls []) := by
    intro n
    induction n with
    | zero =>
      intro j H locs ls hX hS hl hn
      refine lv_iload hx hb d_NU_sum_5 (lv_at hl 0 rfl) ?_
      refine lv_iload_n hx hb d_NU_sum_7 rfl (lv_at hl 4 rfl) ?_
      refine mh_icmp_gt (tgt := 39) hx hb (by omega) (by omega) d_NU_sum_8 (by decide) (fun _ => ?_) (fun z => absurd z (by omega))
      refine lv_lload_n hx hb d_NU_sum_39 rfl (lv_at hl 1 rfl) ?_
      exact mh_lret K0 hr hlocks hX hS (⟨by rw [show high + 1 - low = j by omega], rfl⟩) (Nat.le_of_ble_eq_true rfl) (Nat.le_of_ble_eq_true rfl) d_NU_sum_40
    | succ n ih =>
      intro j H locs ls hX hS hl hn
      refine lv_iload hx hb d_NU_sum_5 (lv_at hl 0 rfl) ?_
      refine lv_iload_n hx hb d_NU_sum_7 rfl (lv_at hl 4 rfl) ?_
      refine mh_icmp_gt (tgt := 39) hx hb (by omega) (by omega) d_NU_sum_8 (by decide) (fun z => absurd z (by omega)) (fun _ => ?_)
      refine lv_aload_n hx hb d_NU_sum_11 rfl (lv_at hl 2 rfl) ?_
      refine mh_get K0 hX h0 f_NU_12 rfl d_NU_sum_12 ?_
      refine lv_iload hx hb d_NU_sum_15 (lv_at hl 0 rfl) ?_
      refine mh_callR (mh_sV (rest := []) (av := [.int (nI (low + j))]) K0 hX hk0 rfl e_KS_has l_NU_56 k326 k327 rfl rfl d_NU_sum_17) (c_KS_has (key := low + j) hK (by omega)) K0 hOK hml hl.1 e_KS_has hX hS d_NU_sum_17 (Nat.le_of_ble_eq_true rfl) (Nat.le_of_ble_eq_true rfl) (Nat.le_of_ble_eq_true rfl) (Nat.le_of_ble_eq_true rfl) (Nat.le_of_ble_eq_true rfl) (fun H locs hX hS => ?_)
      refine W.eq (g2 := F0 m 20 ls [.int (mh_b ((st (low + j)).isSome))]) rfl ?_
      refine mh_ifeqB (tgt := 33) hx hb d_NU_sum_20 (by decide) (fun ct => ?_) (fun cf => ?_)
      · skip
        refine lv_iinc (v := nI ((low + j) + 1)) (k := 0) (lv' := [(5, .int (nI ((low + j) + 1))), (3, .long (tl_s st low j)), (0, .ref a), (1, .int (nI low)), (2, .int (nI high))]) hx hb d_NU_sum_33 hl rfl (mh_inc (low + j)) (by decide) rfl (fun ls hl => ?_)
        refine lv_goto (tgt := 5) hx hb d_NU_sum_36 (by decide) ?_
        have hl : lv_has ls 6 [(5, .int (nI (low + (j + 1)))), (3, .long (tl_s st low (j + 1))), (0, .ref a), (1, .int (nI low)), (2, .int (nI high))] := by rw [tl_s_f ct]; exact hl
        exact ih (j + 1) _ _ _ hX hS hl (by omega)
      · skip
        obtain ⟨u, hu⟩ := Option.isSome_iff_exists.mp cf
        refine lv_lload_n hx hb d_NU_sum_23 rfl (lv_at hl 1 rfl) ?_
        refine lv_aload_n hx hb d_NU_sum_24 rfl (lv_at hl 2 rfl) ?_
        refine mh_get K0 hX h0 f_NU_18 rfl d_NU_sum_25 ?_
        refine lv_iload hx hb d_NU_sum_28 (lv_at hl 0 rfl) ?_
        refine mh_laldN K0 hX h3 (by omega) (by omega) d_NU_sum_30 ?_
        refine lv_ladd hx hb d_NU_sum_31 ?_
        refine lv_lstore_n (lv' := [(3, .long ((tl_s st low j) + (f (low + j)))), (5, .int (nI (low + j))), (0, .ref a), (1, .int (nI low)), (2, .int (nI high))]) hx hb d_NU_sum_32 rfl hl (by decide) rfl (fun ls hl => ?_)
        refine lv_iinc (v := nI ((low + j) + 1)) (k := 1) (lv' := [(5, .int (nI ((low + j) + 1))), (3, .long ((tl_s st low j) + (f (low + j)))), (0, .ref a), (1, .int (nI low)), (2, .int (nI high))]) hx hb d_NU_sum_33 hl rfl (mh_inc (low + j)) (by decide) rfl (fun ls hl => ?_)
        refine lv_goto (tgt := 5) hx hb d_NU_sum_36 (by decide) ?_
        have hl : lv_has ls 6 [(5, .int (nI (low + (j + 1)))), (3, .long (tl_s st low (j + 1))), (0, .ref a), (1, .int (nI low)), (2, .int (nI high))] := by rw [tl_s_t hu, ← hf (low + j) u (by omega) hu]; exact hl
        exact ih (j + 1) _ _ _ hX hS hl (by omega)
  exact LP (high + 1 - low) 0 _ _ _ hX hS hl (by omega)
set_option maxHeartbeats 4000000 in
set_option maxRecDepth 100000 in
theorem c_NU_least {l : Launch} {b : Nat} {dC : Nat → ClassId} {dI : Nat → Nat → Nat} {dA : Nat → ClassId} {zs : Nat → Nat} {w : mh_w} {k i a : Nat} {st : Nat → Option Int64} (h : rN dA w k i a st) {low high : Nat} (h1 : low ≤ high) (h2 : high < 256) : mh_Met l b dC dI dA zs y_NU_least (mh_rm 1 0 0) [.ref a, .int (nI low), .int (nI high)] w (mh_V (some (.int (tl_i (tl_l st low (high + 1 - low))))) (fun w' => w' = w)) := by
  obtain ⟨a1, a3, f, h0, hK, h3, hf⟩ := h
  have hK2 := hK
  obtain ⟨b1, fb, hk0, hk1, hkf⟩ := hK2
  refine mh_ofW (cc := b_NU_least) (n := 4) (ret := (some .int)) (hs := []) (by decide) k435 ?_
  intro p e s m below meth c hx hb hr hml hown hts hlocks hnm hT hOK hadm
  have K0 : mh_K0 p s m ([.ref a, .int (nI low), .int (nI high)]).toArray c "MeldHost$Numbers" b_NU_least dC dI dA := ⟨hx, hb, hown, hts, hOK.1, hOK.2.1⟩
  have hX := hOK.2.2.2.2
  have hb0 := hOK.2.2.2.1
  have hS : va_S (mh_A b) s.heap s.heap [] := va_S.rf
  have hl := lv_entry ([.ref a, .int (nI low), .int (nI high)]) (n := 4) (Nat.le_of_ble_eq_true rfl)
  rw [lg_entry_eq]
  generalize (lg_sl ([.ref a, .int (nI low), .int (nI high)]) ++ List.replicate (4 - (lg_sl ([.ref a, .int (nI low), .int (nI high)])).length) Slot.unset).toArray = ls at hl ⊢
  have hl : lv_has ls 4 [(0, .ref a), (1, .int (nI low)), (2, .int (nI high))] := hl
  refine lv_iload_n hx hb d_NU_least_0 rfl (lv_at hl 1 rfl) ?_
  refine lv_istore_n (lv' := [(3, .int (nI low)), (0, .ref a), (1, .int (nI low)), (2, .int (nI high))]) hx hb d_NU_least_1 rfl hl (by decide) rfl (fun ls hl => ?_)
  have LP : ∀ (n : Nat) (j : Nat) (H : Heap) (locs : List Loc) (ls : Array Slot), mh_P (dC, dI) b w H → va_S (mh_A b) s.heap H locs → lv_has ls 4 [(3, .int (nI (low + j))), (0, .ref a), (1, .int (nI low)), (2, .int (nI high))] → (j + n = high + 1 - low) → (tl_l st low j = none) → W p l e (mh_rm 1 0 0) s m ([.ref a, .int (nI low), .int (nI high)]).toArray below meth c H locs (0) (0) (mh_MQ below b dC dI (mh_V (some (.int (tl_i (tl_l st low (high + 1 - low))))) (fun w' => w' = w)) ([.ref a, .int (nI low), .int (nI high)]).toArray s 0 0) (F0 m 2 ls []) := by
    intro n
    induction n with
    | zero =>
      intro j H locs ls hX hS hl hn hj
      refine lv_iload_n hx hb d_NU_least_2 rfl (lv_at hl 0 rfl) ?_
      refine lv_iload_n hx hb d_NU_least_3 rfl (lv_at hl 3 rfl) ?_
      refine mh_icmp_gt (tgt := 26) hx hb (by omega) (by omega) d_NU_least_4 (by decide) (fun _ => ?_) (fun z => absurd z (by omega))
      refine lv_iconst (v := (-1)) hx hb d_NU_least_26 (by decide) ?_
      exact mh_iret K0 hr rfl hlocks hX hS (⟨by rw [show high + 1 - low = j by omega, hj]; rfl, rfl⟩) (Nat.le_of_ble_eq_true rfl) (Nat.le_of_ble_eq_true rfl) d_NU_least_27
    | succ n ih =>
      intro j H locs ls hX hS hl hn hj
      refine lv_iload_n hx hb d_NU_least_2 rfl (lv_at hl 0 rfl) ?_
      refine lv_iload_n hx hb d_NU_least_3 rfl (lv_at hl 3 rfl) ?_
      refine mh_icmp_gt (tgt := 26) hx hb (by omega) (by omega) d_NU_least_4 (by decide) (fun z => absurd z (by omega)) (fun _ => ?_)
      refine lv_aload_n hx hb d_NU_least_7 rfl (lv_at hl 1 rfl) ?_
      refine mh_get K0 hX h0 f_NU_12 rfl d_NU_least_8 ?_
      refine lv_iload_n hx hb d_NU_least_11 rfl (lv_at hl 0 rfl) ?_
      refine mh_callR (mh_sV (rest := []) (av := [.int (nI (low + j))]) K0 hX hk0 rfl e_KS_has l_NU_56 k326 k327 rfl rfl d_NU_least_12) (c_KS_has (key := low + j) hK (by omega)) K0 hOK hml hl.1 e_KS_has hX hS d_NU_least_12 (Nat.le_of_ble_eq_true rfl) (Nat.le_of_ble_eq_true rfl) (Nat.le_of_ble_eq_true rfl) (Nat.le_of_ble_eq_true rfl) (Nat.le_of_ble_eq_true rfl) (fun H locs hX hS => ?_)
      refine W.eq (g2 := F0 m 15 ls [.int (mh_b ((st (low + j)).isSome))]) rfl ?_
      refine mh_ifeqB (tgt := 20) hx hb d_NU_least_15 (by decide) (fun ct => ?_) (fun cf => ?_)
      · skip
        refine lv_iinc (v := nI ((low + j) + 1)) (k := 0) (lv' := [(3, .int (nI ((low + j) + 1))), (0, .ref a), (1, .int (nI low)), (2, .int (nI high))]) hx hb d_NU_least_20 hl rfl (mh_inc (low + j)) (by decide) rfl (fun ls hl => ?_)
        refine lv_goto (tgt := 2) hx hb d_NU_least_23 (by decide) ?_
        exact ih (j + 1) _ _ _ hX hS hl (by omega) (tl_l_f hj ct)
      · skip
        refine lv_iload_n hx hb d_NU_least_18 rfl (lv_at hl 0 rfl) ?_
        exact mh_iret K0 hr rfl hlocks hX hS (⟨by rw [show high + 1 - low = j + 1 + n by omega, tl_l_on (tl_l_t hj cf)]; rfl, rfl⟩) (Nat.le_of_ble_eq_true rfl) (Nat.le_of_ble_eq_true rfl) d_NU_least_19
  exact LP (high + 1 - low) 0 _ _ _ hX hS hl (by omega) rfl
set_option maxHeartbeats 4000000 in
set_option maxRecDepth 100000 in
theorem c_NU_greatest {l : Launch} {b : Nat} {dC : Nat → ClassId} {dI : Nat → Nat → Nat} {dA : Nat → ClassId} {zs : Nat → Nat} {w : mh_w} {k i a : Nat} {st : Nat → Option Int64} (h : rN dA w k i a st) {low high : Nat} (h1 : low ≤ high) (h2 : high < 256) : mh_Met l b dC dI dA zs y_NU_greatest (mh_rm 1 0 0) [.ref a, .int (nI low), .int (nI high)] w (mh_V (some (.int (tl_i (tl_g st low (high + 1 - low))))) (fun w' => w' = w)) := by
  obtain ⟨a1, a3, f, h0, hK, h3, hf⟩ := h
  have hK2 := hK
  obtain ⟨b1, fb, hk0, hk1, hkf⟩ := hK2
  refine mh_ofW (cc := b_NU_greatest) (n := 4) (ret := (some .int)) (hs := []) (by decide) k439 ?_
  intro p e s m below meth c hx hb hr hml hown hts hlocks hnm hT hOK hadm
  have K0 : mh_K0 p s m ([.ref a, .int (nI low), .int (nI high)]).toArray c "MeldHost$Numbers" b_NU_greatest dC dI dA := ⟨hx, hb, hown, hts, hOK.1, hOK.2.1⟩
  have hX := hOK.2.2.2.2
  have hb0 := hOK.2.2.2.1
  have hS : va_S (mh_A b) s.heap s.heap [] := va_S.rf
  have hl := lv_entry ([.ref a, .int (nI low), .int (nI high)]) (n := 4) (Nat.le_of_ble_eq_true rfl)
  rw [lg_entry_eq]
  generalize (lg_sl ([.ref a, .int (nI low), .int (nI high)]) ++ List.replicate (4 - (lg_sl ([.ref a, .int (nI low), .int (nI high)])).length) Slot.unset).toArray = ls at hl ⊢
  have hl : lv_has ls 4 [(0, .ref a), (1, .int (nI low)), (2, .int (nI high))] := hl
  refine lv_iload_n hx hb d_NU_greatest_0 rfl (lv_at hl 2 rfl) ?_
  refine lv_istore_n (lv' := [(3, .int (nI high)), (0, .ref a), (1, .int (nI low)), (2, .int (nI high))]) hx hb d_NU_greatest_1 rfl hl (by decide) rfl (fun ls hl => ?_)
  have LP : ∀ (n : Nat)  (H : Heap) (locs : List Loc) (ls : Array Slot), mh_P (dC, dI) b w H → va_S (mh_A b) s.heap H locs → lv_has ls 4 [(3, .int (nI (low + n) - 1)), (0, .ref a), (1, .int (nI low)), (2, .int (nI high))] → (low + n ≤ high + 1) → (tl_g st low (high + 1 - low) = tl_g st low n) → W p l e (mh_rm 1 0 0) s m ([.ref a, .int (nI low), .int (nI high)]).toArray below meth c H locs (0) (0) (mh_MQ below b dC dI (mh_V (some (.int (tl_i (tl_g st low (high + 1 - low))))) (fun w' => w' = w)) ([.ref a, .int (nI low), .int (nI high)]).toArray s 0 0) (F0 m 2 ls []) := by
    intro n
    induction n with
    | zero =>
      intro  H locs ls hX hS hl hn hj
      refine lv_iload_n hx hb d_NU_greatest_2 rfl (lv_at hl 0 rfl) ?_
      refine lv_iload_n hx hb d_NU_greatest_3 rfl (lv_at hl 2 rfl) ?_
      refine lv_icmp_lt (tgt := 26) hx hb d_NU_greatest_4 (by decide) (fun _ => ?_) (fun z => absurd z (not_not_intro (nI_dlt low (by omega))))
      refine lv_iconst (v := (-1)) hx hb d_NU_greatest_26 (by decide) ?_
      exact mh_iret K0 hr rfl hlocks hX hS (⟨by rw [hj]; rfl, rfl⟩) (Nat.le_of_ble_eq_true rfl) (Nat.le_of_ble_eq_true rfl) d_NU_greatest_27
    | succ n ih =>
      intro  H locs ls hX hS hl hn hj
      have hl : lv_has ls 4 [(3, .int (nI (low + n))), (0, .ref a), (1, .int (nI low)), (2, .int (nI high))] := by rw [← nI_pred (low + n)]; exact hl
      refine lv_iload_n hx hb d_NU_greatest_2 rfl (lv_at hl 0 rfl) ?_
      refine lv_iload_n hx hb d_NU_greatest_3 rfl (lv_at hl 2 rfl) ?_
      refine mh_icmp_lt (tgt := 26) hx hb (by omega) (by omega) d_NU_greatest_4 (by decide) (fun z => absurd z (by omega)) (fun _ => ?_)
      refine lv_aload_n hx hb d_NU_greatest_7 rfl (lv_at hl 1 rfl) ?_
      refine mh_get K0 hX h0 f_NU_12 rfl d_NU_greatest_8 ?_
      refine lv_iload_n hx hb d_NU_greatest_11 rfl (lv_at hl 0 rfl) ?_
      refine mh_callR (mh_sV (rest := []) (av := [.int (nI (low + n))]) K0 hX hk0 rfl e_KS_has l_NU_56 k326 k327 rfl rfl d_NU_greatest_12) (c_KS_has (key := low + n) hK (by omega)) K0 hOK hml hl.1 e_KS_has hX hS d_NU_greatest_12 (Nat.le_of_ble_eq_true rfl) (Nat.le_of_ble_eq_true rfl) (Nat.le_of_ble_eq_true rfl) (Nat.le_of_ble_eq_true rfl) (Nat.le_of_ble_eq_true rfl) (fun H locs hX hS => ?_)
      refine W.eq (g2 := F0 m 15 ls [.int (mh_b ((st (low + n)).isSome))]) rfl ?_
      refine mh_ifeqB (tgt := 20) hx hb d_NU_greatest_15 (by decide) (fun ct => ?_) (fun cf => ?_)
      · skip
        refine lv_iinc (v := (nI (low + n) - 1)) (k := 0) (lv' := [(3, .int (nI (low + n) - 1)), (0, .ref a), (1, .int (nI low)), (2, .int (nI high))]) hx hb d_NU_greatest_20 hl rfl (mh_dec (nI (low + n))) (by decide) rfl (fun ls hl => ?_)
        refine lv_goto (tgt := 2) hx hb d_NU_greatest_23 (by decide) ?_
        exact ih  _ _ _ hX hS hl (by omega) (hj.trans (tl_g_f ct))
      · skip
        refine lv_iload_n hx hb d_NU_greatest_18 rfl (lv_at hl 0 rfl) ?_
        exact mh_iret K0 hr rfl hlocks hX hS (⟨by rw [hj, tl_g_t cf]; rfl, rfl⟩) (Nat.le_of_ble_eq_true rfl) (Nat.le_of_ble_eq_true rfl) d_NU_greatest_19
  have hl : lv_has ls 4 [(3, .int (nI (low + (high + 1 - low)) - 1)), (0, .ref a), (1, .int (nI low)), (2, .int (nI high))] := by rw [show low + (high + 1 - low) = high + 1 by omega, nI_pred]; exact hl
  exact LP (high + 1 - low)  _ _ _ hX hS hl (by omega) rfl
set_option maxHeartbeats 4000000 in
set_option maxRecDepth 100000 in
theorem c_NU_tell {l : Launch} {b : Nat} {dC : Nat → ClassId} {dI : Nat → Nat → Nat} {dA : Nat → ClassId} {zs : Nat → Nat} {w : mh_w} {k i a : Nat} {st : Nat → Option Int64} (h : rN dA w k i a st) {low high : Nat} (h1 : low ≤ high) (h2 : high < 256) {q : Nat} (hq : q < 4) : mh_Met l b dC dI dA zs y_NU_tell (mh_rm 2 0 0) [.ref a, .int (nI low), .int (nI high), .int (nI q)] w (mh_V (some (.long (tl_a st low (high + 1 - low) (nI q)))) (fun w' => w' = w)) := by
  have hN := h
  obtain ⟨a1, a3, f, h0, hK, h3, hf⟩ := h
  refine mh_ofW (cc := b_NU_tell) (n := 4) (ret := (some .long)) (hs := []) (by decide) k422 ?_
  intro p e s m below meth c hx hb hr hml hown hts hlocks hnm hT hOK hadm
  have K0 : mh_K0 p s m ([.ref a, .int (nI low), .int (nI high), .int (nI q)]).toArray c "MeldHost$Numbers" b_NU_tell dC dI dA := ⟨hx, hb, hown, hts, hOK.1, hOK.2.1⟩
  have hX := hOK.2.2.2.2
  have hb0 := hOK.2.2.2.1
  have hS : va_S (mh_A b) s.heap s.heap [] := va_S.rf
  have hl := lv_entry ([.ref a, .int (nI low), .int (nI high), .int (nI q)]) (n := 4) (Nat.le_of_ble_eq_true rfl)
  rw [lg_entry_eq]
  generalize (lg_sl ([.ref a, .int (nI low), .int (nI high), .int (nI q)]) ++ List.replicate (4 - (lg_sl ([.ref a, .int (nI low), .int (nI high), .int (nI q)])).length) Slot.unset).toArray = ls at hl ⊢
  have hl : lv_has ls 4 [(0, .ref a), (1, .int (nI low)), (2, .int (nI high)), (3, .int (nI q))] := hl
  refine lv_iload_n hx hb d_NU_tell_0 rfl (lv_at hl 3 rfl) ?_
  have hq4 : q = 0 ∨ q = 1 ∨ q = 2 ∨ q = 3 := by omega
  rcases hq4 with rfl | rfl | rfl | rfl
  · skip
    refine lv_tableIn (tgt := 28) hx hb d_NU_tell_1 (by decide) (by decide) (off := 27) (by decide) (by decide) ?_
    refine lv_aload_n hx hb d_NU_tell_28 rfl (lv_at hl 0 rfl) ?_
    refine lv_iload_n hx hb d_NU_tell_29 rfl (lv_at hl 1 rfl) ?_
    refine lv_iload_n hx hb d_NU_tell_30 rfl (lv_at hl 2 rfl) ?_
    refine mh_callR (mh_sV (rest := []) (av := [.int (nI low), .int (nI high)]) K0 hX h0 rfl e_NU_howMany l_NU_42 k425 kp4 rfl rfl d_NU_tell_31) (c_NU_howMany hN h1 h2) K0 hOK hml hl.1 e_NU_howMany hX hS d_NU_tell_31 (Nat.le_of_ble_eq_true rfl) (Nat.le_of_ble_eq_true rfl) (Nat.le_of_ble_eq_true rfl) (Nat.le_of_ble_eq_true rfl) (Nat.le_of_ble_eq_true rfl) (fun H locs hX hS => ?_)
    refine W.eq (g2 := F0 m 34 ls [.int (nI (tl_n st low (high + 1 - low)))]) rfl ?_
    refine lv_i2l hx hb d_NU_tell_34 rfl ?_
    have e9 := tl_n_le st low (high + 1 - low)
    exact mh_lret K0 hr hlocks hX hS (⟨by rw [tl_a0, nI_l (by omega)], rfl⟩) (Nat.le_of_ble_eq_true rfl) (Nat.le_of_ble_eq_true rfl) d_NU_tell_35
  · skip
    refine lv_tableIn (tgt := 36) hx hb d_NU_tell_1 (by decide) (by decide) (off := 35) (by decide) (by decide) ?_
    refine lv_aload_n hx hb d_NU_tell_36 rfl (lv_at hl 0 rfl) ?_
    refine lv_iload_n hx hb d_NU_tell_37 rfl (lv_at hl 1 rfl) ?_
    refine lv_iload_n hx hb d_NU_tell_38 rfl (lv_at hl 2 rfl) ?_
    refine mh_callR (mh_sV (rest := []) (av := [.int (nI low), .int (nI high)]) K0 hX h0 rfl e_NU_sum l_NU_46 k430 kp5 rfl rfl d_NU_tell_39) (c_NU_sum hN h1 h2) K0 hOK hml hl.1 e_NU_sum hX hS d_NU_tell_39 (Nat.le_of_ble_eq_true rfl) (Nat.le_of_ble_eq_true rfl) (Nat.le_of_ble_eq_true rfl) (Nat.le_of_ble_eq_true rfl) (Nat.le_of_ble_eq_true rfl) (fun H locs hX hS => ?_)
    refine W.eq (g2 := F0 m 42 ls [.long (tl_s st low (high + 1 - low))]) rfl ?_
    exact mh_lret K0 hr hlocks hX hS (⟨by rw [tl_a1], rfl⟩) (Nat.le_of_ble_eq_true rfl) (Nat.le_of_ble_eq_true rfl) d_NU_tell_42
  · skip
    refine lv_tableIn (tgt := 43) hx hb d_NU_tell_1 (by decide) (by decide) (off := 42) (by decide) (by decide) ?_
    refine lv_aload_n hx hb d_NU_tell_43 rfl (lv_at hl 0 rfl) ?_
    refine lv_iload_n hx hb d_NU_tell_44 rfl (lv_at hl 1 rfl) ?_
    refine lv_iload_n hx hb d_NU_tell_45 rfl (lv_at hl 2 rfl) ?_
    refine mh_callR (mh_sV (rest := []) (av := [.int (nI low), .int (nI high)]) K0 hX h0 rfl e_NU_least l_NU_50 k434 kp6 rfl rfl d_NU_tell_46) (c_NU_least hN h1 h2) K0 hOK hml hl.1 e_NU_least hX hS d_NU_tell_46 (Nat.le_of_ble_eq_true rfl) (Nat.le_of_ble_eq_true rfl) (Nat.le_of_ble_eq_true rfl) (Nat.le_of_ble_eq_true rfl) (Nat.le_of_ble_eq_true rfl) (fun H locs hX hS => ?_)
    refine W.eq (g2 := F0 m 49 ls [.int (tl_i (tl_l st low (high + 1 - low)))]) rfl ?_
    refine lv_i2l hx hb d_NU_tell_49 rfl ?_
    exact mh_lret K0 hr hlocks hX hS (⟨by rw [tl_a2], rfl⟩) (Nat.le_of_ble_eq_true rfl) (Nat.le_of_ble_eq_true rfl) d_NU_tell_50
  · skip
    refine lv_tableOut (tgt := 51) hx hb d_NU_tell_1 (Or.inr (by decide)) (by decide) ?_
    refine lv_aload_n hx hb d_NU_tell_51 rfl (lv_at hl 0 rfl) ?_
    refine lv_iload_n hx hb d_NU_tell_52 rfl (lv_at hl 1 rfl) ?_
    refine lv_iload_n hx hb d_NU_tell_53 rfl (lv_at hl 2 rfl) ?_
    refine mh_callR (mh_sV (rest := []) (av := [.int (nI low), .int (nI high)]) K0 hX h0 rfl e_NU_greatest l_NU_53 k438 kp7 rfl rfl d_NU_tell_54) (c_NU_greatest hN h1 h2) K0 hOK hml hl.1 e_NU_greatest hX hS d_NU_tell_54 (Nat.le_of_ble_eq_true rfl) (Nat.le_of_ble_eq_true rfl) (Nat.le_of_ble_eq_true rfl) (Nat.le_of_ble_eq_true rfl) (Nat.le_of_ble_eq_true rfl) (fun H locs hX hS => ?_)
    refine W.eq (g2 := F0 m 57 ls [.int (tl_i (tl_g st low (high + 1 - low)))]) rfl ?_
    refine lv_i2l hx hb d_NU_tell_57 rfl ?_
    exact mh_lret K0 hr hlocks hX hS (⟨by rw [tl_a3], rfl⟩) (Nat.le_of_ble_eq_true rfl) (Nat.le_of_ble_eq_true rfl) d_NU_tell_58
end
section
theorem st_pl_succ (wk : Nat → Nat) (z j : Nat) : (st_pl wk z (j + 1) < j + 1) ↔ (st_pl wk z j < j ∨ wk j = z) := by
  rw [st_pl]
  have := st_pl_le wk z j
  by_cases h : st_pl wk z j < j
  · rw [if_pos h]; exact ⟨fun _ => Or.inl h, fun _ => by omega⟩
  · rw [if_neg h]
    by_cases e : wk j = z
    · rw [if_pos e]; exact ⟨fun _ => Or.inr e, fun _ => by omega⟩
    · rw [if_neg e]; exact ⟨fun q => by omega, fun q => q.elim (fun q => absurd q h) (fun q => absurd q e)⟩
def rS (dA : Nat → ClassId) (w : mh_w) (s a : Nat) (st : Nat → Option Int64) (lw : Nat → Int32) (g gg : Nat) : Prop := ∃ (a5 a9 : Nat) (f : Nat → Int32), w 4 s = some (a, .inr (3, [.ref a5, .ref a9, .int (nI g), .int (nI gg)])) ∧ rN dA w 5 s a5 st ∧ w 9 s = some (a9, .inl (dA 0, 256, .inl f)) ∧ ∀ j, j < 256 → f j = lw j
theorem rS.to {dA : Nat → ClassId} {w w' : mh_w} {s a g gg : Nat} {st st' : Nat → Option Int64} {lw lw' : Nat → Int32} (h : rS dA w s a st lw g gg) (h1 : ∀ k, 4 ≤ k → k < 10 → w' k s = w k s) (h2 : ∀ j, j < 256 → st j = st' j) (h3 : ∀ j, j < 256 → lw j = lw' j) : rS dA w' s a st' lw' g gg := by
  obtain ⟨a5, a9, f, e0, e1, e2, e3⟩ := h
  exact ⟨a5, a9, f, (h1 4 (by omega) (by omega)).trans e0, e1.to (fun z hz => h1 (5 + z) (by omega) (by omega)) h2, (h1 9 (by omega) (by omega)).trans e2, fun j hj => (e3 j hj).trans (h3 j hj)⟩
theorem d_IN_init_0 : decode b_IN_init 0 = .ok (.aload_n 0, 1) := by decide +kernel
theorem d_IN_init_1 : decode b_IN_init 1 = .ok (.invokespecial 3, 3) := by decide +kernel
theorem d_IN_init_4 : decode b_IN_init 4 = .ok (.aload_n 0, 1) := by decide +kernel
theorem d_IN_init_5 : decode b_IN_init 5 = .ok (.new 9, 3) := by decide +kernel
theorem d_IN_init_8 : decode b_IN_init 8 = .ok (.dup, 1) := by decide +kernel
theorem d_IN_init_9 : decode b_IN_init 9 = .ok (.invokespecial 11, 3) := by decide +kernel
theorem d_IN_init_12 : decode b_IN_init 12 = .ok (.putfield 12, 3) := by decide +kernel
theorem d_IN_init_15 : decode b_IN_init 15 = .ok (.aload_n 0, 1) := by decide +kernel
theorem d_IN_init_16 : decode b_IN_init 16 = .ok (.bipush 8, 2) := by decide +kernel
theorem d_IN_init_18 : decode b_IN_init 18 = .ok (.newarray .int, 2) := by decide +kernel
theorem d_IN_init_20 : decode b_IN_init 20 = .ok (.putfield 18, 3) := by decide +kernel
theorem d_IN_init_23 : decode b_IN_init 23 = .ok (.aload_n 0, 1) := by decide +kernel
theorem d_IN_init_24 : decode b_IN_init 24 = .ok (.bipush 8, 2) := by decide +kernel
theorem d_IN_init_26 : decode b_IN_init 26 = .ok (.newarray .int, 2) := by decide +kernel
theorem d_IN_init_28 : decode b_IN_init 28 = .ok (.putfield 22, 3) := by decide +kernel
theorem d_IN_init_31 : decode b_IN_init 31 = .ok (.aload_n 0, 1) := by decide +kernel
theorem d_IN_init_32 : decode b_IN_init 32 = .ok (.bipush 8, 2) := by decide +kernel
theorem d_IN_init_34 : decode b_IN_init 34 = .ok (.newarray .int, 2) := by decide +kernel
theorem d_IN_init_36 : decode b_IN_init 36 = .ok (.putfield 25, 3) := by decide +kernel
theorem d_IN_init_39 : decode b_IN_init 39 = .ok (.aload_n 0, 1) := by decide +kernel
theorem d_IN_init_40 : decode b_IN_init 40 = .ok (.bipush 8, 2) := by decide +kernel
theorem d_IN_init_42 : decode b_IN_init 42 = .ok (.newarray .boolean, 2) := by decide +kernel
theorem d_IN_init_44 : decode b_IN_init 44 = .ok (.putfield 28, 3) := by decide +kernel
theorem d_IN_init_47 : decode b_IN_init 47 = .ok (.aload_n 0, 1) := by decide +kernel
theorem d_IN_init_48 : decode b_IN_init 48 = .ok (.bipush 8, 2) := by decide +kernel
theorem d_IN_init_50 : decode b_IN_init 50 = .ok (.newarray .long, 2) := by decide +kernel
theorem d_IN_init_52 : decode b_IN_init 52 = .ok (.putfield 32, 3) := by decide +kernel
theorem d_IN_init_55 : decode b_IN_init 55 = .ok (.aload_n 0, 1) := by decide +kernel
theorem d_IN_init_56 : decode b_IN_init 56 = .ok (.iload_n 1, 1) := by decide +kernel
theorem d_IN_init_57 : decode b_IN_init 57 = .ok (.putfield 36, 3) := by decide +kernel
theorem d_IN_init_60 : decode b_IN_init 60 = .ok (.aload_n 0, 1) := by decide +kernel
theorem d_IN_init_61 : decode b_IN_init 61 = .ok (.iload_n 2, 1) := by decide +kernel
theorem d_IN_init_62 : decode b_IN_init 62 = .ok (.putfield 40, 3) := by decide +kernel
theorem d_IN_init_65 : decode b_IN_init 65 = .ok (.aload_n 0, 1) := by decide +kernel
theorem d_IN_init_66 : decode b_IN_init 66 = .ok (.iload_n 3, 1) := by decide +kernel
theorem d_IN_init_67 : decode b_IN_init 67 = .ok (.putfield 43, 3) := by decide +kernel
theorem d_IN_init_70 : decode b_IN_init 70 = .ok (.return_, 1) := by decide +kernel
theorem d_IN_placeOf_0 : decode b_IN_placeOf 0 = .ok (.iconst 0, 1) := by decide +kernel
theorem d_IN_placeOf_1 : decode b_IN_placeOf 1 = .ok (.istore_n 2, 1) := by decide +kernel
theorem d_IN_placeOf_2 : decode b_IN_placeOf 2 = .ok (.iload_n 2, 1) := by decide +kernel
theorem d_IN_placeOf_3 : decode b_IN_placeOf 3 = .ok (.aload_n 0, 1) := by decide +kernel
theorem d_IN_placeOf_4 : decode b_IN_placeOf 4 = .ok (.getfield 61, 3) := by decide +kernel
theorem d_IN_placeOf_7 : decode b_IN_placeOf 7 = .ok (.if_icmp .ge 21, 3) := by decide +kernel
theorem d_IN_placeOf_28 : decode b_IN_placeOf 28 = .ok (.aload_n 0, 1) := by decide +kernel
theorem d_IN_placeOf_29 : decode b_IN_placeOf 29 = .ok (.getfield 61, 3) := by decide +kernel
theorem d_IN_placeOf_32 : decode b_IN_placeOf 32 = .ok (.ireturn, 1) := by decide +kernel
theorem d_IN_placeOf_10 : decode b_IN_placeOf 10 = .ok (.aload_n 0, 1) := by decide +kernel
theorem d_IN_placeOf_11 : decode b_IN_placeOf 11 = .ok (.getfield 25, 3) := by decide +kernel
theorem d_IN_placeOf_14 : decode b_IN_placeOf 14 = .ok (.iload_n 2, 1) := by decide +kernel
theorem d_IN_placeOf_15 : decode b_IN_placeOf 15 = .ok (.iaload, 1) := by decide +kernel
theorem d_IN_placeOf_16 : decode b_IN_placeOf 16 = .ok (.iload_n 1, 1) := by decide +kernel
theorem d_IN_placeOf_17 : decode b_IN_placeOf 17 = .ok (.if_icmp .ne 5, 3) := by decide +kernel
theorem d_IN_placeOf_22 : decode b_IN_placeOf 22 = .ok (.iinc 2 1, 3) := by decide +kernel
theorem d_IN_placeOf_25 : decode b_IN_placeOf 25 = .ok (.goto (-23), 3) := by decide +kernel
theorem d_IN_placeOf_20 : decode b_IN_placeOf 20 = .ok (.iload_n 2, 1) := by decide +kernel
theorem d_IN_placeOf_21 : decode b_IN_placeOf 21 = .ok (.ireturn, 1) := by decide +kernel
theorem d_IN_hasRoomFor_0 : decode b_IN_hasRoomFor 0 = .ok (.aload_n 0, 1) := by decide +kernel
theorem d_IN_hasRoomFor_1 : decode b_IN_hasRoomFor 1 = .ok (.iload_n 1, 1) := by decide +kernel
theorem d_IN_hasRoomFor_2 : decode b_IN_hasRoomFor 2 = .ok (.invokevirtual 57, 3) := by decide +kernel
theorem d_IN_hasRoomFor_5 : decode b_IN_hasRoomFor 5 = .ok (.bipush 8, 2) := by decide +kernel
theorem d_IN_hasRoomFor_7 : decode b_IN_hasRoomFor 7 = .ok (.if_icmp .ge 7, 3) := by decide +kernel
theorem d_IN_hasRoomFor_14 : decode b_IN_hasRoomFor 14 = .ok (.iconst 0, 1) := by decide +kernel
theorem d_IN_hasRoomFor_15 : decode b_IN_hasRoomFor 15 = .ok (.ireturn, 1) := by decide +kernel
theorem d_IN_hasRoomFor_10 : decode b_IN_hasRoomFor 10 = .ok (.iconst 1, 1) := by decide +kernel
theorem d_IN_hasRoomFor_11 : decode b_IN_hasRoomFor 11 = .ok (.goto 4, 3) := by decide +kernel
theorem d_IN_hasWritten_0 : decode b_IN_hasWritten 0 = .ok (.aload_n 0, 1) := by decide +kernel
theorem d_IN_hasWritten_1 : decode b_IN_hasWritten 1 = .ok (.iload_n 1, 1) := by decide +kernel
theorem d_IN_hasWritten_2 : decode b_IN_hasWritten 2 = .ok (.invokevirtual 57, 3) := by decide +kernel
theorem d_IN_hasWritten_5 : decode b_IN_hasWritten 5 = .ok (.aload_n 0, 1) := by decide +kernel
theorem d_IN_hasWritten_6 : decode b_IN_hasWritten 6 = .ok (.getfield 61, 3) := by decide +kernel
theorem d_IN_hasWritten_9 : decode b_IN_hasWritten 9 = .ok (.if_icmp .ge 7, 3) := by decide +kernel
theorem d_IN_hasWritten_16 : decode b_IN_hasWritten 16 = .ok (.iconst 0, 1) := by decide +kernel
theorem d_IN_hasWritten_17 : decode b_IN_hasWritten 17 = .ok (.ireturn, 1) := by decide +kernel
theorem d_IN_hasWritten_12 : decode b_IN_hasWritten 12 = .ok (.iconst 1, 1) := by decide +kernel
theorem d_IN_hasWritten_13 : decode b_IN_hasWritten 13 = .ok (.goto 4, 3) := by decide +kernel
theorem d_IN_hasRead_0 : decode b_IN_hasRead 0 = .ok (.iconst 0, 1) := by decide +kernel
theorem d_IN_hasRead_1 : decode b_IN_hasRead 1 = .ok (.istore_n 2, 1) := by decide +kernel
theorem d_IN_hasRead_2 : decode b_IN_hasRead 2 = .ok (.iload_n 2, 1) := by decide +kernel
theorem d_IN_hasRead_3 : decode b_IN_hasRead 3 = .ok (.aload_n 0, 1) := by decide +kernel
theorem d_IN_hasRead_4 : decode b_IN_hasRead 4 = .ok (.getfield 54, 3) := by decide +kernel
theorem d_IN_hasRead_7 : decode b_IN_hasRead 7 = .ok (.if_icmp .ge 31, 3) := by decide +kernel
theorem d_IN_hasRead_38 : decode b_IN_hasRead 38 = .ok (.aload_n 0, 1) := by decide +kernel
theorem d_IN_hasRead_39 : decode b_IN_hasRead 39 = .ok (.getfield 12, 3) := by decide +kernel
theorem d_IN_hasRead_42 : decode b_IN_hasRead 42 = .ok (.iload_n 1, 1) := by decide +kernel
theorem d_IN_hasRead_43 : decode b_IN_hasRead 43 = .ok (.invokevirtual 70, 3) := by decide +kernel
theorem d_IN_hasRead_46 : decode b_IN_hasRead 46 = .ok (.ireturn, 1) := by decide +kernel
theorem d_IN_hasRead_10 : decode b_IN_hasRead 10 = .ok (.aload_n 0, 1) := by decide +kernel
theorem d_IN_hasRead_11 : decode b_IN_hasRead 11 = .ok (.getfield 18, 3) := by decide +kernel
theorem d_IN_hasRead_14 : decode b_IN_hasRead 14 = .ok (.iload_n 2, 1) := by decide +kernel
theorem d_IN_hasRead_15 : decode b_IN_hasRead 15 = .ok (.iaload, 1) := by decide +kernel
theorem d_IN_hasRead_16 : decode b_IN_hasRead 16 = .ok (.iload_n 1, 1) := by decide +kernel
theorem d_IN_hasRead_17 : decode b_IN_hasRead 17 = .ok (.if_icmp .gt 15, 3) := by decide +kernel
theorem d_IN_hasRead_32 : decode b_IN_hasRead 32 = .ok (.iinc 2 1, 3) := by decide +kernel
theorem d_IN_hasRead_35 : decode b_IN_hasRead 35 = .ok (.goto (-33), 3) := by decide +kernel
theorem d_IN_hasRead_20 : decode b_IN_hasRead 20 = .ok (.iload_n 1, 1) := by decide +kernel
theorem d_IN_hasRead_21 : decode b_IN_hasRead 21 = .ok (.aload_n 0, 1) := by decide +kernel
theorem d_IN_hasRead_22 : decode b_IN_hasRead 22 = .ok (.getfield 22, 3) := by decide +kernel
theorem d_IN_hasRead_25 : decode b_IN_hasRead 25 = .ok (.iload_n 2, 1) := by decide +kernel
theorem d_IN_hasRead_26 : decode b_IN_hasRead 26 = .ok (.iaload, 1) := by decide +kernel
theorem d_IN_hasRead_27 : decode b_IN_hasRead 27 = .ok (.if_icmp .gt 5, 3) := by decide +kernel
theorem d_IN_hasRead_30 : decode b_IN_hasRead 30 = .ok (.iconst 1, 1) := by decide +kernel
theorem d_IN_hasRead_31 : decode b_IN_hasRead 31 = .ok (.ireturn, 1) := by decide +kernel
theorem d_IN_isHitBy_0 : decode b_IN_isHitBy 0 = .ok (.iconst 0, 1) := by decide +kernel
theorem d_IN_isHitBy_1 : decode b_IN_isHitBy 1 = .ok (.istore_n 2, 1) := by decide +kernel
theorem d_IN_isHitBy_2 : decode b_IN_isHitBy 2 = .ok (.iload_n 2, 1) := by decide +kernel
theorem d_IN_isHitBy_3 : decode b_IN_isHitBy 3 = .ok (.aload_n 1, 1) := by decide +kernel
theorem d_IN_isHitBy_4 : decode b_IN_isHitBy 4 = .ok (.getfield 61, 3) := by decide +kernel
theorem d_IN_isHitBy_7 : decode b_IN_isHitBy 7 = .ok (.if_icmp .ge 44, 3) := by decide +kernel
theorem d_IN_isHitBy_51 : decode b_IN_isHitBy 51 = .ok (.iconst 0, 1) := by decide +kernel
theorem d_IN_isHitBy_52 : decode b_IN_isHitBy 52 = .ok (.ireturn, 1) := by decide +kernel
theorem d_IN_isHitBy_10 : decode b_IN_isHitBy 10 = .ok (.aload_n 1, 1) := by decide +kernel
theorem d_IN_isHitBy_11 : decode b_IN_isHitBy 11 = .ok (.getfield 25, 3) := by decide +kernel
theorem d_IN_isHitBy_14 : decode b_IN_isHitBy 14 = .ok (.iload_n 2, 1) := by decide +kernel
theorem d_IN_isHitBy_15 : decode b_IN_isHitBy 15 = .ok (.iaload, 1) := by decide +kernel
theorem d_IN_isHitBy_16 : decode b_IN_isHitBy 16 = .ok (.istore_n 3, 1) := by decide +kernel
theorem d_IN_isHitBy_17 : decode b_IN_isHitBy 17 = .ok (.aload_n 0, 1) := by decide +kernel
theorem d_IN_isHitBy_18 : decode b_IN_isHitBy 18 = .ok (.getfield 43, 3) := by decide +kernel
theorem d_IN_isHitBy_21 : decode b_IN_isHitBy 21 = .ok (.ifCond .ne 14, 3) := by decide +kernel
theorem d_IN_isHitBy_35 : decode b_IN_isHitBy 35 = .ok (.aload_n 0, 1) := by decide +kernel
theorem d_IN_isHitBy_36 : decode b_IN_isHitBy 36 = .ok (.iload_n 3, 1) := by decide +kernel
theorem d_IN_isHitBy_37 : decode b_IN_isHitBy 37 = .ok (.invokevirtual 46, 3) := by decide +kernel
theorem d_IN_isHitBy_40 : decode b_IN_isHitBy 40 = .ok (.ifCond .eq 5, 3) := by decide +kernel
theorem d_IN_isHitBy_45 : decode b_IN_isHitBy 45 = .ok (.iinc 2 1, 3) := by decide +kernel
theorem d_IN_isHitBy_48 : decode b_IN_isHitBy 48 = .ok (.goto (-46), 3) := by decide +kernel
theorem d_IN_isHitBy_43 : decode b_IN_isHitBy 43 = .ok (.iconst 1, 1) := by decide +kernel
theorem d_IN_isHitBy_44 : decode b_IN_isHitBy 44 = .ok (.ireturn, 1) := by decide +kernel
theorem d_IN_isHitBy_24 : decode b_IN_isHitBy 24 = .ok (.aload_n 0, 1) := by decide +kernel
theorem d_IN_isHitBy_25 : decode b_IN_isHitBy 25 = .ok (.iload_n 3, 1) := by decide +kernel
theorem d_IN_isHitBy_26 : decode b_IN_isHitBy 26 = .ok (.invokevirtual 73, 3) := by decide +kernel
theorem d_IN_isHitBy_29 : decode b_IN_isHitBy 29 = .ok (.ifCond .eq 16, 3) := by decide +kernel
theorem d_IN_isHitBy_32 : decode b_IN_isHitBy 32 = .ok (.goto 11, 3) := by decide +kernel
theorem d_IN_readKey_0 : decode b_IN_readKey 0 = .ok (.aload_n 0, 1) := by decide +kernel
theorem d_IN_readKey_1 : decode b_IN_readKey 1 = .ok (.iload_n 1, 1) := by decide +kernel
theorem d_IN_readKey_2 : decode b_IN_readKey 2 = .ok (.invokevirtual 46, 3) := by decide +kernel
theorem d_IN_readKey_5 : decode b_IN_readKey 5 = .ok (.ifCond .ne 11, 3) := by decide +kernel
theorem d_IN_readKey_16 : decode b_IN_readKey 16 = .ok (.return_, 1) := by decide +kernel
theorem d_IN_readKey_8 : decode b_IN_readKey 8 = .ok (.aload_n 0, 1) := by decide +kernel
theorem d_IN_readKey_9 : decode b_IN_readKey 9 = .ok (.getfield 12, 3) := by decide +kernel
theorem d_IN_readKey_12 : decode b_IN_readKey 12 = .ok (.iload_n 1, 1) := by decide +kernel
theorem d_IN_readKey_13 : decode b_IN_readKey 13 = .ok (.invokevirtual 50, 3) := by decide +kernel
theorem d_IN_readPart_0 : decode b_IN_readPart 0 = .ok (.aload_n 0, 1) := by decide +kernel
theorem d_IN_readPart_1 : decode b_IN_readPart 1 = .ok (.getfield 54, 3) := by decide +kernel
theorem d_IN_readPart_4 : decode b_IN_readPart 4 = .ok (.bipush 8, 2) := by decide +kernel
theorem d_IN_readPart_6 : decode b_IN_readPart 6 = .ok (.if_icmp .ge 33, 3) := by decide +kernel
theorem d_IN_readPart_9 : decode b_IN_readPart 9 = .ok (.aload_n 0, 1) := by decide +kernel
theorem d_IN_readPart_10 : decode b_IN_readPart 10 = .ok (.getfield 18, 3) := by decide +kernel
theorem d_IN_readPart_13 : decode b_IN_readPart 13 = .ok (.aload_n 0, 1) := by decide +kernel
theorem d_IN_readPart_14 : decode b_IN_readPart 14 = .ok (.getfield 54, 3) := by decide +kernel
theorem d_IN_readPart_17 : decode b_IN_readPart 17 = .ok (.iload_n 1, 1) := by decide +kernel
theorem d_IN_readPart_18 : decode b_IN_readPart 18 = .ok (.iastore, 1) := by decide +kernel
theorem d_IN_readPart_19 : decode b_IN_readPart 19 = .ok (.aload_n 0, 1) := by decide +kernel
theorem d_IN_readPart_20 : decode b_IN_readPart 20 = .ok (.getfield 22, 3) := by decide +kernel
theorem d_IN_readPart_23 : decode b_IN_readPart 23 = .ok (.aload_n 0, 1) := by decide +kernel
theorem d_IN_readPart_24 : decode b_IN_readPart 24 = .ok (.getfield 54, 3) := by decide +kernel
theorem d_IN_readPart_27 : decode b_IN_readPart 27 = .ok (.iload_n 2, 1) := by decide +kernel
theorem d_IN_readPart_28 : decode b_IN_readPart 28 = .ok (.iastore, 1) := by decide +kernel
theorem d_IN_readPart_29 : decode b_IN_readPart 29 = .ok (.aload_n 0, 1) := by decide +kernel
theorem d_IN_readPart_30 : decode b_IN_readPart 30 = .ok (.dup, 1) := by decide +kernel
theorem d_IN_readPart_31 : decode b_IN_readPart 31 = .ok (.getfield 54, 3) := by decide +kernel
theorem d_IN_readPart_34 : decode b_IN_readPart 34 = .ok (.iconst 1, 1) := by decide +kernel
theorem d_IN_readPart_35 : decode b_IN_readPart 35 = .ok (.iadd, 1) := by decide +kernel
theorem d_IN_readPart_36 : decode b_IN_readPart 36 = .ok (.putfield 54, 3) := by decide +kernel
theorem d_IN_readPart_39 : decode b_IN_readPart 39 = .ok (.return_, 1) := by decide +kernel
theorem d_IN_write_0 : decode b_IN_write 0 = .ok (.aload_n 0, 1) := by decide +kernel
theorem d_IN_write_1 : decode b_IN_write 1 = .ok (.iload_n 1, 1) := by decide +kernel
theorem d_IN_write_2 : decode b_IN_write 2 = .ok (.invokevirtual 57, 3) := by decide +kernel
theorem d_IN_write_5 : decode b_IN_write 5 = .ok (.istore 5, 2) := by decide +kernel
theorem d_IN_write_7 : decode b_IN_write 7 = .ok (.iload 5, 2) := by decide +kernel
theorem d_IN_write_9 : decode b_IN_write 9 = .ok (.bipush 8, 2) := by decide +kernel
theorem d_IN_write_11 : decode b_IN_write 11 = .ok (.if_icmp .lt 4, 3) := by decide +kernel
theorem d_IN_write_15 : decode b_IN_write 15 = .ok (.aload_n 0, 1) := by decide +kernel
theorem d_IN_write_16 : decode b_IN_write 16 = .ok (.getfield 25, 3) := by decide +kernel
theorem d_IN_write_19 : decode b_IN_write 19 = .ok (.iload 5, 2) := by decide +kernel
theorem d_IN_write_21 : decode b_IN_write 21 = .ok (.iload_n 1, 1) := by decide +kernel
theorem d_IN_write_22 : decode b_IN_write 22 = .ok (.iastore, 1) := by decide +kernel
theorem d_IN_write_23 : decode b_IN_write 23 = .ok (.aload_n 0, 1) := by decide +kernel
theorem d_IN_write_24 : decode b_IN_write 24 = .ok (.getfield 28, 3) := by decide +kernel
theorem d_IN_write_27 : decode b_IN_write 27 = .ok (.iload 5, 2) := by decide +kernel
theorem d_IN_write_29 : decode b_IN_write 29 = .ok (.iload_n 2, 1) := by decide +kernel
theorem d_IN_write_30 : decode b_IN_write 30 = .ok (.bastore, 1) := by decide +kernel
theorem d_IN_write_31 : decode b_IN_write 31 = .ok (.aload_n 0, 1) := by decide +kernel
theorem d_IN_write_32 : decode b_IN_write 32 = .ok (.getfield 32, 3) := by decide +kernel
theorem d_IN_write_35 : decode b_IN_write 35 = .ok (.iload 5, 2) := by decide +kernel
theorem d_IN_write_37 : decode b_IN_write 37 = .ok (.lload_n 3, 1) := by decide +kernel
theorem d_IN_write_38 : decode b_IN_write 38 = .ok (.lastore, 1) := by decide +kernel
theorem d_IN_write_39 : decode b_IN_write 39 = .ok (.aload_n 0, 1) := by decide +kernel
theorem d_IN_write_40 : decode b_IN_write 40 = .ok (.aload_n 0, 1) := by decide +kernel
theorem d_IN_write_41 : decode b_IN_write 41 = .ok (.getfield 61, 3) := by decide +kernel
theorem d_IN_write_44 : decode b_IN_write 44 = .ok (.iload 5, 2) := by decide +kernel
theorem d_IN_write_46 : decode b_IN_write 46 = .ok (.iconst 1, 1) := by decide +kernel
theorem d_IN_write_47 : decode b_IN_write 47 = .ok (.iadd, 1) := by decide +kernel
theorem d_IN_write_48 : decode b_IN_write 48 = .ok (.invokestatic 64, 3) := by decide +kernel
theorem d_IN_write_51 : decode b_IN_write 51 = .ok (.putfield 61, 3) := by decide +kernel
theorem d_IN_write_54 : decode b_IN_write 54 = .ok (.return_, 1) := by decide +kernel
theorem d_IN_writeInto_0 : decode b_IN_writeInto 0 = .ok (.iconst 0, 1) := by decide +kernel
theorem d_IN_writeInto_1 : decode b_IN_writeInto 1 = .ok (.istore_n 2, 1) := by decide +kernel
theorem d_IN_writeInto_2 : decode b_IN_writeInto 2 = .ok (.iload_n 2, 1) := by decide +kernel
theorem d_IN_writeInto_3 : decode b_IN_writeInto 3 = .ok (.aload_n 0, 1) := by decide +kernel
theorem d_IN_writeInto_4 : decode b_IN_writeInto 4 = .ok (.getfield 61, 3) := by decide +kernel
theorem d_IN_writeInto_7 : decode b_IN_writeInto 7 = .ok (.if_icmp .ge 47, 3) := by decide +kernel
theorem d_IN_writeInto_54 : decode b_IN_writeInto 54 = .ok (.return_, 1) := by decide +kernel
theorem d_IN_writeInto_10 : decode b_IN_writeInto 10 = .ok (.aload_n 0, 1) := by decide +kernel
theorem d_IN_writeInto_11 : decode b_IN_writeInto 11 = .ok (.getfield 28, 3) := by decide +kernel
theorem d_IN_writeInto_14 : decode b_IN_writeInto 14 = .ok (.iload_n 2, 1) := by decide +kernel
theorem d_IN_writeInto_15 : decode b_IN_writeInto 15 = .ok (.baload, 1) := by decide +kernel
theorem d_IN_writeInto_16 : decode b_IN_writeInto 16 = .ok (.ifCond .eq 22, 3) := by decide +kernel
theorem d_IN_writeInto_38 : decode b_IN_writeInto 38 = .ok (.aload_n 1, 1) := by decide +kernel
theorem d_IN_writeInto_39 : decode b_IN_writeInto 39 = .ok (.aload_n 0, 1) := by decide +kernel
theorem d_IN_writeInto_40 : decode b_IN_writeInto 40 = .ok (.getfield 25, 3) := by decide +kernel
theorem d_IN_writeInto_43 : decode b_IN_writeInto 43 = .ok (.iload_n 2, 1) := by decide +kernel
theorem d_IN_writeInto_44 : decode b_IN_writeInto 44 = .ok (.iaload, 1) := by decide +kernel
theorem d_IN_writeInto_45 : decode b_IN_writeInto 45 = .ok (.invokevirtual 82, 3) := by decide +kernel
theorem d_IN_writeInto_48 : decode b_IN_writeInto 48 = .ok (.iinc 2 1, 3) := by decide +kernel
theorem d_IN_writeInto_51 : decode b_IN_writeInto 51 = .ok (.goto (-49), 3) := by decide +kernel
theorem d_IN_writeInto_19 : decode b_IN_writeInto 19 = .ok (.aload_n 1, 1) := by decide +kernel
theorem d_IN_writeInto_20 : decode b_IN_writeInto 20 = .ok (.aload_n 0, 1) := by decide +kernel
theorem d_IN_writeInto_21 : decode b_IN_writeInto 21 = .ok (.getfield 25, 3) := by decide +kernel
theorem d_IN_writeInto_24 : decode b_IN_writeInto 24 = .ok (.iload_n 2, 1) := by decide +kernel
theorem d_IN_writeInto_25 : decode b_IN_writeInto 25 = .ok (.iaload, 1) := by decide +kernel
theorem d_IN_writeInto_26 : decode b_IN_writeInto 26 = .ok (.aload_n 0, 1) := by decide +kernel
theorem d_IN_writeInto_27 : decode b_IN_writeInto 27 = .ok (.getfield 32, 3) := by decide +kernel
theorem d_IN_writeInto_30 : decode b_IN_writeInto 30 = .ok (.iload_n 2, 1) := by decide +kernel
theorem d_IN_writeInto_31 : decode b_IN_writeInto 31 = .ok (.laload, 1) := by decide +kernel
theorem d_IN_writeInto_32 : decode b_IN_writeInto 32 = .ok (.invokevirtual 76, 3) := by decide +kernel
theorem d_IN_writeInto_35 : decode b_IN_writeInto 35 = .ok (.goto 13, 3) := by decide +kernel
theorem d_IN_signInto_0 : decode b_IN_signInto 0 = .ok (.iconst 0, 1) := by decide +kernel
theorem d_IN_signInto_1 : decode b_IN_signInto 1 = .ok (.istore_n 3, 1) := by decide +kernel
theorem d_IN_signInto_2 : decode b_IN_signInto 2 = .ok (.iload_n 3, 1) := by decide +kernel
theorem d_IN_signInto_3 : decode b_IN_signInto 3 = .ok (.aload_n 0, 1) := by decide +kernel
theorem d_IN_signInto_4 : decode b_IN_signInto 4 = .ok (.getfield 61, 3) := by decide +kernel
theorem d_IN_signInto_7 : decode b_IN_signInto 7 = .ok (.if_icmp .ge 18, 3) := by decide +kernel
theorem d_IN_signInto_25 : decode b_IN_signInto 25 = .ok (.return_, 1) := by decide +kernel
theorem d_IN_signInto_10 : decode b_IN_signInto 10 = .ok (.aload_n 1, 1) := by decide +kernel
theorem d_IN_signInto_11 : decode b_IN_signInto 11 = .ok (.aload_n 0, 1) := by decide +kernel
theorem d_IN_signInto_12 : decode b_IN_signInto 12 = .ok (.getfield 25, 3) := by decide +kernel
theorem d_IN_signInto_15 : decode b_IN_signInto 15 = .ok (.iload_n 3, 1) := by decide +kernel
theorem d_IN_signInto_16 : decode b_IN_signInto 16 = .ok (.iaload, 1) := by decide +kernel
theorem d_IN_signInto_17 : decode b_IN_signInto 17 = .ok (.iload_n 2, 1) := by decide +kernel
theorem d_IN_signInto_18 : decode b_IN_signInto 18 = .ok (.iastore, 1) := by decide +kernel
theorem d_IN_signInto_19 : decode b_IN_signInto 19 = .ok (.iinc 3 1, 3) := by decide +kernel
theorem d_IN_signInto_22 : decode b_IN_signInto 22 = .ok (.goto (-20), 3) := by decide +kernel
theorem d_IN_tell_0 : decode b_IN_tell 0 = .ok (.iload_n 1, 1) := by decide +kernel
theorem d_IN_tell_1 : decode b_IN_tell 1 = .ok (.tableswitch 63 0 4 #[35, 40, 45, 53, 58], 35) := by decide +kernel
theorem d_IN_tell_36 : decode b_IN_tell 36 = .ok (.aload_n 0, 1) := by decide +kernel
theorem d_IN_tell_37 : decode b_IN_tell 37 = .ok (.getfield 40, 3) := by decide +kernel
theorem d_IN_tell_40 : decode b_IN_tell 40 = .ok (.ireturn, 1) := by decide +kernel
theorem d_IN_tell_41 : decode b_IN_tell 41 = .ok (.aload_n 0, 1) := by decide +kernel
theorem d_IN_tell_42 : decode b_IN_tell 42 = .ok (.getfield 43, 3) := by decide +kernel
theorem d_IN_tell_45 : decode b_IN_tell 45 = .ok (.ireturn, 1) := by decide +kernel
theorem d_IN_tell_46 : decode b_IN_tell 46 = .ok (.aload_n 0, 1) := by decide +kernel
theorem d_IN_tell_47 : decode b_IN_tell 47 = .ok (.getfield 12, 3) := by decide +kernel
theorem d_IN_tell_50 : decode b_IN_tell 50 = .ok (.invokevirtual 85, 3) := by decide +kernel
theorem d_IN_tell_53 : decode b_IN_tell 53 = .ok (.ireturn, 1) := by decide +kernel
theorem d_IN_tell_54 : decode b_IN_tell 54 = .ok (.aload_n 0, 1) := by decide +kernel
theorem d_IN_tell_55 : decode b_IN_tell 55 = .ok (.getfield 54, 3) := by decide +kernel
theorem d_IN_tell_58 : decode b_IN_tell 58 = .ok (.ireturn, 1) := by decide +kernel
theorem d_IN_tell_59 : decode b_IN_tell 59 = .ok (.aload_n 0, 1) := by decide +kernel
theorem d_IN_tell_60 : decode b_IN_tell 60 = .ok (.getfield 61, 3) := by decide +kernel
theorem d_IN_tell_63 : decode b_IN_tell 63 = .ok (.ireturn, 1) := by decide +kernel
theorem d_IN_tell_64 : decode b_IN_tell 64 = .ok (.aload_n 0, 1) := by decide +kernel
theorem d_IN_tell_65 : decode b_IN_tell 65 = .ok (.getfield 36, 3) := by decide +kernel
theorem d_IN_tell_68 : decode b_IN_tell 68 = .ok (.ireturn, 1) := by decide +kernel
theorem d_SV_init_0 : decode b_SV_init 0 = .ok (.aload_n 0, 1) := by decide +kernel
theorem d_SV_init_1 : decode b_SV_init 1 = .ok (.invokespecial 3, 3) := by decide +kernel
theorem d_SV_init_4 : decode b_SV_init 4 = .ok (.aload_n 0, 1) := by decide +kernel
theorem d_SV_init_5 : decode b_SV_init 5 = .ok (.new 9, 3) := by decide +kernel
theorem d_SV_init_8 : decode b_SV_init 8 = .ok (.dup, 1) := by decide +kernel
theorem d_SV_init_9 : decode b_SV_init 9 = .ok (.invokespecial 11, 3) := by decide +kernel
theorem d_SV_init_12 : decode b_SV_init 12 = .ok (.putfield 12, 3) := by decide +kernel
theorem d_SV_init_15 : decode b_SV_init 15 = .ok (.aload_n 0, 1) := by decide +kernel
theorem d_SV_init_16 : decode b_SV_init 16 = .ok (.sipush 256, 3) := by decide +kernel
theorem d_SV_init_19 : decode b_SV_init 19 = .ok (.newarray .int, 2) := by decide +kernel
theorem d_SV_init_21 : decode b_SV_init 21 = .ok (.putfield 18, 3) := by decide +kernel
theorem d_SV_init_24 : decode b_SV_init 24 = .ok (.aload_n 0, 1) := by decide +kernel
theorem d_SV_init_25 : decode b_SV_init 25 = .ok (.getfield 18, 3) := by decide +kernel
theorem d_SV_init_28 : decode b_SV_init 28 = .ok (.iconst (-1), 1) := by decide +kernel
theorem d_SV_init_29 : decode b_SV_init 29 = .ok (.invokestatic 22, 3) := by decide +kernel
theorem d_SV_init_32 : decode b_SV_init 32 = .ok (.return_, 1) := by decide +kernel
theorem d_SV_startOver_0 : decode b_SV_startOver 0 = .ok (.aload_n 0, 1) := by decide +kernel
theorem d_SV_startOver_1 : decode b_SV_startOver 1 = .ok (.getfield 12, 3) := by decide +kernel
theorem d_SV_startOver_4 : decode b_SV_startOver 4 = .ok (.invokevirtual 48, 3) := by decide +kernel
theorem d_SV_startOver_7 : decode b_SV_startOver 7 = .ok (.aload_n 0, 1) := by decide +kernel
theorem d_SV_startOver_8 : decode b_SV_startOver 8 = .ok (.getfield 18, 3) := by decide +kernel
theorem d_SV_startOver_11 : decode b_SV_startOver 11 = .ok (.iconst (-1), 1) := by decide +kernel
theorem d_SV_startOver_12 : decode b_SV_startOver 12 = .ok (.invokestatic 22, 3) := by decide +kernel
theorem d_SV_startOver_15 : decode b_SV_startOver 15 = .ok (.aload_n 0, 1) := by decide +kernel
theorem d_SV_startOver_16 : decode b_SV_startOver 16 = .ok (.iconst 0, 1) := by decide +kernel
theorem d_SV_startOver_17 : decode b_SV_startOver 17 = .ok (.putfield 38, 3) := by decide +kernel
theorem d_SV_startOver_20 : decode b_SV_startOver 20 = .ok (.aload_n 0, 1) := by decide +kernel
theorem d_SV_startOver_21 : decode b_SV_startOver 21 = .ok (.iconst 0, 1) := by decide +kernel
theorem d_SV_startOver_22 : decode b_SV_startOver 22 = .ok (.putfield 45, 3) := by decide +kernel
theorem d_SV_startOver_25 : decode b_SV_startOver 25 = .ok (.return_, 1) := by decide +kernel
theorem d_SV_goThrough_0 : decode b_SV_goThrough 0 = .ok (.aload_n 1, 1) := by decide +kernel
theorem d_SV_goThrough_1 : decode b_SV_goThrough 1 = .ok (.getfield 28, 3) := by decide +kernel
theorem d_SV_goThrough_4 : decode b_SV_goThrough 4 = .ok (.ifCond .eq 33, 3) := by decide +kernel
theorem d_SV_goThrough_37 : decode b_SV_goThrough 37 = .ok (.aload_n 0, 1) := by decide +kernel
theorem d_SV_goThrough_38 : decode b_SV_goThrough 38 = .ok (.dup, 1) := by decide +kernel
theorem d_SV_goThrough_39 : decode b_SV_goThrough 39 = .ok (.getfield 38, 3) := by decide +kernel
theorem d_SV_goThrough_42 : decode b_SV_goThrough 42 = .ok (.iconst 1, 1) := by decide +kernel
theorem d_SV_goThrough_43 : decode b_SV_goThrough 43 = .ok (.iadd, 1) := by decide +kernel
theorem d_SV_goThrough_44 : decode b_SV_goThrough 44 = .ok (.putfield 38, 3) := by decide +kernel
theorem d_SV_goThrough_47 : decode b_SV_goThrough 47 = .ok (.return_, 1) := by decide +kernel
theorem d_SV_goThrough_7 : decode b_SV_goThrough 7 = .ok (.aload_n 1, 1) := by decide +kernel
theorem d_SV_goThrough_8 : decode b_SV_goThrough 8 = .ok (.aload_n 0, 1) := by decide +kernel
theorem d_SV_goThrough_9 : decode b_SV_goThrough 9 = .ok (.getfield 12, 3) := by decide +kernel
theorem d_SV_goThrough_12 : decode b_SV_goThrough 12 = .ok (.invokevirtual 34, 3) := by decide +kernel
theorem d_SV_goThrough_15 : decode b_SV_goThrough 15 = .ok (.aload_n 1, 1) := by decide +kernel
theorem d_SV_goThrough_16 : decode b_SV_goThrough 16 = .ok (.aload_n 0, 1) := by decide +kernel
theorem d_SV_goThrough_17 : decode b_SV_goThrough 17 = .ok (.getfield 18, 3) := by decide +kernel
theorem d_SV_goThrough_20 : decode b_SV_goThrough 20 = .ok (.aload_n 0, 1) := by decide +kernel
theorem d_SV_goThrough_21 : decode b_SV_goThrough 21 = .ok (.getfield 38, 3) := by decide +kernel
theorem d_SV_goThrough_24 : decode b_SV_goThrough 24 = .ok (.invokevirtual 42, 3) := by decide +kernel
theorem d_SV_goThrough_27 : decode b_SV_goThrough 27 = .ok (.aload_n 0, 1) := by decide +kernel
theorem d_SV_goThrough_28 : decode b_SV_goThrough 28 = .ok (.dup, 1) := by decide +kernel
theorem d_SV_goThrough_29 : decode b_SV_goThrough 29 = .ok (.getfield 45, 3) := by decide +kernel
theorem d_SV_goThrough_32 : decode b_SV_goThrough 32 = .ok (.iconst 1, 1) := by decide +kernel
theorem d_SV_goThrough_33 : decode b_SV_goThrough 33 = .ok (.iadd, 1) := by decide +kernel
theorem d_SV_goThrough_34 : decode b_SV_goThrough 34 = .ok (.putfield 45, 3) := by decide +kernel
set_option maxHeartbeats 4000000 in
set_option maxRecDepth 100000 in
theorem c_IN_init {l : Launch} {b : Nat} {dC : Nat → ClassId} {dI : Nat → Nat → Nat} {dA : Nat → ClassId} {zs : Nat → Nat} {w : mh_w} {k i a sv sn lv : Nat} (h : w k i = some (a, .inr (2, [.int (nI 0), .int (nI 0), .int (nI 0), .null, .null, .null, .null, .null, .null, .int (nI 0), .int (nI 0), .int (nI 0)]))) : mh_Met l b dC dI dA zs y_IN_init (mh_rm 2 7 45) [.ref a, .int (nI sv), .int (nI sn), .int (nI lv)] w (mh_V none (fun w' => rI dA w' k i a (st_new sv sn lv) ∧ mh_F w w' k 8 i)) := by
  refine mh_ofW (cc := b_IN_init) (n := 4) (ret := none) (hs := []) (by decide) k234 ?_
  intro p e s m below meth c hx hb hr hml hown hts hlocks hnm hT hOK hadm
  have K0 : mh_K0 p s m ([.ref a, .int (nI sv), .int (nI sn), .int (nI lv)]).toArray c "MeldHost$Intention" b_IN_init dC dI dA := ⟨hx, hb, hown, hts, hOK.1, hOK.2.1⟩
  have hX := hOK.2.2.2.2
  have hb0 := hOK.2.2.2.1
  have hS : va_S (mh_A b) s.heap s.heap [] := va_S.rf
  have hl := lv_entry ([.ref a, .int (nI sv), .int (nI sn), .int (nI lv)]) (n := 4) (Nat.le_of_ble_eq_true rfl)
  rw [lg_entry_eq]
  generalize (lg_sl ([.ref a, .int (nI sv), .int (nI sn), .int (nI lv)]) ++ List.replicate (4 - (lg_sl ([.ref a, .int (nI sv), .int (nI sn), .int (nI lv)])).length) Slot.unset).toArray = ls at hl ⊢
  have hl : lv_has ls 4 [(0, .ref a), (1, .int (nI sv)), (2, .int (nI sn)), (3, .int (nI lv))] := hl
  refine lv_aload_n hx hb d_IN_init_0 rfl (lv_at hl 0 rfl) ?_
  refine W.objInit hx hb hown (hts _ k235) (hts _ k31) (hts _ k32) rfl (by rw [hml]; exact hl.1) rfl d_IN_init_1 (Nat.le_of_ble_eq_true rfl) (Nat.le_of_ble_eq_true rfl) ?_
  refine W.eq (g2 := F0 m 4 ls []) rfl ?_
  refine lv_aload_n hx hb d_IN_init_4 rfl (lv_at hl 0 rfl) ?_
  refine mh_new (k + 1) i K0 hX hS hb0 (ci := 0) rfl i_KS ty_KS ty_KS_ok k236 k73 k7 (fs := [.null]) (by decide) (Nat.le_of_ble_eq_true rfl) (Nat.le_of_ble_eq_true rfl) d_IN_init_5 (fun q1 H hX hS => ?_)
  have fs14 := mh_self hX
  refine lv_dup hx hb d_IN_init_8 rfl ?_
  refine mh_callV (mh_sI (rest := [.ref q1, .ref a]) (av := []) K0 e_KS_init l_IN_11 k75 rfl rfl rfl d_IN_init_9) (c_KS_init (mh_set_eq _ _ _ _)) K0 hOK hml hl.1 e_KS_init hX hS d_IN_init_9 (Nat.le_of_ble_eq_true rfl) (Nat.le_of_ble_eq_true rfl) (Nat.le_of_ble_eq_true rfl) (Nat.le_of_ble_eq_true rfl) (Nat.le_of_ble_eq_true rfl) (fun w1 H locs ⟨hK, hF⟩ hX hS => ?_)
  refine W.eq (g2 := F0 m 12 ls [.ref q1, .ref a]) rfl ?_
  refine mh_putF K0 hX hS ((hF k i (by omega)).trans (mh_kp h (by omega))) f_IN_12 p_2_3 hnm (fun C T N h => by cases h; rfl) rfl rfl (Nat.le_of_ble_eq_true rfl) d_IN_init_12 (fun C T N h => by cases h; exact k243) (fun H locs hX hS => ?_)
  have hX : mh_P (dC, dI) b (mh_set _ k i (some (a, .inr (2, [.int (nI 0), .int (nI 0), .int (nI 0), .ref q1, .null, .null, .null, .null, .null, .int (nI 0), .int (nI 0), .int (nI 0)])))) H := hX
  have fs15 := mh_self hX
  refine lv_aload_n hx hb d_IN_init_15 rfl (lv_at hl 0 rfl) ?_
  refine lv_bipush (v := nI 8) hx hb d_IN_init_16 (by decide) ?_
  refine mh_newa (k + 3) i 0 K0 hX hS hb0 (ty := .int) rfl rfl k112 (N' := 8) (a0 := (8, .inl (fun _ => 0))) (fun cA => rfl) (by decide) (by decide) (by decide) (Nat.le_of_ble_eq_true rfl) (Nat.le_of_ble_eq_true rfl) d_IN_init_18 (fun q3 H hX hS => ?_)
  have fs16 := mh_self hX
  refine mh_putF K0 hX hS (mh_kp fs15 (by omega)) f_IN_18 p_2_4 hnm (fun C T N h => by cases h; rfl) rfl rfl (Nat.le_of_ble_eq_true rfl) d_IN_init_20 (fun C T N h => by cases h; exact k244) (fun H locs hX hS => ?_)
  have hX : mh_P (dC, dI) b (mh_set _ k i (some (a, .inr (2, [.int (nI 0), .int (nI 0), .int (nI 0), .ref q1, .ref q3, .null, .null, .null, .null, .int (nI 0), .int (nI 0), .int (nI 0)])))) H := hX
  have fs17 := mh_self hX
  refine lv_aload_n hx hb d_IN_init_23 rfl (lv_at hl 0 rfl) ?_
  refine lv_bipush (v := nI 8) hx hb d_IN_init_24 (by decide) ?_
  refine mh_newa (k + 4) i 0 K0 hX hS hb0 (ty := .int) rfl rfl k112 (N' := 8) (a0 := (8, .inl (fun _ => 0))) (fun cA => rfl) (by decide) (by decide) (by decide) (Nat.le_of_ble_eq_true rfl) (Nat.le_of_ble_eq_true rfl) d_IN_init_26 (fun q4 H hX hS => ?_)
  have fs18 := mh_self hX
  refine mh_putF K0 hX hS (mh_kp fs17 (by omega)) f_IN_22 p_2_5 hnm (fun C T N h => by cases h; rfl) rfl rfl (Nat.le_of_ble_eq_true rfl) d_IN_init_28 (fun C T N h => by cases h; exact k245) (fun H locs hX hS => ?_)
  have hX : mh_P (dC, dI) b (mh_set _ k i (some (a, .inr (2, [.int (nI 0), .int (nI 0), .int (nI 0), .ref q1, .ref q3, .ref q4, .null, .null, .null, .int (nI 0), .int (nI 0), .int (nI 0)])))) H := hX
  have fs19 := mh_self hX
  refine lv_aload_n hx hb d_IN_init_31 rfl (lv_at hl 0 rfl) ?_
  refine lv_bipush (v := nI 8) hx hb d_IN_init_32 (by decide) ?_
  refine mh_newa (k + 5) i 0 K0 hX hS hb0 (ty := .int) rfl rfl k112 (N' := 8) (a0 := (8, .inl (fun _ => 0))) (fun cA => rfl) (by decide) (by decide) (by decide) (Nat.le_of_ble_eq_true rfl) (Nat.le_of_ble_eq_true rfl) d_IN_init_34 (fun q5 H hX hS => ?_)
  have fs20 := mh_self hX
  refine mh_putF K0 hX hS (mh_kp fs19 (by omega)) f_IN_25 p_2_6 hnm (fun C T N h => by cases h; rfl) rfl rfl (Nat.le_of_ble_eq_true rfl) d_IN_init_36 (fun C T N h => by cases h; exact k246) (fun H locs hX hS => ?_)
  have hX : mh_P (dC, dI) b (mh_set _ k i (some (a, .inr (2, [.int (nI 0), .int (nI 0), .int (nI 0), .ref q1, .ref q3, .ref q4, .ref q5, .null, .null, .int (nI 0), .int (nI 0), .int (nI 0)])))) H := hX
  have fs21 := mh_self hX
  refine lv_aload_n hx hb d_IN_init_39 rfl (lv_at hl 0 rfl) ?_
  refine lv_bipush (v := nI 8) hx hb d_IN_init_40 (by decide) ?_
  refine mh_newa (k + 6) i 2 K0 hX hS hb0 (ty := .boolean) rfl rfl k280 (N' := 8) (a0 := (8, .inl (fun _ => 0))) (fun cA => rfl) (by decide) (by decide) (by decide) (Nat.le_of_ble_eq_true rfl) (Nat.le_of_ble_eq_true rfl) d_IN_init_42 (fun q6 H hX hS => ?_)
  have fs22 := mh_self hX
  refine mh_putF K0 hX hS (mh_kp fs21 (by omega)) f_IN_28 p_2_7 hnm (fun C T N h => by cases h; rfl) rfl rfl (Nat.le_of_ble_eq_true rfl) d_IN_init_44 (fun C T N h => by cases h; exact k247) (fun H locs hX hS => ?_)
  have hX : mh_P (dC, dI) b (mh_set _ k i (some (a, .inr (2, [.int (nI 0), .int (nI 0), .int (nI 0), .ref q1, .ref q3, .ref q4, .ref q5, .ref q6, .null, .int (nI 0), .int (nI 0), .int (nI 0)])))) H := hX
  have fs23 := mh_self hX
  refine lv_aload_n hx hb d_IN_init_47 rfl (lv_at hl 0 rfl) ?_
  refine lv_bipush (v := nI 8) hx hb d_IN_init_48 (by decide) ?_
  refine mh_newa (k + 7) i 1 K0 hX hS hb0 (ty := .long) rfl rfl k82 (N' := 8) (a0 := (8, .inr (.inl (fun _ => 0)))) (fun cA => rfl) (by decide) (by decide) (by decide) (Nat.le_of_ble_eq_true rfl) (Nat.le_of_ble_eq_true rfl) d_IN_init_50 (fun q7 H hX hS => ?_)
  have fs24 := mh_self hX
  refine mh_putF K0 hX hS (mh_kp fs23 (by omega)) f_IN_32 p_2_8 hnm (fun C T N h => by cases h; rfl) rfl rfl (Nat.le_of_ble_eq_true rfl) d_IN_init_52 (fun C T N h => by cases h; exact k248) (fun H locs hX hS => ?_)
  have hX : mh_P (dC, dI) b (mh_set _ k i (some (a, .inr (2, [.int (nI 0), .int (nI 0), .int (nI 0), .ref q1, .ref q3, .ref q4, .ref q5, .ref q6, .ref q7, .int (nI 0), .int (nI 0), .int (nI 0)])))) H := hX
  have fs25 := mh_self hX
  refine lv_aload_n hx hb d_IN_init_55 rfl (lv_at hl 0 rfl) ?_
  refine lv_iload_n hx hb d_IN_init_56 rfl (lv_at hl 1 rfl) ?_
  refine mh_putF K0 hX hS fs25 f_IN_36 p_2_0 hnm (fun C T N h => by cases h; rfl) rfl rfl (Nat.le_of_ble_eq_true rfl) d_IN_init_57 (fun C T N h => by cases h; exact k238) (fun H locs hX hS => ?_)
  have hX : mh_P (dC, dI) b (mh_set _ k i (some (a, .inr (2, [.int (nI sv), .int (nI 0), .int (nI 0), .ref q1, .ref q3, .ref q4, .ref q5, .ref q6, .ref q7, .int (nI 0), .int (nI 0), .int (nI 0)])))) H := hX
  have fs26 := mh_self hX
  refine lv_aload_n hx hb d_IN_init_60 rfl (lv_at hl 0 rfl) ?_
  refine lv_iload_n hx hb d_IN_init_61 rfl (lv_at hl 2 rfl) ?_
  refine mh_putF K0 hX hS fs26 f_IN_40 p_2_1 hnm (fun C T N h => by cases h; rfl) rfl rfl (Nat.le_of_ble_eq_true rfl) d_IN_init_62 (fun C T N h => by cases h; exact k240) (fun H locs hX hS => ?_)
  have hX : mh_P (dC, dI) b (mh_set _ k i (some (a, .inr (2, [.int (nI sv), .int (nI sn), .int (nI 0), .ref q1, .ref q3, .ref q4, .ref q5, .ref q6, .ref q7, .int (nI 0), .int (nI 0), .int (nI 0)])))) H := hX
  have fs27 := mh_self hX
  refine lv_aload_n hx hb d_IN_init_65 rfl (lv_at hl 0 rfl) ?_
  refine lv_iload_n hx hb d_IN_init_66 rfl (lv_at hl 3 rfl) ?_
  refine mh_putF K0 hX hS fs27 f_IN_43 p_2_2 hnm (fun C T N h => by cases h; rfl) rfl rfl (Nat.le_of_ble_eq_true rfl) d_IN_init_67 (fun C T N h => by cases h; exact k242) (fun H locs hX hS => ?_)
  have hX : mh_P (dC, dI) b (mh_set _ k i (some (a, .inr (2, [.int (nI sv), .int (nI sn), .int (nI lv), .ref q1, .ref q3, .ref q4, .ref q5, .ref q6, .ref q7, .int (nI 0), .int (nI 0), .int (nI 0)])))) H := hX
  have fs28 := mh_self hX
  exact mh_vret K0 hr hlocks hX hS (⟨rfl, ⟨q1, q3, q4, q5, q6, q7, _, _, _, _, _, fs28, hK.to (fun z hz => by repeat rw [mh_set_ne _ _ _ _ (by omega)]) (fun j _ => rfl), (mh_kp (mh_kp (mh_kp (mh_kp (mh_kp (mh_kp (mh_kp (mh_kp (mh_kp (mh_kp (mh_kp (mh_kp fs16 (by omega)) (by omega)) (by omega)) (by omega)) (by omega)) (by omega)) (by omega)) (by omega)) (by omega)) (by omega)) (by omega)) (by omega)), (mh_kp (mh_kp (mh_kp (mh_kp (mh_kp (mh_kp (mh_kp (mh_kp (mh_kp (mh_kp fs18 (by omega)) (by omega)) (by omega)) (by omega)) (by omega)) (by omega)) (by omega)) (by omega)) (by omega)) (by omega)), (mh_kp (mh_kp (mh_kp (mh_kp (mh_kp (mh_kp (mh_kp (mh_kp fs20 (by omega)) (by omega)) (by omega)) (by omega)) (by omega)) (by omega)) (by omega)) (by omega)), (mh_kp (mh_kp (mh_kp (mh_kp (mh_kp (mh_kp fs22 (by omega)) (by omega)) (by omega)) (by omega)) (by omega)) (by omega)), (mh_kp (mh_kp (mh_kp (mh_kp fs24 (by omega)) (by omega)) (by omega)) (by omega)), fun j hj => absurd hj (Nat.not_lt_zero j), fun j hj => absurd hj (Nat.not_lt_zero j)⟩, (((((((((((((((mh_F.tr (k := k) (n := 8) (k1 := k) (n1 := 8) (mh_F.rf.set (by omega) (by omega)) hF (by omega) (by omega) (by omega) (by omega)).set (by omega) (by omega)).set (by omega) (by omega)).set (by omega) (by omega)).set (by omega) (by omega)).set (by omega) (by omega)).set (by omega) (by omega)).set (by omega) (by omega)).set (by omega) (by omega)).set (by omega) (by omega)).set (by omega) (by omega)).set (by omega) (by omega)).set (by omega) (by omega)).set (by omega) (by omega)).set (by omega) (by omega))⟩) (Nat.le_of_ble_eq_true rfl) (Nat.le_of_ble_eq_true rfl) d_IN_init_70
set_option maxHeartbeats 4000000 in
set_option maxRecDepth 100000 in
theorem c_IN_placeOf {l : Launch} {b : Nat} {dC : Nat → ClassId} {dI : Nat → Nat → Nat} {dA : Nat → ClassId} {zs : Nat → Nat} {w : mh_w} {k i a m0 : Nat} {x : st_I} (h : rI dA w k i a x) (ho : iv_ok m0 x) {key : Nat} (hk : key < 256) : mh_Met l b dC dI dA zs y_IN_placeOf (mh_rm 0 0 0) [.ref a, .int (nI key)] w (mh_V (some (.int (nI (st_pl (iv_wk x) key (iv_nw x))))) (fun w' => w' = w)) := by
  have hI := h
  obtain ⟨a1, a3, a4, a5, a6, a7, lo, hi, wk, hn, nn, i0, hK, i3, i4, i5, i6, i7, hlo, hwk⟩ := h
  have hK2 := hK
  obtain ⟨kb1, kfb, hk0, hk1, hkf⟩ := hK2
  obtain ⟨o1, o2, o3, o4, o5, o6, o7, o8⟩ := ho
  refine mh_ofW (cc := b_IN_placeOf) (n := 3) (ret := (some .int)) (hs := []) (by decide) k317 ?_
  intro p e s m below meth c hx hb hr hml hown hts hlocks hnm hT hOK hadm
  have K0 : mh_K0 p s m ([.ref a, .int (nI key)]).toArray c "MeldHost$Intention" b_IN_placeOf dC dI dA := ⟨hx, hb, hown, hts, hOK.1, hOK.2.1⟩
  have hX := hOK.2.2.2.2
  have hb0 := hOK.2.2.2.1
  have hS : va_S (mh_A b) s.heap s.heap [] := va_S.rf
  have hl := lv_entry ([.ref a, .int (nI key)]) (n := 3) (Nat.le_of_ble_eq_true rfl)
  rw [lg_entry_eq]
  generalize (lg_sl ([.ref a, .int (nI key)]) ++ List.replicate (3 - (lg_sl ([.ref a, .int (nI key)])).length) Slot.unset).toArray = ls at hl ⊢
  have hl : lv_has ls 3 [(0, .ref a), (1, .int (nI key))] := hl
  refine lv_iconst (v := nI 0) hx hb d_IN_placeOf_0 (by decide) ?_
  refine lv_istore_n (lv' := [(2, .int (nI 0)), (0, .ref a), (1, .int (nI key))]) hx hb d_IN_placeOf_1 rfl hl (by decide) rfl (fun ls hl => ?_)
  have LP : ∀ (n : Nat) (j : Nat) (H : Heap) (locs : List Loc) (ls : Array Slot), mh_P (dC, dI) b w H → va_S (mh_A b) s.heap H locs → lv_has ls 3 [(2, .int (nI j)), (0, .ref a), (1, .int (nI key))] → (j + n = iv_nw x) → (∀ z, z < j → iv_wk x z ≠ key) → W p l e (mh_rm 0 0 0) s m ([.ref a, .int (nI key)]).toArray below meth c H locs (0) (0) (mh_MQ below b dC dI (mh_V (some (.int (nI (st_pl (iv_wk x) key (iv_nw x))))) (fun w' => w' = w)) ([.ref a, .int (nI key)]).toArray s 0 0) (F0 m 2 ls []) := by
    intro n
    induction n with
    | zero =>
      intro j H locs ls hX hS hl hn9 hj
      refine lv_iload_n hx hb d_IN_placeOf_2 rfl (lv_at hl 0 rfl) ?_
      refine lv_aload_n hx hb d_IN_placeOf_3 rfl (lv_at hl 1 rfl) ?_
      refine mh_get K0 hX i0 f_IN_61 rfl d_IN_placeOf_4 ?_
      refine mh_icmp_ge (tgt := 28) hx hb (by omega) (by omega) d_IN_placeOf_7 (by decide) (fun _ => ?_) (fun z => absurd z (by omega))
      refine lv_aload_n hx hb d_IN_placeOf_28 rfl (lv_at hl 1 rfl) ?_
      refine mh_get K0 hX i0 f_IN_61 rfl d_IN_placeOf_29 ?_
      exact mh_iret K0 hr rfl hlocks hX hS (⟨by rw [st_pl_uniq (i := iv_nw x) (Nat.le_refl _) (fun z hz => hj z (by omega)) (fun q => absurd q (Nat.lt_irrefl _))], rfl⟩) (Nat.le_of_ble_eq_true rfl) (Nat.le_of_ble_eq_true rfl) d_IN_placeOf_32
    | succ n ih =>
      intro j H locs ls hX hS hl hn9 hj
      refine lv_iload_n hx hb d_IN_placeOf_2 rfl (lv_at hl 0 rfl) ?_
      refine lv_aload_n hx hb d_IN_placeOf_3 rfl (lv_at hl 1 rfl) ?_
      refine mh_get K0 hX i0 f_IN_61 rfl d_IN_placeOf_4 ?_
      refine mh_icmp_ge (tgt := 28) hx hb (by omega) (by omega) d_IN_placeOf_7 (by decide) (fun z => absurd z (by omega)) (fun _ => ?_)
      refine lv_aload_n hx hb d_IN_placeOf_10 rfl (lv_at hl 1 rfl) ?_
      refine mh_get K0 hX i0 f_IN_25 rfl d_IN_placeOf_11 ?_
      refine lv_iload_n hx hb d_IN_placeOf_14 rfl (lv_at hl 0 rfl) ?_
      refine mh_ialdN K0 hX i5 (by omega) (by omega) d_IN_placeOf_15 ?_
      refine mh_ti (y := nI (iv_wk x j)) ((hwk j (by omega)).1) ?_
      have b7 := o7 j (by omega)
      refine lv_iload_n hx hb d_IN_placeOf_16 rfl (lv_at hl 2 rfl) ?_
      refine mh_icmp_ne (tgt := 22) hx hb (by omega) (by omega) d_IN_placeOf_17 (by decide) (fun ct => ?_) (fun cf => ?_)
      · skip
        refine lv_iinc (v := nI (j + 1)) (k := 0) (lv' := [(2, .int (nI (j + 1))), (0, .ref a), (1, .int (nI key))]) hx hb d_IN_placeOf_22 hl rfl (mh_inc j) (by decide) rfl (fun ls hl => ?_)
        refine lv_goto (tgt := 2) hx hb d_IN_placeOf_25 (by decide) ?_
        exact ih (j + 1) _ _ _ hX hS hl (by omega) (fun z hz => if e : z = j then (by rw [e]; exact ct) else hj z (by omega))
      · skip
        refine lv_iload_n hx hb d_IN_placeOf_20 rfl (lv_at hl 0 rfl) ?_
        exact mh_iret K0 hr rfl hlocks hX hS (⟨by rw [st_pl_uniq (i := j) (by omega) hj (fun _ => cf)], rfl⟩) (Nat.le_of_ble_eq_true rfl) (Nat.le_of_ble_eq_true rfl) d_IN_placeOf_21
  exact LP (iv_nw x) 0 _ _ _ hX hS hl (Nat.zero_add _) (fun z hz => absurd hz (Nat.not_lt_zero z))
set_option maxHeartbeats 4000000 in
set_option maxRecDepth 100000 in
theorem c_IN_hasRoomFor {l : Launch} {b : Nat} {dC : Nat → ClassId} {dI : Nat → Nat → Nat} {dA : Nat → ClassId} {zs : Nat → Nat} {w : mh_w} {k i a m0 : Nat} {x : st_I} (h : rI dA w k i a x) (ho : iv_ok m0 x) {key : Nat} (hk : key < 256) : mh_Met l b dC dI dA zs y_IN_hasRoomFor (mh_rm 1 0 0) [.ref a, .int (nI key)] w (mh_V (some (.int (mh_b (decide (st_pl (iv_wk x) key (iv_nw x) < 8))))) (fun w' => w' = w)) := by
  have ho_ := ho
  have hI := h
  obtain ⟨a1, a3, a4, a5, a6, a7, lo, hi, wk, hn, nn, i0, hK, i3, i4, i5, i6, i7, hlo, hwk⟩ := h
  have hK2 := hK
  obtain ⟨kb1, kfb, hk0, hk1, hkf⟩ := hK2
  obtain ⟨o1, o2, o3, o4, o5, o6, o7, o8⟩ := ho
  have hple := st_pl_le (iv_wk x) key (iv_nw x)
  refine mh_ofW (cc := b_IN_hasRoomFor) (n := 2) (ret := (some .boolean)) (hs := []) (by decide) k359 ?_
  intro p e s m below meth c hx hb hr hml hown hts hlocks hnm hT hOK hadm
  have K0 : mh_K0 p s m ([.ref a, .int (nI key)]).toArray c "MeldHost$Intention" b_IN_hasRoomFor dC dI dA := ⟨hx, hb, hown, hts, hOK.1, hOK.2.1⟩
  have hX := hOK.2.2.2.2
  have hb0 := hOK.2.2.2.1
  have hS : va_S (mh_A b) s.heap s.heap [] := va_S.rf
  have hl := lv_entry ([.ref a, .int (nI key)]) (n := 2) (Nat.le_of_ble_eq_true rfl)
  rw [lg_entry_eq]
  generalize (lg_sl ([.ref a, .int (nI key)]) ++ List.replicate (2 - (lg_sl ([.ref a, .int (nI key)])).length) Slot.unset).toArray = ls at hl ⊢
  have hl : lv_has ls 2 [(0, .ref a), (1, .int (nI key))] := hl
  refine lv_aload_n hx hb d_IN_hasRoomFor_0 rfl (lv_at hl 0 rfl) ?_
  refine lv_iload_n hx hb d_IN_hasRoomFor_1 rfl (lv_at hl 1 rfl) ?_
  refine mh_callR (mh_sV (rest := []) (av := [.int (nI key)]) K0 hX i0 rfl e_IN_placeOf l_IN_57 k316 kp3 rfl rfl d_IN_hasRoomFor_2) (c_IN_placeOf hI ho_ hk) K0 hOK hml hl.1 e_IN_placeOf hX hS d_IN_hasRoomFor_2 (Nat.le_of_ble_eq_true rfl) (Nat.le_of_ble_eq_true rfl) (Nat.le_of_ble_eq_true rfl) (Nat.le_of_ble_eq_true rfl) (Nat.le_of_ble_eq_true rfl) (fun H locs hX hS => ?_)
  refine W.eq (g2 := F0 m 5 ls [.int (nI (st_pl (iv_wk x) key (iv_nw x)))]) rfl ?_
  refine lv_bipush (v := nI 8) hx hb d_IN_hasRoomFor_5 (by decide) ?_
  refine mh_icmp_ge (tgt := 14) hx hb (by omega) (by omega) d_IN_hasRoomFor_7 (by decide) (fun ct => ?_) (fun cf => ?_)
  · skip
    refine lv_iconst (v := nI 0) hx hb d_IN_hasRoomFor_14 (by decide) ?_
    exact mh_iret K0 hr (by decide) hlocks hX hS (⟨by rw [decide_eq_false (by omega)]; rfl, rfl⟩) (Nat.le_of_ble_eq_true rfl) (Nat.le_of_ble_eq_true rfl) d_IN_hasRoomFor_15
  · skip
    refine lv_iconst (v := nI 1) hx hb d_IN_hasRoomFor_10 (by decide) ?_
    refine lv_goto (tgt := 15) hx hb d_IN_hasRoomFor_11 (by decide) ?_
    exact mh_iret K0 hr (by decide) hlocks hX hS (⟨by rw [decide_eq_true (by omega)]; rfl, rfl⟩) (Nat.le_of_ble_eq_true rfl) (Nat.le_of_ble_eq_true rfl) d_IN_hasRoomFor_15
set_option maxHeartbeats 4000000 in
set_option maxRecDepth 100000 in
theorem c_IN_hasWritten {l : Launch} {b : Nat} {dC : Nat → ClassId} {dI : Nat → Nat → Nat} {dA : Nat → ClassId} {zs : Nat → Nat} {w : mh_w} {k i a m0 : Nat} {x : st_I} (h : rI dA w k i a x) (ho : iv_ok m0 x) {key : Nat} (hk : key < 256) : mh_Met l b dC dI dA zs y_IN_hasWritten (mh_rm 1 0 0) [.ref a, .int (nI key)] w (mh_V (some (.int (mh_b (decide (st_pl (iv_wk x) key (iv_nw x) < iv_nw x))))) (fun w' => w' = w)) := by
  have ho_ := ho
  have hI := h
  obtain ⟨a1, a3, a4, a5, a6, a7, lo, hi, wk, hn, nn, i0, hK, i3, i4, i5, i6, i7, hlo, hwk⟩ := h
  have hK2 := hK
  obtain ⟨kb1, kfb, hk0, hk1, hkf⟩ := hK2
  obtain ⟨o1, o2, o3, o4, o5, o6, o7, o8⟩ := ho
  have hple := st_pl_le (iv_wk x) key (iv_nw x)
  refine mh_ofW (cc := b_IN_hasWritten) (n := 2) (ret := (some .boolean)) (hs := []) (by decide) k313 ?_
  intro p e s m below meth c hx hb hr hml hown hts hlocks hnm hT hOK hadm
  have K0 : mh_K0 p s m ([.ref a, .int (nI key)]).toArray c "MeldHost$Intention" b_IN_hasWritten dC dI dA := ⟨hx, hb, hown, hts, hOK.1, hOK.2.1⟩
  have hX := hOK.2.2.2.2
  have hb0 := hOK.2.2.2.1
  have hS : va_S (mh_A b) s.heap s.heap [] := va_S.rf
  have hl := lv_entry ([.ref a, .int (nI key)]) (n := 2) (Nat.le_of_ble_eq_true rfl)
  rw [lg_entry_eq]
  generalize (lg_sl ([.ref a, .int (nI key)]) ++ List.replicate (2 - (lg_sl ([.ref a, .int (nI key)])).length) Slot.unset).toArray = ls at hl ⊢
  have hl : lv_has ls 2 [(0, .ref a), (1, .int (nI key))] := hl
  refine lv_aload_n hx hb d_IN_hasWritten_0 rfl (lv_at hl 0 rfl) ?_
  refine lv_iload_n hx hb d_IN_hasWritten_1 rfl (lv_at hl 1 rfl) ?_
  refine mh_callR (mh_sV (rest := []) (av := [.int (nI key)]) K0 hX i0 rfl e_IN_placeOf l_IN_57 k316 kp3 rfl rfl d_IN_hasWritten_2) (c_IN_placeOf hI ho_ hk) K0 hOK hml hl.1 e_IN_placeOf hX hS d_IN_hasWritten_2 (Nat.le_of_ble_eq_true rfl) (Nat.le_of_ble_eq_true rfl) (Nat.le_of_ble_eq_true rfl) (Nat.le_of_ble_eq_true rfl) (Nat.le_of_ble_eq_true rfl) (fun H locs hX hS => ?_)
  refine W.eq (g2 := F0 m 5 ls [.int (nI (st_pl (iv_wk x) key (iv_nw x)))]) rfl ?_
  refine lv_aload_n hx hb d_IN_hasWritten_5 rfl (lv_at hl 0 rfl) ?_
  refine mh_get K0 hX i0 f_IN_61 rfl d_IN_hasWritten_6 ?_
  refine mh_icmp_ge (tgt := 16) hx hb (by omega) (by omega) d_IN_hasWritten_9 (by decide) (fun ct => ?_) (fun cf => ?_)
  · skip
    refine lv_iconst (v := nI 0) hx hb d_IN_hasWritten_16 (by decide) ?_
    exact mh_iret K0 hr (by decide) hlocks hX hS (⟨by rw [decide_eq_false (by omega)]; rfl, rfl⟩) (Nat.le_of_ble_eq_true rfl) (Nat.le_of_ble_eq_true rfl) d_IN_hasWritten_17
  · skip
    refine lv_iconst (v := nI 1) hx hb d_IN_hasWritten_12 (by decide) ?_
    refine lv_goto (tgt := 17) hx hb d_IN_hasWritten_13 (by decide) ?_
    exact mh_iret K0 hr (by decide) hlocks hX hS (⟨by rw [decide_eq_true (by omega)]; rfl, rfl⟩) (Nat.le_of_ble_eq_true rfl) (Nat.le_of_ble_eq_true rfl) d_IN_hasWritten_17
set_option maxHeartbeats 4000000 in
set_option maxRecDepth 100000 in
theorem c_IN_hasRead {l : Launch} {b : Nat} {dC : Nat → ClassId} {dI : Nat → Nat → Nat} {dA : Nat → ClassId} {zs : Nat → Nat} {w : mh_w} {k i a m0 : Nat} {x : st_I} (h : rI dA w k i a x) (ho : iv_ok m0 x) {key : Nat} (hk : key < 256) : mh_Met l b dC dI dA zs y_IN_hasRead (mh_rm 1 0 0) [.ref a, .int (nI key)] w (mh_V (some (.int (mh_b (st_rd x key)))) (fun w' => w' = w)) := by
  have ho_ := ho
  have hI := h
  obtain ⟨a1, a3, a4, a5, a6, a7, lo, hi, wk, hn, nn, i0, hK, i3, i4, i5, i6, i7, hlo, hwk⟩ := h
  have hK2 := hK
  obtain ⟨kb1, kfb, hk0, hk1, hkf⟩ := hK2
  obtain ⟨o1, o2, o3, o4, o5, o6, o7, o8⟩ := ho
  refine mh_ofW (cc := b_IN_hasRead) (n := 3) (ret := (some .boolean)) (hs := []) (by decide) k477 ?_
  intro p e s m below meth c hx hb hr hml hown hts hlocks hnm hT hOK hadm
  have K0 : mh_K0 p s m ([.ref a, .int (nI key)]).toArray c "MeldHost$Intention" b_IN_hasRead dC dI dA := ⟨hx, hb, hown, hts, hOK.1, hOK.2.1⟩
  have hX := hOK.2.2.2.2
  have hb0 := hOK.2.2.2.1
  have hS : va_S (mh_A b) s.heap s.heap [] := va_S.rf
  have hl := lv_entry ([.ref a, .int (nI key)]) (n := 3) (Nat.le_of_ble_eq_true rfl)
  rw [lg_entry_eq]
  generalize (lg_sl ([.ref a, .int (nI key)]) ++ List.replicate (3 - (lg_sl ([.ref a, .int (nI key)])).length) Slot.unset).toArray = ls at hl ⊢
  have hl : lv_has ls 3 [(0, .ref a), (1, .int (nI key))] := hl
  refine lv_iconst (v := nI 0) hx hb d_IN_hasRead_0 (by decide) ?_
  refine lv_istore_n (lv' := [(2, .int (nI 0)), (0, .ref a), (1, .int (nI key))]) hx hb d_IN_hasRead_1 rfl hl (by decide) rfl (fun ls hl => ?_)
  have hfun : ∀ z, z < iv_np x → ((decide (iv_lo x z ≤ key) && decide (key ≤ iv_hi x z)) = true ↔ (iv_lo x z ≤ key ∧ key ≤ iv_hi x z)) := fun z _ => by simp
  have LP : ∀ (n : Nat) (j : Nat) (H : Heap) (locs : List Loc) (ls : Array Slot), mh_P (dC, dI) b w H → va_S (mh_A b) s.heap H locs → lv_has ls 3 [(2, .int (nI j)), (0, .ref a), (1, .int (nI key))] → (j + n = iv_np x) → (∀ z, z < j → (decide (iv_lo x z ≤ key) && decide (key ≤ iv_hi x z)) = false) → W p l e (mh_rm 1 0 0) s m ([.ref a, .int (nI key)]).toArray below meth c H locs (0) (0) (mh_MQ below b dC dI (mh_V (some (.int (mh_b (st_rd x key)))) (fun w' => w' = w)) ([.ref a, .int (nI key)]).toArray s 0 0) (F0 m 2 ls []) := by
    intro n
    induction n with
    | zero =>
      intro j H locs ls hX hS hl hn9 hj
      refine lv_iload_n hx hb d_IN_hasRead_2 rfl (lv_at hl 0 rfl) ?_
      refine lv_aload_n hx hb d_IN_hasRead_3 rfl (lv_at hl 1 rfl) ?_
      refine mh_get K0 hX i0 f_IN_54 rfl d_IN_hasRead_4 ?_
      refine mh_icmp_ge (tgt := 38) hx hb (by omega) (by omega) d_IN_hasRead_7 (by decide) (fun _ => ?_) (fun z => absurd z (by omega))
      refine lv_aload_n hx hb d_IN_hasRead_38 rfl (lv_at hl 1 rfl) ?_
      refine mh_get K0 hX i0 f_IN_12 rfl d_IN_hasRead_39 ?_
      refine lv_iload_n hx hb d_IN_hasRead_42 rfl (lv_at hl 2 rfl) ?_
      refine mh_callR (mh_sV (rest := []) (av := [.int (nI key)]) K0 hX hk0 rfl e_KS_has l_IN_70 k326 k327 rfl rfl d_IN_hasRead_43) (c_KS_has hK hk) K0 hOK hml hl.1 e_KS_has hX hS d_IN_hasRead_43 (Nat.le_of_ble_eq_true rfl) (Nat.le_of_ble_eq_true rfl) (Nat.le_of_ble_eq_true rfl) (Nat.le_of_ble_eq_true rfl) (Nat.le_of_ble_eq_true rfl) (fun H locs hX hS => ?_)
      refine W.eq (g2 := F0 m 46 ls [.int (mh_b (iv_rd x key))]) rfl ?_
      exact mh_iret K0 hr (mh_b_nar _) hlocks hX hS (⟨by unfold st_rd; rw [st_any_false (fun z hz => hj z (by omega))]; rfl, rfl⟩) (Nat.le_of_ble_eq_true rfl) (Nat.le_of_ble_eq_true rfl) d_IN_hasRead_46
    | succ n ih =>
      intro j H locs ls hX hS hl hn9 hj
      have b6 := o6 j (by omega)
      refine lv_iload_n hx hb d_IN_hasRead_2 rfl (lv_at hl 0 rfl) ?_
      refine lv_aload_n hx hb d_IN_hasRead_3 rfl (lv_at hl 1 rfl) ?_
      refine mh_get K0 hX i0 f_IN_54 rfl d_IN_hasRead_4 ?_
      refine mh_icmp_ge (tgt := 38) hx hb (by omega) (by omega) d_IN_hasRead_7 (by decide) (fun z => absurd z (by omega)) (fun _ => ?_)
      refine lv_aload_n hx hb d_IN_hasRead_10 rfl (lv_at hl 1 rfl) ?_
      refine mh_get K0 hX i0 f_IN_18 rfl d_IN_hasRead_11 ?_
      refine lv_iload_n hx hb d_IN_hasRead_14 rfl (lv_at hl 0 rfl) ?_
      refine mh_ialdN K0 hX i3 (by omega) (by omega) d_IN_hasRead_15 ?_
      refine mh_ti (y := nI (iv_lo x j)) ((hlo j (by omega)).1) ?_
      refine lv_iload_n hx hb d_IN_hasRead_16 rfl (lv_at hl 2 rfl) ?_
      refine mh_icmp_gt (tgt := 32) hx hb (by omega) (by omega) d_IN_hasRead_17 (by decide) (fun ct => ?_) (fun cf => ?_)
      · skip
        refine lv_iinc (v := nI (j + 1)) (k := 0) (lv' := [(2, .int (nI (j + 1))), (0, .ref a), (1, .int (nI key))]) hx hb d_IN_hasRead_32 hl rfl (mh_inc j) (by decide) rfl (fun ls hl => ?_)
        refine lv_goto (tgt := 2) hx hb d_IN_hasRead_35 (by decide) ?_
        exact ih (j + 1) _ _ _ hX hS hl (by omega) (fun z hz => if e : z = j then (by rw [e, decide_eq_false (by omega)]; rfl) else hj z (by omega))
      · skip
        refine lv_iload_n hx hb d_IN_hasRead_20 rfl (lv_at hl 2 rfl) ?_
        refine lv_aload_n hx hb d_IN_hasRead_21 rfl (lv_at hl 1 rfl) ?_
        refine mh_get K0 hX i0 f_IN_22 rfl d_IN_hasRead_22 ?_
        refine lv_iload_n hx hb d_IN_hasRead_25 rfl (lv_at hl 0 rfl) ?_
        refine mh_ialdN K0 hX i4 (by omega) (by omega) d_IN_hasRead_26 ?_
        refine mh_ti (y := nI (iv_hi x j)) ((hlo j (by omega)).2) ?_
        refine mh_icmp_gt (tgt := 32) hx hb (by omega) (by omega) d_IN_hasRead_27 (by decide) (fun ct2 => ?_) (fun cf2 => ?_)
        · skip
          refine lv_iinc (v := nI (j + 1)) (k := 0) (lv' := [(2, .int (nI (j + 1))), (0, .ref a), (1, .int (nI key))]) hx hb d_IN_hasRead_32 hl rfl (mh_inc j) (by decide) rfl (fun ls hl => ?_)
          refine lv_goto (tgt := 2) hx hb d_IN_hasRead_35 (by decide) ?_
          exact ih (j + 1) _ _ _ hX hS hl (by omega) (fun z hz => if e : z = j then (by rw [e, Bool.and_comm, decide_eq_false (by omega)]; rfl) else hj z (by omega))
        · skip
          refine lv_iconst (v := nI 1) hx hb d_IN_hasRead_30 (by decide) ?_
          exact mh_iret K0 hr (by decide) hlocks hX hS (⟨by unfold st_rd; rw [st_any_true (i := j) (by omega) ((hfun j (by omega)).mpr ⟨cf, cf2⟩)]; rfl, rfl⟩) (Nat.le_of_ble_eq_true rfl) (Nat.le_of_ble_eq_true rfl) d_IN_hasRead_31
  exact LP (iv_np x) 0 _ _ _ hX hS hl (Nat.zero_add _) (fun z hz => absurd hz (Nat.not_lt_zero z))
set_option maxHeartbeats 4000000 in
set_option maxRecDepth 100000 in
theorem c_IN_isHitBy {l : Launch} {b : Nat} {dC : Nat → ClassId} {dI : Nat → Nat → Nat} {dA : Nat → ClassId} {zs : Nat → Nat} {w : mh_w} {k i a m0 : Nat} {x : st_I} (h : rI dA w k i a x) (ho : iv_ok m0 x) {k2 i2 c0 m2 : Nat} {y : st_I} (h2 : rI dA w k2 i2 c0 y) (ho2 : iv_ok m2 y) : mh_Met l b dC dI dA zs y_IN_isHitBy (mh_rm 2 0 0) [.ref a, .ref c0] w (mh_V (some (.int (mh_b (st_ht x y)))) (fun w' => w' = w)) := by
  have ho_ := ho
  have hI := h
  obtain ⟨a1, a3, a4, a5, a6, a7, lo, hi, wk, hn, nn, i0, hK, i3, i4, i5, i6, i7, hlo, hwk⟩ := h
  have hK2 := hK
  obtain ⟨kb1, kfb, hk0, hk1, hkf⟩ := hK2
  obtain ⟨o1, o2, o3, o4, o5, o6, o7, o8⟩ := ho
  obtain ⟨c1, c3, c4, c5, c6, c7, lo2, hi2, wk2, hn2, nn2, j0, hK3, j3, j4, j5, j6, j7, hlo2, hwk2⟩ := h2
  obtain ⟨u1, u2, u3, u4, u5, u6, u7, u8⟩ := ho2
  refine mh_ofW (cc := b_IN_isHitBy) (n := 4) (ret := (some .boolean)) (hs := []) (by decide) k473 ?_
  intro p e s m below meth c hx hb hr hml hown hts hlocks hnm hT hOK hadm
  have K0 : mh_K0 p s m ([.ref a, .ref c0]).toArray c "MeldHost$Intention" b_IN_isHitBy dC dI dA := ⟨hx, hb, hown, hts, hOK.1, hOK.2.1⟩
  have hX := hOK.2.2.2.2
  have hb0 := hOK.2.2.2.1
  have hS : va_S (mh_A b) s.heap s.heap [] := va_S.rf
  have hl := lv_entry ([.ref a, .ref c0]) (n := 4) (Nat.le_of_ble_eq_true rfl)
  rw [lg_entry_eq]
  generalize (lg_sl ([.ref a, .ref c0]) ++ List.replicate (4 - (lg_sl ([.ref a, .ref c0])).length) Slot.unset).toArray = ls at hl ⊢
  have hl : lv_has ls 4 [(0, .ref a), (1, .ref c0)] := hl
  refine lv_iconst (v := nI 0) hx hb d_IN_isHitBy_0 (by decide) ?_
  refine lv_istore_n (lv' := [(2, .int (nI 0)), (0, .ref a), (1, .ref c0)]) hx hb d_IN_isHitBy_1 rfl hl (by decide) rfl (fun ls hl => ?_)
  have LP : ∀ (n : Nat) (j : Nat) (H : Heap) (locs : List Loc) (ls : Array Slot), mh_P (dC, dI) b w H → va_S (mh_A b) s.heap H locs → lv_has ls 4 [(2, .int (nI j)), (0, .ref a), (1, .ref c0)] → (j + n = iv_nw y) → (∀ z, z < j → (if iv_lv x = 0 then st_rd x (iv_wk y z) else decide (st_pl (iv_wk x) (iv_wk y z) (iv_nw x) < iv_nw x)) = false) → W p l e (mh_rm 2 0 0) s m ([.ref a, .ref c0]).toArray below meth c H locs (0) (0) (mh_MQ below b dC dI (mh_V (some (.int (mh_b (st_ht x y)))) (fun w' => w' = w)) ([.ref a, .ref c0]).toArray s 0 0) (F0 m 2 ls []) := by
    intro n
    induction n with
    | zero =>
      intro j H locs ls hX hS hl hn9 hj
      refine lv_iload_n hx hb d_IN_isHitBy_2 rfl (lv_at hl 0 rfl) ?_
      refine lv_aload_n hx hb d_IN_isHitBy_3 rfl (lv_at hl 2 rfl) ?_
      refine mh_get K0 hX j0 f_IN_61 rfl d_IN_isHitBy_4 ?_
      refine mh_icmp_ge (tgt := 51) hx hb (by omega) (by omega) d_IN_isHitBy_7 (by decide) (fun _ => ?_) (fun z => absurd z (by omega))
      refine lv_iconst (v := nI 0) hx hb d_IN_isHitBy_51 (by decide) ?_
      exact mh_iret K0 hr (by decide) hlocks hX hS (⟨by unfold st_ht; rw [st_any_false (fun z hz => hj z (by omega))]; rfl, rfl⟩) (Nat.le_of_ble_eq_true rfl) (Nat.le_of_ble_eq_true rfl) d_IN_isHitBy_52
    | succ n ih =>
      intro j H locs ls hX hS hl hn9 hj
      have b7 := u7 j (by omega)
      refine lv_iload_n hx hb d_IN_isHitBy_2 rfl (lv_at hl 0 rfl) ?_
      refine lv_aload_n hx hb d_IN_isHitBy_3 rfl (lv_at hl 2 rfl) ?_
      refine mh_get K0 hX j0 f_IN_61 rfl d_IN_isHitBy_4 ?_
      refine mh_icmp_ge (tgt := 51) hx hb (by omega) (by omega) d_IN_isHitBy_7 (by decide) (fun z => absurd z (by omega)) (fun _ => ?_)
      refine lv_aload_n hx hb d_IN_isHitBy_10 rfl (lv_at hl 2 rfl) ?_
      refine mh_get K0 hX j0 f_IN_25 rfl d_IN_isHitBy_11 ?_
      refine lv_iload_n hx hb d_IN_isHitBy_14 rfl (lv_at hl 0 rfl) ?_
      refine mh_ialdN K0 hX j5 (by omega) (by omega) d_IN_isHitBy_15 ?_
      refine mh_ti (y := nI (iv_wk y j)) ((hwk2 j (by omega)).1) ?_
      refine lv_istore_n (lv' := [(3, .int (nI (iv_wk y j))), (2, .int (nI j)), (0, .ref a), (1, .ref c0)]) hx hb d_IN_isHitBy_16 rfl hl (by decide) rfl (fun ls hl => ?_)
      refine lv_aload_n hx hb d_IN_isHitBy_17 rfl (lv_at hl 2 rfl) ?_
      refine mh_get K0 hX i0 f_IN_43 rfl d_IN_isHitBy_18 ?_
      refine mh_if_ne (tgt := 35) hx hb (by omega) d_IN_isHitBy_21 (by decide) (fun ct => ?_) (fun cf => ?_)
      · skip
        refine lv_aload_n hx hb d_IN_isHitBy_35 rfl (lv_at hl 2 rfl) ?_
        refine lv_iload_n hx hb d_IN_isHitBy_36 rfl (lv_at hl 0 rfl) ?_
        refine mh_callR (mh_sV (rest := []) (av := [.int (nI (iv_wk y j))]) K0 hX i0 rfl e_IN_hasWritten l_IN_46 k312 kp2 rfl rfl d_IN_isHitBy_37) (c_IN_hasWritten hI ho_ b7) K0 hOK hml hl.1 e_IN_hasWritten hX hS d_IN_isHitBy_37 (Nat.le_of_ble_eq_true rfl) (Nat.le_of_ble_eq_true rfl) (Nat.le_of_ble_eq_true rfl) (Nat.le_of_ble_eq_true rfl) (Nat.le_of_ble_eq_true rfl) (fun H locs hX hS => ?_)
        refine W.eq (g2 := F0 m 40 ls [.int (mh_b (decide (st_pl (iv_wk x) (iv_wk y j) (iv_nw x) < iv_nw x)))]) rfl ?_
        refine mh_ifeqB (tgt := 45) hx hb d_IN_isHitBy_40 (by decide) (fun c2 => ?_) (fun c2 => ?_)
        · skip
          refine lv_iinc (v := nI (j + 1)) (k := 1) (lv' := [(2, .int (nI (j + 1))), (3, .int (nI (iv_wk y j))), (0, .ref a), (1, .ref c0)]) hx hb d_IN_isHitBy_45 hl rfl (mh_inc j) (by decide) rfl (fun ls hl => ?_)
          refine lv_goto (tgt := 2) hx hb d_IN_isHitBy_48 (by decide) ?_
          exact ih (j + 1) _ _ _ hX hS (lv_sub hl [0, 2, 3] rfl) (by omega) (fun z hz => if e : z = j then (by rw [e, if_neg ct]; exact c2) else hj z (by omega))
        · skip
          refine lv_iconst (v := nI 1) hx hb d_IN_isHitBy_43 (by decide) ?_
          exact mh_iret K0 hr (by decide) hlocks hX hS (⟨by unfold st_ht; rw [st_any_true (i := j) (by omega) (by show (if _ then _ else _) = true; rw [if_neg ct]; exact c2)]; rfl, rfl⟩) (Nat.le_of_ble_eq_true rfl) (Nat.le_of_ble_eq_true rfl) d_IN_isHitBy_44
      · skip
        refine lv_aload_n hx hb d_IN_isHitBy_24 rfl (lv_at hl 2 rfl) ?_
        refine lv_iload_n hx hb d_IN_isHitBy_25 rfl (lv_at hl 0 rfl) ?_
        refine mh_callR (mh_sV (rest := []) (av := [.int (nI (iv_wk y j))]) K0 hX i0 rfl e_IN_hasRead l_IN_73 k476 kp9 rfl rfl d_IN_isHitBy_26) (c_IN_hasRead hI ho_ b7) K0 hOK hml hl.1 e_IN_hasRead hX hS d_IN_isHitBy_26 (Nat.le_of_ble_eq_true rfl) (Nat.le_of_ble_eq_true rfl) (Nat.le_of_ble_eq_true rfl) (Nat.le_of_ble_eq_true rfl) (Nat.le_of_ble_eq_true rfl) (fun H locs hX hS => ?_)
        refine W.eq (g2 := F0 m 29 ls [.int (mh_b (st_rd x (iv_wk y j)))]) rfl ?_
        refine mh_ifeqB (tgt := 45) hx hb d_IN_isHitBy_29 (by decide) (fun c2 => ?_) (fun c2 => ?_)
        · skip
          refine lv_iinc (v := nI (j + 1)) (k := 1) (lv' := [(2, .int (nI (j + 1))), (3, .int (nI (iv_wk y j))), (0, .ref a), (1, .ref c0)]) hx hb d_IN_isHitBy_45 hl rfl (mh_inc j) (by decide) rfl (fun ls hl => ?_)
          refine lv_goto (tgt := 2) hx hb d_IN_isHitBy_48 (by decide) ?_
          exact ih (j + 1) _ _ _ hX hS (lv_sub hl [0, 2, 3] rfl) (by omega) (fun z hz => if e : z = j then (by rw [e, if_pos cf]; exact c2) else hj z (by omega))
        · skip
          refine lv_goto (tgt := 43) hx hb d_IN_isHitBy_32 (by decide) ?_
          refine lv_iconst (v := nI 1) hx hb d_IN_isHitBy_43 (by decide) ?_
          exact mh_iret K0 hr (by decide) hlocks hX hS (⟨by unfold st_ht; rw [st_any_true (i := j) (by omega) (by show (if _ then _ else _) = true; rw [if_pos cf]; exact c2)]; rfl, rfl⟩) (Nat.le_of_ble_eq_true rfl) (Nat.le_of_ble_eq_true rfl) d_IN_isHitBy_44
  exact LP (iv_nw y) 0 _ _ _ hX hS hl (Nat.zero_add _) (fun z hz => absurd hz (Nat.not_lt_zero z))
set_option maxHeartbeats 4000000 in
set_option maxRecDepth 100000 in
theorem c_IN_readKey {l : Launch} {b : Nat} {dC : Nat → ClassId} {dI : Nat → Nat → Nat} {dA : Nat → ClassId} {zs : Nat → Nat} {w : mh_w} {k i a m0 : Nat} {x : st_I} (h : rI dA w k i a x) (ho : iv_ok m0 x) {key : Nat} (hk : key < 256) : mh_Met l b dC dI dA zs y_IN_readKey (mh_rm 2 0 0) [.ref a, .int (nI key)] w (mh_V none (fun w' => rI dA w' k i a (st_get x key) ∧ mh_F w w' k 8 i)) := by
  have ho_ := ho
  have hI := h
  obtain ⟨a1, a3, a4, a5, a6, a7, lo, hi, wk, hn, nn, i0, hK, i3, i4, i5, i6, i7, hlo, hwk⟩ := h
  have hK2 := hK
  obtain ⟨kb1, kfb, hk0, hk1, hkf⟩ := hK2
  obtain ⟨o1, o2, o3, o4, o5, o6, o7, o8⟩ := ho
  refine mh_ofW (cc := b_IN_readKey) (n := 2) (ret := none) (hs := []) (by decide) k309 ?_
  intro p e s m below meth c hx hb hr hml hown hts hlocks hnm hT hOK hadm
  have K0 : mh_K0 p s m ([.ref a, .int (nI key)]).toArray c "MeldHost$Intention" b_IN_readKey dC dI dA := ⟨hx, hb, hown, hts, hOK.1, hOK.2.1⟩
  have hX := hOK.2.2.2.2
  have hb0 := hOK.2.2.2.1
  have hS : va_S (mh_A b) s.heap s.heap [] := va_S.rf
  have hl := lv_entry ([.ref a, .int (nI key)]) (n := 2) (Nat.le_of_ble_eq_true rfl)
  rw [lg_entry_eq]
  generalize (lg_sl ([.ref a, .int (nI key)]) ++ List.replicate (2 - (lg_sl ([.ref a, .int (nI key)])).length) Slot.unset).toArray = ls at hl ⊢
  have hl : lv_has ls 2 [(0, .ref a), (1, .int (nI key))] := hl
  refine lv_aload_n hx hb d_IN_readKey_0 rfl (lv_at hl 0 rfl) ?_
  refine lv_iload_n hx hb d_IN_readKey_1 rfl (lv_at hl 1 rfl) ?_
  refine mh_callR (mh_sV (rest := []) (av := [.int (nI key)]) K0 hX i0 rfl e_IN_hasWritten l_IN_46 k312 kp2 rfl rfl d_IN_readKey_2) (c_IN_hasWritten hI ho_ hk) K0 hOK hml hl.1 e_IN_hasWritten hX hS d_IN_readKey_2 (Nat.le_of_ble_eq_true rfl) (Nat.le_of_ble_eq_true rfl) (Nat.le_of_ble_eq_true rfl) (Nat.le_of_ble_eq_true rfl) (Nat.le_of_ble_eq_true rfl) (fun H locs hX hS => ?_)
  refine W.eq (g2 := F0 m 5 ls [.int (mh_b (decide (st_pl (iv_wk x) key (iv_nw x) < iv_nw x)))]) rfl ?_
  refine mh_ifneB (tgt := 16) hx hb d_IN_readKey_5 (by decide) (fun ct => ?_) (fun cf => ?_)
  · skip
    exact mh_vret K0 hr hlocks hX hS (⟨rfl, by rw [show st_get x key = x from if_pos (of_decide_eq_true ct)]; exact hI, mh_F.rf⟩) (Nat.le_of_ble_eq_true rfl) (Nat.le_of_ble_eq_true rfl) d_IN_readKey_16
  · skip
    refine lv_aload_n hx hb d_IN_readKey_8 rfl (lv_at hl 0 rfl) ?_
    refine mh_get K0 hX i0 f_IN_12 rfl d_IN_readKey_9 ?_
    refine lv_iload_n hx hb d_IN_readKey_12 rfl (lv_at hl 1 rfl) ?_
    refine mh_callV (mh_sV (rest := []) (av := [.int (nI key)]) K0 hX hk0 rfl e_KS_add l_IN_50 k319 k320 rfl rfl d_IN_readKey_13) (c_KS_add hK hk) K0 hOK hml hl.1 e_KS_add hX hS d_IN_readKey_13 (Nat.le_of_ble_eq_true rfl) (Nat.le_of_ble_eq_true rfl) (Nat.le_of_ble_eq_true rfl) (Nat.le_of_ble_eq_true rfl) (Nat.le_of_ble_eq_true rfl) (fun w1 H locs ⟨hK1, hF⟩ hX hS => ?_)
    refine W.eq (g2 := F0 m 16 ls []) rfl ?_
    exact mh_vret K0 hr hlocks hX hS (⟨rfl, by rw [show st_get x key = (x.1, (fun j => decide (j = key) || iv_rd x j), x.2.2) from if_neg (of_decide_eq_false cf)]; exact ⟨a1, a3, a4, a5, a6, a7, lo, hi, wk, hn, nn, ((hF k i (by omega)).trans i0), hK1, ((hF (k + 3) i (by omega)).trans i3), ((hF (k + 4) i (by omega)).trans i4), ((hF (k + 5) i (by omega)).trans i5), ((hF (k + 6) i (by omega)).trans i6), ((hF (k + 7) i (by omega)).trans i7), hlo, hwk⟩, fun k2 i2 h2 => hF k2 i2 (by omega)⟩) (Nat.le_of_ble_eq_true rfl) (Nat.le_of_ble_eq_true rfl) d_IN_readKey_16
set_option maxHeartbeats 4000000 in
set_option maxRecDepth 100000 in
theorem c_IN_readPart {l : Launch} {b : Nat} {dC : Nat → ClassId} {dI : Nat → Nat → Nat} {dA : Nat → ClassId} {zs : Nat → Nat} {w : mh_w} {k i a m0 : Nat} {x : st_I} (h : rI dA w k i a x) (ho : iv_ok m0 x) {low high : Nat} (h8 : iv_np x < 8) : mh_Met l b dC dI dA zs y_IN_readPart (mh_rm 0 0 0) [.ref a, .int (nI low), .int (nI high)] w (mh_V none (fun w' => rI dA w' k i a (st_prt x low high) ∧ mh_F w w' k 8 i)) := by
  have ho_ := ho
  have hI := h
  obtain ⟨a1, a3, a4, a5, a6, a7, lo, hi, wk, hn, nn, i0, hK, i3, i4, i5, i6, i7, hlo, hwk⟩ := h
  have hK2 := hK
  obtain ⟨kb1, kfb, hk0, hk1, hkf⟩ := hK2
  obtain ⟨o1, o2, o3, o4, o5, o6, o7, o8⟩ := ho
  refine mh_ofW (cc := b_IN_readPart) (n := 3) (ret := none) (hs := []) (by decide) k418 ?_
  intro p e s m below meth c hx hb hr hml hown hts hlocks hnm hT hOK hadm
  have K0 : mh_K0 p s m ([.ref a, .int (nI low), .int (nI high)]).toArray c "MeldHost$Intention" b_IN_readPart dC dI dA := ⟨hx, hb, hown, hts, hOK.1, hOK.2.1⟩
  have hX := hOK.2.2.2.2
  have hb0 := hOK.2.2.2.1
  have hS : va_S (mh_A b) s.heap s.heap [] := va_S.rf
  have hl := lv_entry ([.ref a, .int (nI low), .int (nI high)]) (n := 3) (Nat.le_of_ble_eq_true rfl)
  rw [lg_entry_eq]
  generalize (lg_sl ([.ref a, .int (nI low), .int (nI high)]) ++ List.replicate (3 - (lg_sl ([.ref a, .int (nI low), .int (nI high)])).length) Slot.unset).toArray = ls at hl ⊢
  have hl : lv_has ls 3 [(0, .ref a), (1, .int (nI low)), (2, .int (nI high))] := hl
  refine lv_aload_n hx hb d_IN_readPart_0 rfl (lv_at hl 0 rfl) ?_
  refine mh_get K0 hX i0 f_IN_54 rfl d_IN_readPart_1 ?_
  refine lv_bipush (v := nI 8) hx hb d_IN_readPart_4 (by decide) ?_
  refine mh_icmp_ge (tgt := 39) hx hb (by omega) (by omega) d_IN_readPart_6 (by decide) (fun z => absurd z (by omega)) (fun _ => ?_)
  refine lv_aload_n hx hb d_IN_readPart_9 rfl (lv_at hl 0 rfl) ?_
  refine mh_get K0 hX i0 f_IN_18 rfl d_IN_readPart_10 ?_
  refine lv_aload_n hx hb d_IN_readPart_13 rfl (lv_at hl 0 rfl) ?_
  refine mh_get K0 hX i0 f_IN_54 rfl d_IN_readPart_14 ?_
  refine lv_iload_n hx hb d_IN_readPart_17 rfl (lv_at hl 1 rfl) ?_
  refine mh_iastN K0 hX hS i3 (by omega) (by omega) d_IN_readPart_18 (fun H locs hX hS => ?_)
  have fs29 := mh_self hX
  refine lv_aload_n hx hb d_IN_readPart_19 rfl (lv_at hl 0 rfl) ?_
  refine mh_get K0 hX (mh_kp i0 (by omega)) f_IN_22 rfl d_IN_readPart_20 ?_
  refine lv_aload_n hx hb d_IN_readPart_23 rfl (lv_at hl 0 rfl) ?_
  refine mh_get K0 hX (mh_kp i0 (by omega)) f_IN_54 rfl d_IN_readPart_24 ?_
  refine lv_iload_n hx hb d_IN_readPart_27 rfl (lv_at hl 2 rfl) ?_
  refine mh_iastN K0 hX hS (mh_kp i4 (by omega)) (by omega) (by omega) d_IN_readPart_28 (fun H locs hX hS => ?_)
  have fs30 := mh_self hX
  refine lv_aload_n hx hb d_IN_readPart_29 rfl (lv_at hl 0 rfl) ?_
  refine lv_dup hx hb d_IN_readPart_30 rfl ?_
  refine mh_get K0 hX (mh_kp (mh_kp i0 (by omega)) (by omega)) f_IN_54 rfl d_IN_readPart_31 ?_
  refine lv_iconst (v := nI 1) hx hb d_IN_readPart_34 (by decide) ?_
  refine mh_addN hx hb d_IN_readPart_35 ?_
  refine mh_put K0 hX hS (mh_kp (mh_kp i0 (by omega)) (by omega)) f_IN_54 p_2_9 rfl rfl (Nat.le_of_ble_eq_true rfl) d_IN_readPart_36 (fun H locs hX hS => ?_)
  have hX : mh_P (dC, dI) b (mh_set _ k i (some (a, .inr (2, [.int (nI (iv_sv x)), .int (nI (iv_sn x)), .int (nI (iv_lv x)), .ref a1, .ref a3, .ref a4, .ref a5, .ref a6, .ref a7, .int (nI ((iv_np x) + 1)), .int (nI (iv_nw x)), .int (mh_b (iv_gd x))])))) H := hX
  have fs31 := mh_self hX
  refine mh_vret K0 hr hlocks hX hS (⟨rfl, ⟨a1, a3, a4, a5, a6, a7, _, _, wk, hn, nn, fs31, hK.to (fun z hz => by repeat rw [mh_set_ne _ _ _ _ (by omega)]) (fun j _ => rfl), (mh_kp (mh_kp fs29 (by omega)) (by omega)), (mh_kp fs30 (by omega)), (mh_kp (mh_kp (mh_kp i5 (by omega)) (by omega)) (by omega)), (mh_kp (mh_kp (mh_kp i6 (by omega)) (by omega)) (by omega)), (mh_kp (mh_kp (mh_kp i7 (by omega)) (by omega)) (by omega)), fun j hj => ?_, hwk⟩, (((mh_F.rf.set (by omega) (by omega)).set (by omega) (by omega)).set (by omega) (by omega))⟩) (Nat.le_of_ble_eq_true rfl) (Nat.le_of_ble_eq_true rfl) d_IN_readPart_39
  have hj : j < iv_np x + 1 := hj
  show upd lo (iv_np x) (nI low) j = nI (va_up (iv_lo x) (iv_np x) low j) ∧ upd hi (iv_np x) (nI high) j = nI (va_up (iv_hi x) (iv_np x) high j)
  by_cases e9 : j = iv_np x
  · rw [e9, pk_us, pk_us, va_up_self, va_up_self]; exact ⟨rfl, rfl⟩
  · rw [pk_un e9, pk_un e9, va_up_ne _ _ e9, va_up_ne _ _ e9]; exact hlo j (by omega)
set_option maxHeartbeats 4000000 in
set_option maxRecDepth 100000 in
theorem c_IN_write {l : Launch} {b : Nat} {dC : Nat → ClassId} {dI : Nat → Nat → Nat} {dA : Nat → ClassId} {zs : Nat → Nat} {w : mh_w} {k i a m0 : Nat} {x : st_I} (h : rI dA w k i a x) (ho : iv_ok m0 x) {key : Nat} (hk : key < 256) {v : Option Int64} {u : Int64} (hu : ∀ z, v = some z → u = z) (h8 : st_pl (iv_wk x) key (iv_nw x) < 8) : mh_Met l b dC dI dA zs y_IN_write (mh_rm 1 0 0) [.ref a, .int (nI key), .int (mh_b v.isSome), .long u] w (mh_V none (fun w' => rI dA w' k i a (st_wr x key v) ∧ mh_F w w' k 8 i)) := by
  have ho_ := ho
  have hI := h
  obtain ⟨a1, a3, a4, a5, a6, a7, lo, hi, wk, hn, nn, i0, hK, i3, i4, i5, i6, i7, hlo, hwk⟩ := h
  have hK2 := hK
  obtain ⟨kb1, kfb, hk0, hk1, hkf⟩ := hK2
  obtain ⟨o1, o2, o3, o4, o5, o6, o7, o8⟩ := ho
  have hple := st_pl_le (iv_wk x) key (iv_nw x)
  refine mh_ofW (cc := b_IN_write) (n := 6) (ret := none) (hs := []) (by decide) k379 ?_
  intro p e s m below meth c hx hb hr hml hown hts hlocks hnm hT hOK hadm
  have K0 : mh_K0 p s m ([.ref a, .int (nI key), .int (mh_b v.isSome), .long u]).toArray c "MeldHost$Intention" b_IN_write dC dI dA := ⟨hx, hb, hown, hts, hOK.1, hOK.2.1⟩
  have hX := hOK.2.2.2.2
  have hb0 := hOK.2.2.2.1
  have hS : va_S (mh_A b) s.heap s.heap [] := va_S.rf
  have hl := lv_entry ([.ref a, .int (nI key), .int (mh_b v.isSome), .long u]) (n := 6) (Nat.le_of_ble_eq_true rfl)
  rw [lg_entry_eq]
  generalize (lg_sl ([.ref a, .int (nI key), .int (mh_b v.isSome), .long u]) ++ List.replicate (6 - (lg_sl ([.ref a, .int (nI key), .int (mh_b v.isSome), .long u])).length) Slot.unset).toArray = ls at hl ⊢
  have hl : lv_has ls 6 [(0, .ref a), (1, .int (nI key)), (2, .int (mh_b v.isSome)), (3, .long u)] := hl
  refine lv_aload_n hx hb d_IN_write_0 rfl (lv_at hl 0 rfl) ?_
  refine lv_iload_n hx hb d_IN_write_1 rfl (lv_at hl 1 rfl) ?_
  refine mh_callR (mh_sV (rest := []) (av := [.int (nI key)]) K0 hX i0 rfl e_IN_placeOf l_IN_57 k316 kp3 rfl rfl d_IN_write_2) (c_IN_placeOf hI ho_ hk) K0 hOK hml hl.1 e_IN_placeOf hX hS d_IN_write_2 (Nat.le_of_ble_eq_true rfl) (Nat.le_of_ble_eq_true rfl) (Nat.le_of_ble_eq_true rfl) (Nat.le_of_ble_eq_true rfl) (Nat.le_of_ble_eq_true rfl) (fun H locs hX hS => ?_)
  refine W.eq (g2 := F0 m 5 ls [.int (nI (st_pl (iv_wk x) key (iv_nw x)))]) rfl ?_
  refine lv_istore (lv' := [(5, .int (nI (st_pl (iv_wk x) key (iv_nw x)))), (0, .ref a), (1, .int (nI key)), (2, .int (mh_b v.isSome)), (3, .long u)]) hx hb d_IN_write_5 hl (by decide) rfl (fun ls hl => ?_)
  refine lv_iload hx hb d_IN_write_7 (lv_at hl 0 rfl) ?_
  refine lv_bipush (v := nI 8) hx hb d_IN_write_9 (by decide) ?_
  refine mh_icmp_lt (tgt := 15) hx hb (by omega) (by omega) d_IN_write_11 (by decide) (fun _ => ?_) (fun z => absurd z (by omega))
  refine lv_aload_n hx hb d_IN_write_15 rfl (lv_at hl 1 rfl) ?_
  refine mh_get K0 hX i0 f_IN_25 rfl d_IN_write_16 ?_
  refine lv_iload hx hb d_IN_write_19 (lv_at hl 0 rfl) ?_
  refine lv_iload_n hx hb d_IN_write_21 rfl (lv_at hl 2 rfl) ?_
  refine mh_iastN K0 hX hS i5 (by omega) (by omega) d_IN_write_22 (fun H locs hX hS => ?_)
  have fs32 := mh_self hX
  refine lv_aload_n hx hb d_IN_write_23 rfl (lv_at hl 1 rfl) ?_
  refine mh_get K0 hX (mh_kp i0 (by omega)) f_IN_28 rfl d_IN_write_24 ?_
  refine lv_iload hx hb d_IN_write_27 (lv_at hl 0 rfl) ?_
  refine lv_iload_n hx hb d_IN_write_29 rfl (lv_at hl 3 rfl) ?_
  refine mh_zastN K0 hX hS (mh_kp i6 (by omega)) (mh_b_vn _) (by omega) (by omega) d_IN_write_30 (fun H locs hX hS => ?_)
  have fs33 := mh_self hX
  refine lv_aload_n hx hb d_IN_write_31 rfl (lv_at hl 1 rfl) ?_
  refine mh_get K0 hX (mh_kp (mh_kp i0 (by omega)) (by omega)) f_IN_32 rfl d_IN_write_32 ?_
  refine lv_iload hx hb d_IN_write_35 (lv_at hl 0 rfl) ?_
  refine lv_lload_n hx hb d_IN_write_37 rfl (lv_at hl 4 rfl) ?_
  refine mh_lastN K0 hX hS (mh_kp (mh_kp i7 (by omega)) (by omega)) (by omega) (by omega) d_IN_write_38 (fun H locs hX hS => ?_)
  have fs34 := mh_self hX
  refine lv_aload_n hx hb d_IN_write_39 rfl (lv_at hl 1 rfl) ?_
  refine lv_aload_n hx hb d_IN_write_40 rfl (lv_at hl 1 rfl) ?_
  refine mh_get K0 hX (mh_kp (mh_kp (mh_kp i0 (by omega)) (by omega)) (by omega)) f_IN_61 rfl d_IN_write_41 ?_
  refine lv_iload hx hb d_IN_write_44 (lv_at hl 0 rfl) ?_
  refine lv_iconst (v := nI 1) hx hb d_IN_write_46 (by decide) ?_
  refine mh_addN hx hb d_IN_write_47 ?_
  refine va_mmax (rest := [.ref a]) hx hb (by rw [hml]; exact hl.1.symm) hown (hts _ k380) (hts _ k381) (hts _ k20) (hts _ k382) (Nat.le_of_ble_eq_true rfl) (Nat.le_of_ble_eq_true rfl) (Nat.le_of_ble_eq_true rfl) (Nat.le_of_ble_eq_true rfl) d_IN_write_48 ?_
  refine mh_ti (y := nI (max (iv_nw x) ((st_pl (iv_wk x) key (iv_nw x)) + 1))) (mh_mmax (by omega) (by omega)) ?_
  refine mh_put K0 hX hS (mh_kp (mh_kp (mh_kp i0 (by omega)) (by omega)) (by omega)) f_IN_61 p_2_10 rfl rfl (Nat.le_of_ble_eq_true rfl) d_IN_write_51 (fun H locs hX hS => ?_)
  have hX : mh_P (dC, dI) b (mh_set _ k i (some (a, .inr (2, [.int (nI (iv_sv x)), .int (nI (iv_sn x)), .int (nI (iv_lv x)), .ref a1, .ref a3, .ref a4, .ref a5, .ref a6, .ref a7, .int (nI (iv_np x)), .int (nI (max (iv_nw x) ((st_pl (iv_wk x) key (iv_nw x)) + 1))), .int (mh_b (iv_gd x))])))) H := hX
  have fs35 := mh_self hX
  refine mh_vret K0 hr hlocks hX hS (⟨rfl, ⟨a1, a3, a4, a5, a6, a7, lo, hi, _, _, _, fs35, hK.to (fun z hz => by repeat rw [mh_set_ne _ _ _ _ (by omega)]) (fun j _ => rfl), (mh_kp (mh_kp (mh_kp (mh_kp i3 (by omega)) (by omega)) (by omega)) (by omega)), (mh_kp (mh_kp (mh_kp (mh_kp i4 (by omega)) (by omega)) (by omega)) (by omega)), (mh_kp (mh_kp (mh_kp fs32 (by omega)) (by omega)) (by omega)), (mh_kp (mh_kp fs33 (by omega)) (by omega)), (mh_kp fs34 (by omega)), hlo, fun j hj => ?_⟩, ((((mh_F.rf.set (by omega) (by omega)).set (by omega) (by omega)).set (by omega) (by omega)).set (by omega) (by omega))⟩) (Nat.le_of_ble_eq_true rfl) (Nat.le_of_ble_eq_true rfl) d_IN_write_54
  have hj : j < max (iv_nw x) ((st_pl (iv_wk x) key (iv_nw x)) + 1) := hj
  show upd wk (st_pl (iv_wk x) key (iv_nw x)) (nI key) j = nI (va_up (iv_wk x) (st_pl (iv_wk x) key (iv_nw x)) key j) ∧ upd hn (st_pl (iv_wk x) key (iv_nw x)) (mh_b v.isSome) j = mh_b (va_up (iv_wv x) (st_pl (iv_wk x) key (iv_nw x)) v j).isSome ∧ ∀ z, va_up (iv_wv x) (st_pl (iv_wk x) key (iv_nw x)) v j = some z → vp_updL nn (st_pl (iv_wk x) key (iv_nw x)) u j = z
  by_cases e9 : j = (st_pl (iv_wk x) key (iv_nw x))
  · rw [e9, pk_us, pk_us, pk_uLs, va_up_self, va_up_self]; exact ⟨rfl, rfl, hu⟩
  · rw [pk_un e9, pk_un e9, pk_uLn e9, va_up_ne _ _ e9, va_up_ne _ _ e9]; exact hwk j (by omega)
set_option maxHeartbeats 4000000 in
set_option maxRecDepth 100000 in
theorem c_IN_writeInto {l : Launch} {b : Nat} {dC : Nat → ClassId} {dI : Nat → Nat → Nat} {dA : Nat → ClassId} {zs : Nat → Nat} {w : mh_w} {k i a m0 : Nat} {x : st_I} (h : rI dA w k i a x) (ho : iv_ok m0 x) {kn im an : Nat} {st : Nat → Option Int64} (hN : rN dA w kn im an st) (hd : k + 8 ≤ kn ∨ kn + 4 ≤ k) : mh_Met l b dC dI dA zs y_IN_writeInto (mh_rm 2 0 0) [.ref a, .ref an] w (mh_V none (fun w' => rN dA w' kn im an (st_aw (iv_wk x) (iv_wv x) st (iv_nw x)) ∧ mh_F w w' kn 4 im)) := by
  have ho_ := ho
  have hI := h
  obtain ⟨a1, a3, a4, a5, a6, a7, lo, hi, wk, hn, nn, i0, hK, i3, i4, i5, i6, i7, hlo, hwk⟩ := h
  have hK2 := hK
  obtain ⟨kb1, kfb, hk0, hk1, hkf⟩ := hK2
  obtain ⟨o1, o2, o3, o4, o5, o6, o7, o8⟩ := ho
  refine mh_ofW (cc := b_IN_writeInto) (n := 3) (ret := none) (hs := []) (by decide) k556 ?_
  intro p e s m below meth c hx hb hr hml hown hts hlocks hnm hT hOK hadm
  have K0 : mh_K0 p s m ([.ref a, .ref an]).toArray c "MeldHost$Intention" b_IN_writeInto dC dI dA := ⟨hx, hb, hown, hts, hOK.1, hOK.2.1⟩
  have hX := hOK.2.2.2.2
  have hb0 := hOK.2.2.2.1
  have hS : va_S (mh_A b) s.heap s.heap [] := va_S.rf
  have hl := lv_entry ([.ref a, .ref an]) (n := 3) (Nat.le_of_ble_eq_true rfl)
  rw [lg_entry_eq]
  generalize (lg_sl ([.ref a, .ref an]) ++ List.replicate (3 - (lg_sl ([.ref a, .ref an])).length) Slot.unset).toArray = ls at hl ⊢
  have hl : lv_has ls 3 [(0, .ref a), (1, .ref an)] := hl
  refine lv_iconst (v := nI 0) hx hb d_IN_writeInto_0 (by decide) ?_
  refine lv_istore_n (lv' := [(2, .int (nI 0)), (0, .ref a), (1, .ref an)]) hx hb d_IN_writeInto_1 rfl hl (by decide) rfl (fun ls hl => ?_)
  have LP : ∀ (n : Nat) (j : Nat) (w1 : mh_w) (H : Heap) (locs : List Loc) (ls : Array Slot), mh_P (dC, dI) b w1 H → va_S (mh_A b) s.heap H locs → lv_has ls 3 [(2, .int (nI j)), (0, .ref a), (1, .ref an)] → (j + n = iv_nw x) → (rN dA w1 kn im an (st_aw (iv_wk x) (iv_wv x) st j)) → (mh_F w w1 kn 4 im) → W p l e (mh_rm 2 0 0) s m ([.ref a, .ref an]).toArray below meth c H locs (0) (0) (mh_MQ below b dC dI (mh_V none (fun w' => rN dA w' kn im an (st_aw (iv_wk x) (iv_wv x) st (iv_nw x)) ∧ mh_F w w' kn 4 im)) ([.ref a, .ref an]).toArray s 0 0) (F0 m 2 ls []) := by
    intro n
    induction n with
    | zero =>
      intro j w1 H locs ls hX hS hl hn9 hN1 hF
      refine lv_iload_n hx hb d_IN_writeInto_2 rfl (lv_at hl 0 rfl) ?_
      refine lv_aload_n hx hb d_IN_writeInto_3 rfl (lv_at hl 1 rfl) ?_
      refine mh_get K0 hX ((hF k i (by omega)).trans i0) f_IN_61 rfl d_IN_writeInto_4 ?_
      refine mh_icmp_ge (tgt := 54) hx hb (by omega) (by omega) d_IN_writeInto_7 (by decide) (fun _ => ?_) (fun z => absurd z (by omega))
      exact mh_vret K0 hr hlocks hX hS (⟨rfl, by rw [show iv_nw x = j by omega]; exact hN1, hF⟩) (Nat.le_of_ble_eq_true rfl) (Nat.le_of_ble_eq_true rfl) d_IN_writeInto_54
    | succ n ih =>
      intro j w1 H locs ls hX hS hl hn9 hN1 hF
      have b7 := o7 j (by omega)
      have hN2 := hN1
      obtain ⟨d1, d3, df, dz, -⟩ := hN2
      refine lv_iload_n hx hb d_IN_writeInto_2 rfl (lv_at hl 0 rfl) ?_
      refine lv_aload_n hx hb d_IN_writeInto_3 rfl (lv_at hl 1 rfl) ?_
      refine mh_get K0 hX ((hF k i (by omega)).trans i0) f_IN_61 rfl d_IN_writeInto_4 ?_
      refine mh_icmp_ge (tgt := 54) hx hb (by omega) (by omega) d_IN_writeInto_7 (by decide) (fun z => absurd z (by omega)) (fun _ => ?_)
      refine lv_aload_n hx hb d_IN_writeInto_10 rfl (lv_at hl 1 rfl) ?_
      refine mh_get K0 hX ((hF k i (by omega)).trans i0) f_IN_28 rfl d_IN_writeInto_11 ?_
      refine lv_iload_n hx hb d_IN_writeInto_14 rfl (lv_at hl 0 rfl) ?_
      refine mh_zaldN K0 hX ((hF (k + 6) i (by omega)).trans i6) (by omega) (by omega) d_IN_writeInto_15 ?_
      refine mh_ti (y := mh_b ((iv_wv x j).isSome)) ((hwk j (by omega)).2.1) ?_
      refine mh_ifeqB (tgt := 38) hx hb d_IN_writeInto_16 (by decide) (fun ct => ?_) (fun cf => ?_)
      · skip
        have ev : iv_wv x j = none := by cases e9 : iv_wv x j with | none => rfl | some z => rw [e9] at ct; cases ct
        refine lv_aload_n hx hb d_IN_writeInto_38 rfl (lv_at hl 2 rfl) ?_
        refine lv_aload_n hx hb d_IN_writeInto_39 rfl (lv_at hl 1 rfl) ?_
        refine mh_get K0 hX ((hF k i (by omega)).trans i0) f_IN_25 rfl d_IN_writeInto_40 ?_
        refine lv_iload_n hx hb d_IN_writeInto_43 rfl (lv_at hl 0 rfl) ?_
        refine mh_ialdN K0 hX ((hF (k + 5) i (by omega)).trans i5) (by omega) (by omega) d_IN_writeInto_44 ?_
        refine mh_ti (y := nI (iv_wk x j)) ((hwk j (by omega)).1) ?_
        refine mh_callV (mh_sV (rest := []) (av := [.int (nI (iv_wk x j))]) K0 hX dz rfl e_NU_take l_IN_82 k396 k397 rfl rfl d_IN_writeInto_45) (c_NU_take hN1 b7) K0 hOK hml hl.1 e_NU_take hX hS d_IN_writeInto_45 (Nat.le_of_ble_eq_true rfl) (Nat.le_of_ble_eq_true rfl) (Nat.le_of_ble_eq_true rfl) (Nat.le_of_ble_eq_true rfl) (Nat.le_of_ble_eq_true rfl) (fun w2 H locs ⟨hN3, hF2⟩ hX hS => ?_)
        refine W.eq (g2 := F0 m 48 ls []) rfl ?_
        refine lv_iinc (v := nI (j + 1)) (k := 0) (lv' := [(2, .int (nI (j + 1))), (0, .ref a), (1, .ref an)]) hx hb d_IN_writeInto_48 hl rfl (mh_inc j) (by decide) rfl (fun ls hl => ?_)
        refine lv_goto (tgt := 2) hx hb d_IN_writeInto_51 (by decide) ?_
        exact ih (j + 1) _ _ _ _ hX hS hl (by omega) (by rw [st_aw, ev]; exact hN3) (fun k2 i2 h2 => (hF2 k2 i2 h2).trans (hF k2 i2 h2))
      · skip
        obtain ⟨u, hu⟩ := Option.isSome_iff_exists.mp cf
        refine lv_aload_n hx hb d_IN_writeInto_19 rfl (lv_at hl 2 rfl) ?_
        refine lv_aload_n hx hb d_IN_writeInto_20 rfl (lv_at hl 1 rfl) ?_
        refine mh_get K0 hX ((hF k i (by omega)).trans i0) f_IN_25 rfl d_IN_writeInto_21 ?_
        refine lv_iload_n hx hb d_IN_writeInto_24 rfl (lv_at hl 0 rfl) ?_
        refine mh_ialdN K0 hX ((hF (k + 5) i (by omega)).trans i5) (by omega) (by omega) d_IN_writeInto_25 ?_
        refine mh_ti (y := nI (iv_wk x j)) ((hwk j (by omega)).1) ?_
        refine lv_aload_n hx hb d_IN_writeInto_26 rfl (lv_at hl 1 rfl) ?_
        refine mh_get K0 hX ((hF k i (by omega)).trans i0) f_IN_32 rfl d_IN_writeInto_27 ?_
        refine lv_iload_n hx hb d_IN_writeInto_30 rfl (lv_at hl 0 rfl) ?_
        refine mh_laldN K0 hX ((hF (k + 7) i (by omega)).trans i7) (by omega) (by omega) d_IN_writeInto_31 ?_
        refine mh_tl (y := u) ((hwk j (by omega)).2.2 u hu) ?_
        refine mh_callV (mh_sV (rest := []) (av := [.int (nI (iv_wk x j)), .long u]) K0 hX dz rfl e_NU_give l_IN_76 k384 k385 rfl rfl d_IN_writeInto_32) (c_NU_give hN1 b7) K0 hOK hml hl.1 e_NU_give hX hS d_IN_writeInto_32 (Nat.le_of_ble_eq_true rfl) (Nat.le_of_ble_eq_true rfl) (Nat.le_of_ble_eq_true rfl) (Nat.le_of_ble_eq_true rfl) (Nat.le_of_ble_eq_true rfl) (fun w2 H locs ⟨hN3, hF2⟩ hX hS => ?_)
        refine W.eq (g2 := F0 m 35 ls []) rfl ?_
        refine lv_goto (tgt := 48) hx hb d_IN_writeInto_35 (by decide) ?_
        refine lv_iinc (v := nI (j + 1)) (k := 0) (lv' := [(2, .int (nI (j + 1))), (0, .ref a), (1, .ref an)]) hx hb d_IN_writeInto_48 hl rfl (mh_inc j) (by decide) rfl (fun ls hl => ?_)
        refine lv_goto (tgt := 2) hx hb d_IN_writeInto_51 (by decide) ?_
        exact ih (j + 1) _ _ _ _ hX hS hl (by omega) (by rw [st_aw, hu]; exact hN3) (fun k2 i2 h2 => (hF2 k2 i2 h2).trans (hF k2 i2 h2))
  exact LP (iv_nw x) 0 _ _ _ _ hX hS hl (Nat.zero_add _) hN mh_F.rf
set_option maxHeartbeats 4000000 in
set_option maxRecDepth 100000 in
theorem c_IN_signInto {l : Launch} {b : Nat} {dC : Nat → ClassId} {dI : Nat → Nat → Nat} {dA : Nat → ClassId} {zs : Nat → Nat} {w : mh_w} {k i a m0 : Nat} {x : st_I} (h : rI dA w k i a x) (ho : iv_ok m0 x) {ka ia al : Nat} {g : Nat → Int32} {v : Int32} (hg : w ka ia = some (al, .inl (dA 0, 256, .inl g))) (hd : k + 8 ≤ ka ∨ ka + 1 ≤ k) : mh_Met l b dC dI dA zs y_IN_signInto (mh_rm 0 0 0) [.ref a, .ref al, .int v] w (mh_V none (fun w' => (∃ g' : Nat → Int32, w' ka ia = some (al, .inl (dA 0, 256, .inl g')) ∧ ∀ z, z < 256 → g' z = if st_pl (iv_wk x) z (iv_nw x) < iv_nw x then v else g z) ∧ mh_F w w' ka 1 ia)) := by
  have ho_ := ho
  have hI := h
  obtain ⟨a1, a3, a4, a5, a6, a7, lo, hi, wk, hn, nn, i0, hK, i3, i4, i5, i6, i7, hlo, hwk⟩ := h
  have hK2 := hK
  obtain ⟨kb1, kfb, hk0, hk1, hkf⟩ := hK2
  obtain ⟨o1, o2, o3, o4, o5, o6, o7, o8⟩ := ho
  refine mh_ofW (cc := b_IN_signInto) (n := 4) (ret := none) (hs := []) (by decide) k562 ?_
  intro p e s m below meth c hx hb hr hml hown hts hlocks hnm hT hOK hadm
  have K0 : mh_K0 p s m ([.ref a, .ref al, .int v]).toArray c "MeldHost$Intention" b_IN_signInto dC dI dA := ⟨hx, hb, hown, hts, hOK.1, hOK.2.1⟩
  have hX := hOK.2.2.2.2
  have hb0 := hOK.2.2.2.1
  have hS : va_S (mh_A b) s.heap s.heap [] := va_S.rf
  have hl := lv_entry ([.ref a, .ref al, .int v]) (n := 4) (Nat.le_of_ble_eq_true rfl)
  rw [lg_entry_eq]
  generalize (lg_sl ([.ref a, .ref al, .int v]) ++ List.replicate (4 - (lg_sl ([.ref a, .ref al, .int v])).length) Slot.unset).toArray = ls at hl ⊢
  have hl : lv_has ls 4 [(0, .ref a), (1, .ref al), (2, .int v)] := hl
  refine lv_iconst (v := nI 0) hx hb d_IN_signInto_0 (by decide) ?_
  refine lv_istore_n (lv' := [(3, .int (nI 0)), (0, .ref a), (1, .ref al), (2, .int v)]) hx hb d_IN_signInto_1 rfl hl (by decide) rfl (fun ls hl => ?_)
  have LP : ∀ (n : Nat) (j : Nat) (w1 : mh_w) (g1 : Nat → Int32) (H : Heap) (locs : List Loc) (ls : Array Slot), mh_P (dC, dI) b w1 H → va_S (mh_A b) s.heap H locs → lv_has ls 4 [(3, .int (nI j)), (0, .ref a), (1, .ref al), (2, .int v)] → (j + n = iv_nw x) → (w1 ka ia = some (al, .inl (dA 0, 256, .inl g1))) → (∀ z, z < 256 → g1 z = if st_pl (iv_wk x) z j < j then v else g z) → (mh_F w w1 ka 1 ia) → W p l e (mh_rm 0 0 0) s m ([.ref a, .ref al, .int v]).toArray below meth c H locs (0) (0) (mh_MQ below b dC dI (mh_V none (fun w' => (∃ g' : Nat → Int32, w' ka ia = some (al, .inl (dA 0, 256, .inl g')) ∧ ∀ z, z < 256 → g' z = if st_pl (iv_wk x) z (iv_nw x) < iv_nw x then v else g z) ∧ mh_F w w' ka 1 ia)) ([.ref a, .ref al, .int v]).toArray s 0 0) (F0 m 2 ls []) := by
    intro n
    induction n with
    | zero =>
      intro j w1 g1 H locs ls hX hS hl hn9 hg1 hz hF
      refine lv_iload_n hx hb d_IN_signInto_2 rfl (lv_at hl 0 rfl) ?_
      refine lv_aload_n hx hb d_IN_signInto_3 rfl (lv_at hl 1 rfl) ?_
      refine mh_get K0 hX ((hF k i (by omega)).trans i0) f_IN_61 rfl d_IN_signInto_4 ?_
      refine mh_icmp_ge (tgt := 25) hx hb (by omega) (by omega) d_IN_signInto_7 (by decide) (fun _ => ?_) (fun z => absurd z (by omega))
      exact mh_vret K0 hr hlocks hX hS (⟨rfl, ⟨g1, hg1, by rw [show iv_nw x = j by omega]; exact hz⟩, hF⟩) (Nat.le_of_ble_eq_true rfl) (Nat.le_of_ble_eq_true rfl) d_IN_signInto_25
    | succ n ih =>
      intro j w1 g1 H locs ls hX hS hl hn9 hg1 hz hF
      have b7 := o7 j (by omega)
      refine lv_iload_n hx hb d_IN_signInto_2 rfl (lv_at hl 0 rfl) ?_
      refine lv_aload_n hx hb d_IN_signInto_3 rfl (lv_at hl 1 rfl) ?_
      refine mh_get K0 hX ((hF k i (by omega)).trans i0) f_IN_61 rfl d_IN_signInto_4 ?_
      refine mh_icmp_ge (tgt := 25) hx hb (by omega) (by omega) d_IN_signInto_7 (by decide) (fun z => absurd z (by omega)) (fun _ => ?_)
      refine lv_aload_n hx hb d_IN_signInto_10 rfl (lv_at hl 2 rfl) ?_
      refine lv_aload_n hx hb d_IN_signInto_11 rfl (lv_at hl 1 rfl) ?_
      refine mh_get K0 hX ((hF k i (by omega)).trans i0) f_IN_25 rfl d_IN_signInto_12 ?_
      refine lv_iload_n hx hb d_IN_signInto_15 rfl (lv_at hl 0 rfl) ?_
      refine mh_ialdN K0 hX ((hF (k + 5) i (by omega)).trans i5) (by omega) (by omega) d_IN_signInto_16 ?_
      refine mh_ti (y := nI (iv_wk x j)) ((hwk j (by omega)).1) ?_
      refine lv_iload_n hx hb d_IN_signInto_17 rfl (lv_at hl 3 rfl) ?_
      refine mh_iastN K0 hX hS hg1 (by omega) (by omega) d_IN_signInto_18 (fun H locs hX hS => ?_)
      have fs36 := mh_self hX
      refine lv_iinc (v := nI (j + 1)) (k := 0) (lv' := [(3, .int (nI (j + 1))), (0, .ref a), (1, .ref al), (2, .int v)]) hx hb d_IN_signInto_19 hl rfl (mh_inc j) (by decide) rfl (fun ls hl => ?_)
      refine lv_goto (tgt := 2) hx hb d_IN_signInto_22 (by decide) ?_
      refine ih (j + 1) _ _ _ _ _ hX hS hl (by omega) (mh_set_eq _ _ _ _) (fun z hz2 => ?_) (hF.set (by omega) (by omega))
      by_cases e9 : z = iv_wk x j
      · rw [e9, pk_us, if_pos ((st_pl_succ _ _ _).mpr (Or.inr rfl))]
      · rw [pk_un e9, hz z hz2]
        by_cases e8 : st_pl (iv_wk x) z j < j
        · rw [if_pos e8, if_pos ((st_pl_succ _ _ _).mpr (Or.inl e8))]
        · rw [if_neg e8, if_neg (fun q => ((st_pl_succ _ _ _).mp q).elim e8 (fun q => e9 q.symm))]
  exact LP (iv_nw x) 0 _ _ _ _ _ hX hS hl (Nat.zero_add _) hg (fun z hz => by rw [if_neg (Nat.not_lt_zero _)]) mh_F.rf
set_option maxHeartbeats 4000000 in
set_option maxRecDepth 100000 in
theorem c_IN_tell {l : Launch} {b : Nat} {dC : Nat → ClassId} {dI : Nat → Nat → Nat} {dA : Nat → ClassId} {zs : Nat → Nat} {w : mh_w} {k i a m0 : Nat} {x : st_I} (h : rI dA w k i a x) (ho : iv_ok m0 x) {q : Nat} (hq : q < 6) : mh_Met l b dC dI dA zs y_IN_tell (mh_rm 2 0 0) [.ref a, .int (nI q)] w (mh_V (some (.int (nI (sp_tell x (nI q))))) (fun w' => w' = w)) := by
  have ho_ := ho
  have hI := h
  obtain ⟨a1, a3, a4, a5, a6, a7, lo, hi, wk, hn, nn, i0, hK, i3, i4, i5, i6, i7, hlo, hwk⟩ := h
  have hK2 := hK
  obtain ⟨kb1, kfb, hk0, hk1, hkf⟩ := hK2
  obtain ⟨o1, o2, o3, o4, o5, o6, o7, o8⟩ := ho
  refine mh_ofW (cc := b_IN_tell) (n := 2) (ret := (some .int)) (hs := []) (by decide) k622 ?_
  intro p e s m below meth c hx hb hr hml hown hts hlocks hnm hT hOK hadm
  have K0 : mh_K0 p s m ([.ref a, .int (nI q)]).toArray c "MeldHost$Intention" b_IN_tell dC dI dA := ⟨hx, hb, hown, hts, hOK.1, hOK.2.1⟩
  have hX := hOK.2.2.2.2
  have hb0 := hOK.2.2.2.1
  have hS : va_S (mh_A b) s.heap s.heap [] := va_S.rf
  have hl := lv_entry ([.ref a, .int (nI q)]) (n := 2) (Nat.le_of_ble_eq_true rfl)
  rw [lg_entry_eq]
  generalize (lg_sl ([.ref a, .int (nI q)]) ++ List.replicate (2 - (lg_sl ([.ref a, .int (nI q)])).length) Slot.unset).toArray = ls at hl ⊢
  have hl : lv_has ls 2 [(0, .ref a), (1, .int (nI q))] := hl
  refine lv_iload_n hx hb d_IN_tell_0 rfl (lv_at hl 1 rfl) ?_
  have hq4 : q = 0 ∨ q = 1 ∨ q = 2 ∨ q = 3 ∨ q = 4 ∨ q = 5 := by omega
  rcases hq4 with rfl | rfl | rfl | rfl | rfl | rfl
  · skip
    refine lv_tableIn (tgt := 36) hx hb d_IN_tell_1 (by decide) (by decide) (off := 35) (by decide) (by decide) ?_
    refine lv_aload_n hx hb d_IN_tell_36 rfl (lv_at hl 0 rfl) ?_
    refine mh_get K0 hX i0 f_IN_40 rfl d_IN_tell_37 ?_
    exact mh_iret K0 hr rfl hlocks hX hS (⟨rfl, rfl⟩) (Nat.le_of_ble_eq_true rfl) (Nat.le_of_ble_eq_true rfl) d_IN_tell_40
  · skip
    refine lv_tableIn (tgt := 41) hx hb d_IN_tell_1 (by decide) (by decide) (off := 40) (by decide) (by decide) ?_
    refine lv_aload_n hx hb d_IN_tell_41 rfl (lv_at hl 0 rfl) ?_
    refine mh_get K0 hX i0 f_IN_43 rfl d_IN_tell_42 ?_
    exact mh_iret K0 hr rfl hlocks hX hS (⟨rfl, rfl⟩) (Nat.le_of_ble_eq_true rfl) (Nat.le_of_ble_eq_true rfl) d_IN_tell_45
  · skip
    refine lv_tableIn (tgt := 46) hx hb d_IN_tell_1 (by decide) (by decide) (off := 45) (by decide) (by decide) ?_
    refine lv_aload_n hx hb d_IN_tell_46 rfl (lv_at hl 0 rfl) ?_
    refine mh_get K0 hX i0 f_IN_12 rfl d_IN_tell_47 ?_
    refine mh_callR (mh_sV (rest := []) (av := []) K0 hX hk0 rfl e_KS_size l_IN_85 k624 k625 rfl rfl d_IN_tell_50) (c_KS_size hK) K0 hOK hml hl.1 e_KS_size hX hS d_IN_tell_50 (Nat.le_of_ble_eq_true rfl) (Nat.le_of_ble_eq_true rfl) (Nat.le_of_ble_eq_true rfl) (Nat.le_of_ble_eq_true rfl) (Nat.le_of_ble_eq_true rfl) (fun H locs hX hS => ?_)
    refine W.eq (g2 := F0 m 53 ls [.int (nI (pb_cnt (iv_rd x) 256))]) rfl ?_
    exact mh_iret K0 hr rfl hlocks hX hS (⟨rfl, rfl⟩) (Nat.le_of_ble_eq_true rfl) (Nat.le_of_ble_eq_true rfl) d_IN_tell_53
  · skip
    refine lv_tableIn (tgt := 54) hx hb d_IN_tell_1 (by decide) (by decide) (off := 53) (by decide) (by decide) ?_
    refine lv_aload_n hx hb d_IN_tell_54 rfl (lv_at hl 0 rfl) ?_
    refine mh_get K0 hX i0 f_IN_54 rfl d_IN_tell_55 ?_
    exact mh_iret K0 hr rfl hlocks hX hS (⟨rfl, rfl⟩) (Nat.le_of_ble_eq_true rfl) (Nat.le_of_ble_eq_true rfl) d_IN_tell_58
  · skip
    refine lv_tableIn (tgt := 59) hx hb d_IN_tell_1 (by decide) (by decide) (off := 58) (by decide) (by decide) ?_
    refine lv_aload_n hx hb d_IN_tell_59 rfl (lv_at hl 0 rfl) ?_
    refine mh_get K0 hX i0 f_IN_61 rfl d_IN_tell_60 ?_
    exact mh_iret K0 hr rfl hlocks hX hS (⟨rfl, rfl⟩) (Nat.le_of_ble_eq_true rfl) (Nat.le_of_ble_eq_true rfl) d_IN_tell_63
  · skip
    refine lv_tableOut (tgt := 64) hx hb d_IN_tell_1 (Or.inr (by decide)) (by decide) ?_
    refine lv_aload_n hx hb d_IN_tell_64 rfl (lv_at hl 0 rfl) ?_
    refine mh_get K0 hX i0 f_IN_36 rfl d_IN_tell_65 ?_
    exact mh_iret K0 hr rfl hlocks hX hS (⟨rfl, rfl⟩) (Nat.le_of_ble_eq_true rfl) (Nat.le_of_ble_eq_true rfl) d_IN_tell_68
set_option maxHeartbeats 4000000 in
set_option maxRecDepth 100000 in
theorem c_SV_init {l : Launch} {b : Nat} {dC : Nat → ClassId} {dI : Nat → Nat → Nat} {dA : Nat → ClassId} {zs : Nat → Nat} {w : mh_w} {i a : Nat} (h : w 4 i = some (a, .inr (3, [.null, .null, .int (nI 0), .int (nI 0)]))) : mh_Met l b dC dI dA zs y_SV_init (mh_rm 3 5 519) [.ref a] w (mh_V none (fun w' => rS dA w' i a (fun _ => none) (fun _ => -1) 0 0 ∧ mh_F w w' 4 6 i)) := by
  refine mh_ofW (cc := b_SV_init) (n := 1) (ret := none) (hs := []) (by decide) k64 ?_
  intro p e s m below meth c hx hb hr hml hown hts hlocks hnm hT hOK hadm
  have K0 : mh_K0 p s m ([.ref a]).toArray c "MeldHost$Server" b_SV_init dC dI dA := ⟨hx, hb, hown, hts, hOK.1, hOK.2.1⟩
  have hX := hOK.2.2.2.2
  have hb0 := hOK.2.2.2.1
  have hS : va_S (mh_A b) s.heap s.heap [] := va_S.rf
  have hl := lv_entry ([.ref a]) (n := 1) (Nat.le_of_ble_eq_true rfl)
  rw [lg_entry_eq]
  generalize (lg_sl ([.ref a]) ++ List.replicate (1 - (lg_sl ([.ref a])).length) Slot.unset).toArray = ls at hl ⊢
  have hl : lv_has ls 1 [(0, .ref a)] := hl
  refine lv_aload_n hx hb d_SV_init_0 rfl (lv_at hl 0 rfl) ?_
  refine W.objInit hx hb hown (hts _ k65) (hts _ k31) (hts _ k32) rfl (by rw [hml]; exact hl.1) rfl d_SV_init_1 (Nat.le_of_ble_eq_true rfl) (Nat.le_of_ble_eq_true rfl) ?_
  refine W.eq (g2 := F0 m 4 ls []) rfl ?_
  refine lv_aload_n hx hb d_SV_init_4 rfl (lv_at hl 0 rfl) ?_
  refine mh_new 5 i K0 hX hS hb0 (ci := 1) rfl i_NU ty_NU ty_NU_ok k66 k67 k6 (fs := [.null, .null]) (by decide) (Nat.le_of_ble_eq_true rfl) (Nat.le_of_ble_eq_true rfl) d_SV_init_5 (fun q5 H hX hS => ?_)
  have fs37 := mh_self hX
  refine lv_dup hx hb d_SV_init_8 rfl ?_
  refine mh_callV (mh_sI (rest := [.ref q5, .ref a]) (av := []) K0 e_NU_init l_SV_11 k69 rfl rfl rfl d_SV_init_9) (c_NU_init (mh_set_eq _ _ _ _)) K0 hOK hml hl.1 e_NU_init hX hS d_SV_init_9 (Nat.le_of_ble_eq_true rfl) (Nat.le_of_ble_eq_true rfl) (Nat.le_of_ble_eq_true rfl) (Nat.le_of_ble_eq_true rfl) (Nat.le_of_ble_eq_true rfl) (fun w1 H locs ⟨hN, hF⟩ hX hS => ?_)
  refine W.eq (g2 := F0 m 12 ls [.ref q5, .ref a]) rfl ?_
  refine mh_putF K0 hX hS ((hF 4 i (by omega)).trans (mh_kp h (by omega))) f_SV_12 p_3_0 hnm (fun C T N h => by cases h; rfl) rfl rfl (Nat.le_of_ble_eq_true rfl) d_SV_init_12 (fun C T N h => by cases h; exact k95) (fun H locs hX hS => ?_)
  have hX : mh_P (dC, dI) b (mh_set _ 4 i (some (a, .inr (3, [.ref q5, .null, .int (nI 0), .int (nI 0)])))) H := hX
  have fs38 := mh_self hX
  refine lv_aload_n hx hb d_SV_init_15 rfl (lv_at hl 0 rfl) ?_
  refine lv_sipush (v := nI 256) hx hb d_SV_init_16 (by decide) ?_
  refine mh_newa 9 i 0 K0 hX hS hb0 (ty := .int) rfl rfl k112 (N' := 256) (a0 := (256, .inl (fun _ => 0))) (fun cA => rfl) (by decide) (by decide) (by decide) (Nat.le_of_ble_eq_true rfl) (Nat.le_of_ble_eq_true rfl) d_SV_init_19 (fun q9 H hX hS => ?_)
  have fs39 := mh_self hX
  refine mh_putF K0 hX hS (mh_kp fs38 (by omega)) f_SV_18 p_3_1 hnm (fun C T N h => by cases h; rfl) rfl rfl (Nat.le_of_ble_eq_true rfl) d_SV_init_21 (fun C T N h => by cases h; exact k97) (fun H locs hX hS => ?_)
  have hX : mh_P (dC, dI) b (mh_set _ 4 i (some (a, .inr (3, [.ref q5, .ref q9, .int (nI 0), .int (nI 0)])))) H := hX
  have fs40 := mh_self hX
  refine lv_aload_n hx hb d_SV_init_24 rfl (lv_at hl 0 rfl) ?_
  refine mh_get K0 hX fs40 f_SV_18 rfl d_SV_init_25 ?_
  refine lv_iconst (v := (-1)) hx hb d_SV_init_28 (by decide) ?_
  refine mh_callV (mh_sS (rest := []) (av := [.ref q9, .int (-1)]) K0 e_AR_fillI l_SV_22 k93 rfl rfl d_SV_init_29) (c_AR_fillI (mh_kp fs39 (by omega)) (by decide)) K0 hOK hml hl.1 e_AR_fillI hX hS d_SV_init_29 (Nat.le_of_ble_eq_true rfl) (Nat.le_of_ble_eq_true rfl) (Nat.le_of_ble_eq_true rfl) (Nat.le_of_ble_eq_true rfl) (Nat.le_of_ble_eq_true rfl) (fun w2 H locs ⟨⟨g, hg, hz⟩, hF2⟩ hX hS => ?_)
  refine W.eq (g2 := F0 m 32 ls []) rfl ?_
  exact mh_vret K0 hr hlocks hX hS (⟨rfl, ⟨q5, q9, g, ((hF2 4 i (by omega)).trans fs40), hN.to (fun z hz => by rw [hF2 _ _ (by omega)]; repeat rw [mh_set_ne _ _ _ _ (by omega)]) (fun j _ => rfl), hg, hz⟩, (mh_F.tr (k := 4) (n := 6) (k1 := 4) (n1 := 6) ((((mh_F.tr (k := 4) (n := 6) (k1 := 4) (n1 := 6) (mh_F.rf.set (by omega) (by omega)) hF (by omega) (by omega) (by omega) (by omega)).set (by omega) (by omega)).set (by omega) (by omega)).set (by omega) (by omega)) hF2 (by omega) (by omega) (by omega) (by omega))⟩) (Nat.le_of_ble_eq_true rfl) (Nat.le_of_ble_eq_true rfl) d_SV_init_32
set_option maxHeartbeats 4000000 in
set_option maxRecDepth 100000 in
theorem c_SV_startOver {l : Launch} {b : Nat} {dC : Nat → ClassId} {dI : Nat → Nat → Nat} {dA : Nat → ClassId} {zs : Nat → Nat} {w : mh_w} {i a g0 gg : Nat} {st : Nat → Option Int64} {lw : Nat → Int32} (h : rS dA w i a st lw g0 gg) : mh_Met l b dC dI dA zs y_SV_startOver (mh_rm 3 0 0) [.ref a] w (mh_V none (fun w' => rS dA w' i a (fun _ => none) (fun _ => -1) 0 0 ∧ mh_F w w' 4 6 i)) := by
  obtain ⟨a5, a9, f, h0, hN, h9, hf⟩ := h
  have hN2 := hN
  obtain ⟨b1, b3, bf, hn0, -⟩ := hN2
  refine mh_ofW (cc := b_SV_startOver) (n := 1) (ret := none) (hs := []) (by decide) k574 ?_
  intro p e s m below meth c hx hb hr hml hown hts hlocks hnm hT hOK hadm
  have K0 : mh_K0 p s m ([.ref a]).toArray c "MeldHost$Server" b_SV_startOver dC dI dA := ⟨hx, hb, hown, hts, hOK.1, hOK.2.1⟩
  have hX := hOK.2.2.2.2
  have hb0 := hOK.2.2.2.1
  have hS : va_S (mh_A b) s.heap s.heap [] := va_S.rf
  have hl := lv_entry ([.ref a]) (n := 1) (Nat.le_of_ble_eq_true rfl)
  rw [lg_entry_eq]
  generalize (lg_sl ([.ref a]) ++ List.replicate (1 - (lg_sl ([.ref a])).length) Slot.unset).toArray = ls at hl ⊢
  have hl : lv_has ls 1 [(0, .ref a)] := hl
  refine lv_aload_n hx hb d_SV_startOver_0 rfl (lv_at hl 0 rfl) ?_
  refine mh_get K0 hX h0 f_SV_12 rfl d_SV_startOver_1 ?_
  refine mh_callV (mh_sV (rest := []) (av := []) K0 hX hn0 rfl e_NU_takeAll l_SV_48 k576 k577 rfl rfl d_SV_startOver_4) (c_NU_takeAll hN) K0 hOK hml hl.1 e_NU_takeAll hX hS d_SV_startOver_4 (Nat.le_of_ble_eq_true rfl) (Nat.le_of_ble_eq_true rfl) (Nat.le_of_ble_eq_true rfl) (Nat.le_of_ble_eq_true rfl) (Nat.le_of_ble_eq_true rfl) (fun w1 H locs ⟨hN1, hF⟩ hX hS => ?_)
  refine W.eq (g2 := F0 m 7 ls []) rfl ?_
  refine lv_aload_n hx hb d_SV_startOver_7 rfl (lv_at hl 0 rfl) ?_
  refine mh_get K0 hX ((hF 4 i (by omega)).trans h0) f_SV_18 rfl d_SV_startOver_8 ?_
  refine lv_iconst (v := (-1)) hx hb d_SV_startOver_11 (by decide) ?_
  refine mh_callV (mh_sS (rest := []) (av := [.ref a9, .int (-1)]) K0 e_AR_fillI l_SV_22 k93 rfl rfl d_SV_startOver_12) (c_AR_fillI ((hF 9 i (by omega)).trans h9) (by decide)) K0 hOK hml hl.1 e_AR_fillI hX hS d_SV_startOver_12 (Nat.le_of_ble_eq_true rfl) (Nat.le_of_ble_eq_true rfl) (Nat.le_of_ble_eq_true rfl) (Nat.le_of_ble_eq_true rfl) (Nat.le_of_ble_eq_true rfl) (fun w2 H locs ⟨⟨g, hg, hz⟩, hF2⟩ hX hS => ?_)
  refine W.eq (g2 := F0 m 15 ls []) rfl ?_
  refine lv_aload_n hx hb d_SV_startOver_15 rfl (lv_at hl 0 rfl) ?_
  refine lv_iconst (v := nI 0) hx hb d_SV_startOver_16 (by decide) ?_
  refine mh_put K0 hX hS ((hF2 4 i (by omega)).trans ((hF 4 i (by omega)).trans h0)) f_SV_38 p_3_2 rfl rfl (Nat.le_of_ble_eq_true rfl) d_SV_startOver_17 (fun H locs hX hS => ?_)
  have hX : mh_P (dC, dI) b (mh_set _ 4 i (some (a, .inr (3, [.ref a5, .ref a9, .int (nI 0), .int (nI gg)])))) H := hX
  have fs41 := mh_self hX
  refine lv_aload_n hx hb d_SV_startOver_20 rfl (lv_at hl 0 rfl) ?_
  refine lv_iconst (v := nI 0) hx hb d_SV_startOver_21 (by decide) ?_
  refine mh_put K0 hX hS fs41 f_SV_45 p_3_3 rfl rfl (Nat.le_of_ble_eq_true rfl) d_SV_startOver_22 (fun H locs hX hS => ?_)
  have hX : mh_P (dC, dI) b (mh_set _ 4 i (some (a, .inr (3, [.ref a5, .ref a9, .int (nI 0), .int (nI 0)])))) H := hX
  have fs42 := mh_self hX
  exact mh_vret K0 hr hlocks hX hS (⟨rfl, ⟨a5, a9, g, fs42, hN1.to (fun z hz => by (repeat rw [mh_set_ne _ _ _ _ (by omega)]); exact hF2 _ _ (by omega)) (fun j _ => rfl), (mh_kp (mh_kp hg (by omega)) (by omega)), hz⟩, (((mh_F.tr (k := 4) (n := 6) (k1 := 4) (n1 := 6) (mh_F.tr (k := 4) (n := 6) (k1 := 4) (n1 := 6) mh_F.rf hF (by omega) (by omega) (by omega) (by omega)) hF2 (by omega) (by omega) (by omega) (by omega)).set (by omega) (by omega)).set (by omega) (by omega))⟩) (Nat.le_of_ble_eq_true rfl) (Nat.le_of_ble_eq_true rfl) d_SV_startOver_25
set_option maxHeartbeats 4000000 in
set_option maxRecDepth 100000 in
theorem c_SV_goThrough {l : Launch} {b : Nat} {dC : Nat → ClassId} {dI : Nat → Nat → Nat} {dA : Nat → ClassId} {zs : Nat → Nat} {w : mh_w} {i a g0 gg : Nat} {st : Nat → Option Int64} {lw : Nat → Int32} (h : rS dA w i a st lw g0 gg) {k2 i2 c0 m2 : Nat} {x : st_I} (h2 : rI dA w k2 i2 c0 x) (ho2 : iv_ok m2 x) (hd : 10 ≤ k2) : mh_Met l b dC dI dA zs y_SV_goThrough (mh_rm 3 0 0) [.ref a, .ref c0] w (mh_V none (fun w' => rS dA w' i a (if iv_gd x = true then st_aw (iv_wk x) (iv_wv x) st (iv_nw x) else st) (fun z => if iv_gd x = true ∧ st_pl (iv_wk x) z (iv_nw x) < iv_nw x then nI g0 else lw z) (g0 + 1) (if iv_gd x = true then gg + 1 else gg) ∧ mh_F w w' 4 6 i)) := by
  obtain ⟨a5, a9, f, h0, hN, h9, hf⟩ := h
  have hN2 := hN
  obtain ⟨b1, b3, bf, hn0, -⟩ := hN2
  have hI := h2
  obtain ⟨c1, c3, c4, c5, c6, c7, lo2, hi2, wk2, hn2, nn2, j0, hK3, j3, j4, j5, j6, j7, hlo2, hwk2⟩ := h2
  refine mh_ofW (cc := b_SV_goThrough) (n := 2) (ret := none) (hs := []) (by decide) k552 ?_
  intro p e s m below meth c hx hb hr hml hown hts hlocks hnm hT hOK hadm
  have K0 : mh_K0 p s m ([.ref a, .ref c0]).toArray c "MeldHost$Server" b_SV_goThrough dC dI dA := ⟨hx, hb, hown, hts, hOK.1, hOK.2.1⟩
  have hX := hOK.2.2.2.2
  have hb0 := hOK.2.2.2.1
  have hS : va_S (mh_A b) s.heap s.heap [] := va_S.rf
  have hl := lv_entry ([.ref a, .ref c0]) (n := 2) (Nat.le_of_ble_eq_true rfl)
  rw [lg_entry_eq]
  generalize (lg_sl ([.ref a, .ref c0]) ++ List.replicate (2 - (lg_sl ([.ref a, .ref c0])).length) Slot.unset).toArray = ls at hl ⊢
  have hl : lv_has ls 2 [(0, .ref a), (1, .ref c0)] := hl
  refine lv_aload_n hx hb d_SV_goThrough_0 rfl (lv_at hl 1 rfl) ?_
  refine mh_get K0 hX j0 f_SV_28 rfl d_SV_goThrough_1 ?_
  refine mh_ifeqB (tgt := 37) hx hb d_SV_goThrough_4 (by decide) (fun ct => ?_) (fun cf => ?_)
  · skip
    refine lv_aload_n hx hb d_SV_goThrough_37 rfl (lv_at hl 0 rfl) ?_
    refine lv_dup hx hb d_SV_goThrough_38 rfl ?_
    refine mh_get K0 hX h0 f_SV_38 rfl d_SV_goThrough_39 ?_
    refine lv_iconst (v := nI 1) hx hb d_SV_goThrough_42 (by decide) ?_
    refine mh_addN hx hb d_SV_goThrough_43 ?_
    refine mh_put K0 hX hS h0 f_SV_38 p_3_2 rfl rfl (Nat.le_of_ble_eq_true rfl) d_SV_goThrough_44 (fun H locs hX hS => ?_)
    have hX : mh_P (dC, dI) b (mh_set _ 4 i (some (a, .inr (3, [.ref a5, .ref a9, .int (nI (g0 + 1)), .int (nI gg)])))) H := hX
    have fs43 := mh_self hX
    exact mh_vret K0 hr hlocks hX hS (⟨rfl, ⟨a5, a9, f, by rw [ct]; exact fs43, by rw [ct]; exact hN.to (fun z hz => by repeat rw [mh_set_ne _ _ _ _ (by omega)]) (fun j _ => rfl), (mh_kp h9 (by omega)), fun j hj => (hf j hj).trans (if_neg (fun q => by rw [ct] at q; cases q.1)).symm⟩, (mh_F.rf.set (by omega) (by omega))⟩) (Nat.le_of_ble_eq_true rfl) (Nat.le_of_ble_eq_true rfl) d_SV_goThrough_47
  · skip
    refine lv_aload_n hx hb d_SV_goThrough_7 rfl (lv_at hl 1 rfl) ?_
    refine lv_aload_n hx hb d_SV_goThrough_8 rfl (lv_at hl 0 rfl) ?_
    refine mh_get K0 hX h0 f_SV_12 rfl d_SV_goThrough_9 ?_
    refine mh_callV (mh_sV (rest := []) (av := [.ref a5]) K0 hX j0 rfl e_IN_writeInto l_SV_34 k554 k555 rfl rfl d_SV_goThrough_12) (c_IN_writeInto hI ho2 hN (by omega)) K0 hOK hml hl.1 e_IN_writeInto hX hS d_SV_goThrough_12 (Nat.le_of_ble_eq_true rfl) (Nat.le_of_ble_eq_true rfl) (Nat.le_of_ble_eq_true rfl) (Nat.le_of_ble_eq_true rfl) (Nat.le_of_ble_eq_true rfl) (fun w1 H locs ⟨hN1, hF⟩ hX hS => ?_)
    refine W.eq (g2 := F0 m 15 ls []) rfl ?_
    refine lv_aload_n hx hb d_SV_goThrough_15 rfl (lv_at hl 1 rfl) ?_
    refine lv_aload_n hx hb d_SV_goThrough_16 rfl (lv_at hl 0 rfl) ?_
    refine mh_get K0 hX ((hF 4 i (by omega)).trans h0) f_SV_18 rfl d_SV_goThrough_17 ?_
    refine lv_aload_n hx hb d_SV_goThrough_20 rfl (lv_at hl 0 rfl) ?_
    refine mh_get K0 hX ((hF 4 i (by omega)).trans h0) f_SV_38 rfl d_SV_goThrough_21 ?_
    refine mh_callV (mh_sV (rest := []) (av := [.ref a9, .int (nI g0)]) K0 hX ((hF k2 i2 (by omega)).trans j0) rfl e_IN_signInto l_SV_42 k560 k561 rfl rfl d_SV_goThrough_24) (c_IN_signInto (hI.to (fun z hz => hF _ _ (by omega))) ho2 ((hF 9 i (by omega)).trans h9) (by omega)) K0 hOK hml hl.1 e_IN_signInto hX hS d_SV_goThrough_24 (Nat.le_of_ble_eq_true rfl) (Nat.le_of_ble_eq_true rfl) (Nat.le_of_ble_eq_true rfl) (Nat.le_of_ble_eq_true rfl) (Nat.le_of_ble_eq_true rfl) (fun w2 H locs ⟨⟨g, hg, hz⟩, hF2⟩ hX hS => ?_)
    refine W.eq (g2 := F0 m 27 ls []) rfl ?_
    refine lv_aload_n hx hb d_SV_goThrough_27 rfl (lv_at hl 0 rfl) ?_
    refine lv_dup hx hb d_SV_goThrough_28 rfl ?_
    refine mh_get K0 hX ((hF2 4 i (by omega)).trans ((hF 4 i (by omega)).trans h0)) f_SV_45 rfl d_SV_goThrough_29 ?_
    refine lv_iconst (v := nI 1) hx hb d_SV_goThrough_32 (by decide) ?_
    refine mh_addN hx hb d_SV_goThrough_33 ?_
    refine mh_put K0 hX hS ((hF2 4 i (by omega)).trans ((hF 4 i (by omega)).trans h0)) f_SV_45 p_3_3 rfl rfl (Nat.le_of_ble_eq_true rfl) d_SV_goThrough_34 (fun H locs hX hS => ?_)
    have hX : mh_P (dC, dI) b (mh_set _ 4 i (some (a, .inr (3, [.ref a5, .ref a9, .int (nI g0), .int (nI (gg + 1))])))) H := hX
    have fs44 := mh_self hX
    refine lv_aload_n hx hb d_SV_goThrough_37 rfl (lv_at hl 0 rfl) ?_
    refine lv_dup hx hb d_SV_goThrough_38 rfl ?_
    refine mh_get K0 hX fs44 f_SV_38 rfl d_SV_goThrough_39 ?_
    refine lv_iconst (v := nI 1) hx hb d_SV_goThrough_42 (by decide) ?_
    refine mh_addN hx hb d_SV_goThrough_43 ?_
    refine mh_put K0 hX hS fs44 f_SV_38 p_3_2 rfl rfl (Nat.le_of_ble_eq_true rfl) d_SV_goThrough_44 (fun H locs hX hS => ?_)
    have hX : mh_P (dC, dI) b (mh_set _ 4 i (some (a, .inr (3, [.ref a5, .ref a9, .int (nI (g0 + 1)), .int (nI (gg + 1))])))) H := hX
    have fs45 := mh_self hX
    exact mh_vret K0 hr hlocks hX hS (⟨rfl, ⟨a5, a9, g, by rw [cf]; exact fs45, by rw [cf]; exact hN1.to (fun z hz => by (repeat rw [mh_set_ne _ _ _ _ (by omega)]); exact hF2 _ _ (by omega)) (fun j _ => rfl), (mh_kp (mh_kp hg (by omega)) (by omega)), fun j hj => by rw [hz j hj, cf, hf j hj]; simp⟩, (((mh_F.tr (k := 4) (n := 6) (k1 := 4) (n1 := 6) (mh_F.tr (k := 4) (n := 6) (k1 := 4) (n1 := 6) mh_F.rf hF (by omega) (by omega) (by omega) (by omega)) hF2 (by omega) (by omega) (by omega) (by omega)).set (by omega) (by omega)).set (by omega) (by omega))⟩) (Nat.le_of_ble_eq_true rfl) (Nat.le_of_ble_eq_true rfl) d_SV_goThrough_47
end
section
/-! ARRAYS OF OBJECTS THAT A LIST HOLDS -/
abbrev mh_E (Φ : Nat → mh_w → Prop) : Outcome → mh_w → Prop := fun o w' => ∃ q : Nat, o = .returned (some (.ref q)) ∧ Φ q w'
/-- each element is an intention that the world knows -/
def mh_el (w : mh_w) (n : Nat) (f : Nat → Option Nat) : Prop := ∀ j y : Nat, j < n → f j = some y → ∃ (k i : Nat) (fs : List Value), 10 ≤ k ∧ w k i = some (y, .inr (2, fs))
theorem mh_el.to {w w' : mh_w} {n : Nat} {f : Nat → Option Nat} (h : mh_el w n f) (hw : ∀ k i, 10 ≤ k → w' k i = w k i) : mh_el w' n f := fun j y hj hy => by
  obtain ⟨k, i, fs, h1, h2⟩ := h j y hj hy
  exact ⟨k, i, fs, h1, (hw k i h1).trans h2⟩
section MHL
variable {p : Program} {l : Launch} {e : Env} {R : Room} {s : State} {m : MethodId} {args : Array Value} {below : List Frame} {meth : Method} {c : Code} {H : Heap} {locs : List Loc} {cells slots : Nat} {Q : State → Prop}
variable {cc : ByteArray} {pc : Nat} {ls : Array Slot} {rest : List Value} {own : String} {b : Nat} {dC : Nat → ClassId} {dI : Nat → Nat → Nat} {dA : Nat → ClassId} {zs : Nat → Nat} {w w0 : mh_w} {k i a : Nat}
theorem mh_copyq (K0 : mh_K0 p s m args c own cc dC dI dA) {nL : Nat} (hml : c.maxLocals = nL) (hsz : ls.size = nL) {index : Nat} (hlink : Cond.methodLink own index arraycopyName ∈ mh_TB) (hnat : Cond.native arraycopyName ∈ mh_TB) (hstat : Cond.static arraycopyName ∈ mh_TB) (hini : Cond.initialized "java/lang/System" ∈ mh_TB) (hca : Cond.castable "MeldHost$Intention" "java/lang/Object" ∈ mh_NW) (hX : mh_P (dC, dI) b w H) (hS : va_S (mh_A b) s.heap H locs)
    {k0 i0 a0 n0 n1 : Nat} {f g : Nat → Option Nat} (h0 : w k0 i0 = some (a0, .inl (dA 3, n0, .inr (.inr (.inr (.inr f)))))) (h1 : w k i = some (a, .inl (dA 3, n1, .inr (.inr (.inr (.inr g)))))) (hel : mh_el w n0 f) {n : Nat} (hn0 : n ≤ n0) (hn1 : n ≤ n1) (hn : n < 2 ^ 31) (hframes : 1 ≤ R.frames) (hlocals : (rest.map fun v => v.category).sum + (nativeFrameWords "java/lang/System" "arraycopy" 5 + 11) ≤ R.locals) (hdg : decode cc pc = .ok (.invokestatic index, 3))
    (kk : ∀ (H1 : Heap) (locs1 : List Loc), mh_P (dC, dI) b (mh_set w k i (some (a, .inl (dA 3, n1, .inr (.inr (.inr (.inr (va_cpy f g 0 0 n)))))))) H1 → va_S (mh_A b) s.heap H1 locs1 → W p l e R s m args below meth c H1 locs1 cells slots Q (F0 m (pc + 3) ls rest)) : W p l e R s m args below meth c H locs cells slots Q (F0 m pc ls (.int (nI n) :: .int (nI 0) :: .ref a :: .int (nI 0) :: .ref a0 :: rest)) := by
  obtain ⟨hx, hb, hown, hts, hN, hK⟩ := K0
  intro T hT X
  have c0 : H[a0]? = some (vp_cell (dA 3) (n0, .inr (.inr (.inr (.inr f))))) := hX.at h0
  have c1 : H[a]? = some (vp_cell (dA 3) (n1, .inr (.inr (.inr (.inr g))))) := hX.at h1
  have z0 : (nI 0).toNatClampNeg = 0 := nI_clamp (by decide)
  have zn : (nI n).toNatClampNeg = n := nI_clamp hn
  have t0 : (nI 0).toInt = 0 := nI_toInt (n := 0) (by decide)
  have tn : (nI n).toInt = n := nI_toInt hn
  have hcls := (hK.1 2 _ rfl).2
  obtain ⟨kA, comp, r1, r2, r3, -⟩ := (hK.2 3 _ rfl).2
  obtain ⟨cI, tO, f1, f2, f3⟩ := Cond.castable_spec (va_Nw.use (A := args) rfl (hN _ hca))
  cases hcls.1.symm.trans f1
  cases r3.symm.trans f2
  obtain ⟨kE, hkE, -⟩ := Vm.findClass_spec r3
  obtain ⟨kC, hkC, -⟩ := hcls.2
  obtain ⟨-, q0, e0, cm0, g0⟩ := (hK.2 3 _ rfl).1 n0 (fun j => va_rf (f j))
  obtain ⟨-, q1, e1, cm1, g1⟩ := (hK.2 3 _ rfl).1 n1 (fun j => va_rf (g j))
  obtain ⟨vm', X', step⟩ := X.arraycopy hx hown (hts _ hlink) (hts _ hnat) (hts _ hstat) (hts _ hini) (src := a0) (dst := a) (cs := vp_cell (dA 3) (n0, .inr (.inr (.inr (.inr f))))) (cd := vp_cell (dA 3) (n1, .inr (.inr (.inr (.inr g))))) (srcPos := nI 0) (destPos := nI 0) (n := nI n) (by rw [hT]; exact c0) (by rw [hT]; exact c1)
    (fun _ h => by cases h) (fun _ h => by cases h) (fun h => by cases h) (fun h => by cases h) e0 e1 g0 g1 rfl (nI_pos (by decide)) (nI_pos (by decide)) (nI_pos hn)
    (by rw [t0, tn]; show ¬ _ > ((arrV (dA 3) n0 (fun j => va_rf (f j))).slots.size : Int); rw [arrV_size]; omega)
    (by rw [t0, tn]; show ¬ _ > ((arrV (dA 3) n1 (fun j => va_rf (g j))).slots.size : Int); rw [arrV_size]; omega)
    (fun vm₁ hal i hi => by
      rw [zn] at hi
      have e : (vp_cell (dA 3) (n0, .inr (.inr (.inr (.inr f))))).slots.getD ((nI 0).toNatClampNeg + i) .null = va_rf (f i) := by
        rw [z0, Nat.zero_add]
        show (arrV (dA 3) n0 (fun j => va_rf (f j))).slots.getD _ _ = _
        rw [Array.getD_eq_getD_getElem?, arrV_read _ _ (by omega)]
        rfl
      rw [e]
      cases hy : f i with
      | none => exact ⟨rfl, trivial⟩
      | some y =>
        obtain ⟨ke, ie, fse, -, hwe⟩ := hel i y (by omega) hy
        obtain ⟨r', hr', cellV, v1, v2, v3, -⟩ := hX.at hwe
        cases e1.symm.trans r1
        cases g1.symm.trans r2
        obtain ⟨kC', hkC', -⟩ := hal.2.2 _ _ hkC
        obtain ⟨kE', hkE', -⟩ := hal.2.2 _ _ hkE
        refine ⟨rfl, cellV, (show T.heap[y]? = some cellV by rw [hT]; exact v1), (fun q h => by rw [h] at v3; cases v3), ⟨kC', by rw [v2]; exact hkC'⟩, ⟨kE', hkE'⟩, ?_⟩
        show vm₁.assignable _ _ = true
        rw [hal.assignable, v2]
        exact f3)
    (g := F0 m pc ls (.int (nI n) :: .int (nI 0) :: .ref a :: .int (nI 0) :: .ref a0 :: rest)) rfl (by show ls.size = _; rw [hsz, hml]) (rest := rest) rfl (by rw [hb]; exact hdg) hframes (by show 2 * 0 + _ + _ ≤ _; omega)
  have ec : copied (vp_cell (dA 3) (n0, .inr (.inr (.inr (.inr f))))) (vp_cell (dA 3) (n1, .inr (.inr (.inr (.inr g))))) (nI 0) (nI 0) (nI n) = vp_cell (dA 3) (n1, .inr (.inr (.inr (.inr (va_cpy f g 0 0 n))))) := by
    have := va_copied (fun z => va_rf z) (dA 3) (dA 3) (n0 := n0) (n1 := n1) (sp := (nI 0).toNatClampNeg) (dp := (nI 0).toNatClampNeg) (n := (nI n).toNatClampNeg) f g (by rw [z0, zn]; omega)
    have e9 : va_cpy f g (nI 0).toNatClampNeg (nI 0).toNatClampNeg (nI n).toNatClampNeg = va_cpy f g 0 0 n := by rw [z0, zn]
    rw [← e9, vp_cell_q, vp_cell_q, vp_cell_q]
    exact this
  rw [ec] at X' step
  have hl : a < H.size := (Array.getElem?_eq_some_iff.mp c1).1
  have hheap : ((T.setVm vm').setCell a (vp_cell (dA 3) (n1, .inr (.inr (.inr (.inr (va_cpy f g 0 0 n))))))).heap = H.setIfInBounds a (vp_cell (dA 3) (n1, .inr (.inr (.inr (.inr (va_cpy f g 0 0 n)))))) := by rw [← hT]; rfl
  have oq : ∀ q : Nat, q ≠ a → (H.setIfInBounds a (vp_cell (dA 3) (n1, .inr (.inr (.inr (.inr (va_cpy f g 0 0 n)))))))[q]? = H[q]? := fun q hq => by simp [Array.getElem?_setIfInBounds, Ne.symm hq]
  obtain ⟨t, a1, b1⟩ := kk _ _ (hX.put h1 (show (H.setIfInBounds a _)[a]? = some _ by simp [Array.getElem?_setIfInBounds, hl]) oq) ⟨by simp; exact hS.1, fun q g1 g2 => by
      rw [oq q (fun e => g2 (by rw [e]; exact hX.le h1))]
      exact hS.2.1 q g1 g2, fun q hq => by
      rcases List.mem_append.mp hq with h | h
      · exact hS.2.2 q h
      · obtain ⟨z, -, hz⟩ := List.mem_map.mp h
        rw [← hz]
        exact hX.le h1⟩ _ hheap X'
  exact ⟨t, step t a1, b1⟩
/-- an intention goes into an array of objects -/
theorem mh_aastO (hca : Cond.castable "MeldHost$Intention" "java/lang/Object" ∈ mh_NW) {k2 i2 v : Nat} {vs : List Value} (K0 : mh_K0 p s m args c own cc dC dI dA) (hX : mh_P (dC, dI) b w H) (hS : va_S (mh_A b) s.heap H locs) {n : Nat} {f : Nat → Option Nat} (h : w k i = some (a, .inl (dA 3, n, .inr (.inr (.inr (.inr f)))))) (hv : w k2 i2 = some (v, .inr (2, vs))) {j : Nat} (hj : j < n) (hn : n < 2 ^ 31) (hdg : decode cc pc = .ok (.aastore, 1))
    (kk : ∀ (H1 : Heap) (locs1 : List Loc), mh_P (dC, dI) b (mh_set w k i (some (a, .inl (dA 3, n, .inr (.inr (.inr (.inr (va_up f j (some v))))))))) H1 → va_S (mh_A b) s.heap H1 locs1 → W p l e R s m args below meth c H1 locs1 cells slots Q (F0 m (pc + 1) ls rest)) : W p l e R s m args below meth c H locs cells slots Q (F0 m pc ls (.ref v :: .int (nI j) :: .ref a :: rest)) := by
  have hcl : (nI j).toNatClampNeg = j := nI_clamp (by omega)
  obtain ⟨r', hr', cellV, g1, g2, g3, -⟩ := hX.at hv
  have hcls := (K0.2.2.2.2.2.1 2 _ rfl).2
  obtain ⟨kA, comp, k1, k2, k3, -⟩ := (K0.2.2.2.2.2.2 3 _ rfl).2
  obtain ⟨kE, hkE, -⟩ := Vm.findClass_spec k3
  obtain ⟨c0, t1, f1, f2, f3⟩ := Cond.castable_spec (va_Nw.use (A := args) rfl (K0.2.2.2.2.1 _ hca))
  cases hcls.1.symm.trans f1
  cases k3.symm.trans f2
  obtain ⟨kC, hkC, -⟩ := hcls.2
  refine W.aast K0.1 K0.2.1 (hX.at h) (fun q h => by cases h) (fun h => by cases h) k1 k2 rfl hkE ⟨nI_pos (by omega), by show _ < (arrV _ _ _).slots.size; rw [arrV_size, hcl]; exact hj⟩ g1 (fun q h => by rw [g3] at h; cases h) (by rw [g2]; exact hkC) (by rw [g2]; exact f3) rfl rfl hdg fun H1 e z oq => ?_
  refine kk H1 _ (hX.put h ?_ oq) (hS.put z oq (hX.le h))
  show H1[a]? = some (vp_cell _ _)
  rw [e]
  rw [vp_cell_q, vp_cell_q, arrV_store, hcl]
  congr 2
  funext q
  by_cases hq : q = j
  · subst hq
    simp [updV, va_up, va_rf]
  · simp [updV, va_up, hq]
/-- checkcast to the object's own class -/
theorem mh_cast (K0 : mh_K0 p s m args c own cc dC dI dA) (hX : mh_P (dC, dI) b w H) {ci : Nat} {fs : List Value} (h : w k i = some (a, .inr (ci, fs))) {vc : vw_C} (hc : classes[ci]? = some vc) {index : Nat} (hlink : Cond.classLink own index vc.1 ∈ mh_TB) (hdg : decode cc pc = .ok (.checkcast index, 3))
    (kk : W p l e R s m args below meth c H locs cells slots Q (F0 m (pc + 3) ls (.ref a :: rest))) : W p l e R s m args below meth c H locs cells slots Q (F0 m pc ls (.ref a :: rest)) :=
  va_castE K0.1 K0.2.1 K0.2.2.1 (K0.2.2.2.1 _ hlink) (va_recv (K0.2.2.2.2.2) (hX.get h) hc (q0 := 0) rfl) hdg kk
/-- the class of an array of objects is a class, as its instructions find it -/
theorem mh_arrO (K0 : mh_K0 p s m args c own cc dC dI dA) (hX : mh_P (dC, dI) b w H) {n : Nat} {f : Nat → Option Nat} (h : w k i = some (a, .inl (dA 3, n, .inr (.inr (.inr (.inr f)))))) : ∃ cell : Cell, H[a]? = some cell ∧ cell.vm.isStatics = false ∧ s.vm.findClass "[Ljava/lang/Object;" = some cell.cls := by
  have c0 : H[a]? = some (vp_cell (dA 3) (n, .inr (.inr (.inr (.inr f))))) := hX.at h
  obtain ⟨kA, comp, r1, r2, r3, r4⟩ := (K0.2.2.2.2.2.2 3 _ rfl).2
  exact ⟨_, c0, rfl, r4⟩
/-- a call that returns an object -/
theorem mh_callE {y : MethodName} {rm : Room} {av st0 : List Value} {Φ : Nat → mh_w → Prop} (site : mh_Site p l e R s m args below meth c H locs cells slots (F0 m pc ls st0) rest y av) (hM : mh_Met l b dC dI dA zs y rm av w (mh_E Φ)) (K0 : mh_K0 p s m args c own cc dC dI dA) (hOK : mh_OK b dC dI dA zs w0 s)
    {nL : Nat} (hml : c.maxLocals = nL) (hsz : ls.size = nL) {cY : ByteArray} {nY : Nat} {rY : Option FieldType} {hsY : List (Nat × Nat × Nat × Nat)} {n : Nat} (C0 : mh_cee y cY nY rY hsY n) (hX : mh_P (dC, dI) b w H) (hS : va_S (mh_A b) s.heap H locs) {ig : Instr} (hdg : decode cc pc = .ok (ig, 3))
    (hfr : rm.frames + 1 ≤ R.frames) (hW9 : (rest.map fun v => v.category).sum ≤ 8) (hlo : 8 + (nY + 11) + rm.locals ≤ R.locals) (h4 : cells + rm.cells ≤ R.cells) (h5 : slots + rm.slots ≤ R.slots)
    (kk : ∀ (q : Nat) (w' : mh_w) (H1 : Heap) (locs1 : List Loc), Φ q w' → mh_P (dC, dI) b w' H1 → va_S (mh_A b) s.heap H1 locs1 → W p l e R s m args below meth c H1 locs1 (cells + rm.cells) (slots + rm.slots) Q (F0 m (pc + 3) ls (.ref q :: rest))) :
    W p l e R s m args below meth c H locs cells slots Q (F0 m pc ls st0) := by
  refine mh_call site hM K0 hOK hml hsz C0 hX hS hdg hfr hW9 hlo h4 h5 (fun q w' H1 locs1 hP => ?_) (fun v' w' H1 locs1 hP hX' hS' => ?_)
  · obtain ⟨q', e1, -⟩ := hP
    cases e1
  · obtain ⟨q', e1, e2⟩ := hP
    cases e1
    exact kk q' w' H1 locs1 e2 hX' hS'
end MHL
/-! THE LOG AS A LIST: ArrayList at (1, 0), its array somewhere in kind 2 -/
def rA (dA : Nat → ClassId) (zs : Nat → Nat) (w : mh_w) (ar n : Nat) (f : Nat → Option Nat) : Prop :=
  (n = 0 ∧ ar = zs 0) ∨ ∃ (ix cap : Nat) (g : Nat → Option Nat), n ≤ cap ∧ 0 < cap ∧ cap ≤ 600 ∧ w 2 ix = some (ar, .inl (dA 3, cap, .inr (.inr (.inr (.inr g))))) ∧ ∀ j, j < n → g j = f j
def rL (dA : Nat → ClassId) (zs : Nat → Nat) (w : mh_w) (a n : Nat) (f : Nat → Option Nat) : Prop :=
  ∃ (mc : Int32) (ar : Nat), w 1 0 = some (a, .inr (5, [.int mc, .ref ar, .int (nI n)])) ∧ rA dA zs w ar n f
theorem rL.to {dA : Nat → ClassId} {zs : Nat → Nat} {w w' : mh_w} {a n : Nat} {f f' : Nat → Option Nat} (h : rL dA zs w a n f) (h1 : w' 1 0 = w 1 0) (h2 : ∀ i, w' 2 i = w 2 i) (h3 : ∀ j, j < n → f j = f' j) : rL dA zs w' a n f' := by
  obtain ⟨mc, ar, e1, e2⟩ := h
  refine ⟨mc, ar, h1.trans e1, ?_⟩
  rcases e2 with e | ⟨ix, cap, g, g1, g2, g3, g4, g5⟩
  · exact Or.inl e
  · exact Or.inr ⟨ix, cap, g, g1, g2, g3, (h2 ix).trans g4, fun j hj => (g5 j hj).trans (h3 j hj)⟩
theorem nI_shr1 {n : Nat} (h : n < 2 ^ 31) : nI n >>> nI 1 = nI (n / 2) := pk_shrN h (nI 1) 1 (by decide)
theorem f_AB_7 : mh_fl "java/util/AbstractList" 7 5 0 := ⟨_, _, _, "java/util/AbstractList", rfl, by decide, i_AL, Or.inl k49, Or.inl rfl⟩
theorem d_AC_init_0 : decode b_AC_init 0 = .ok (.aload_n 0, 1) := by decide +kernel
theorem d_AC_init_1 : decode b_AC_init 1 = .ok (.invokespecial 1, 3) := by decide +kernel
theorem d_AC_init_4 : decode b_AC_init 4 = .ok (.return_, 1) := by decide +kernel
theorem d_AB_init_0 : decode b_AB_init 0 = .ok (.aload_n 0, 1) := by decide +kernel
theorem d_AB_init_1 : decode b_AB_init 1 = .ok (.invokespecial 1, 3) := by decide +kernel
theorem d_AB_init_4 : decode b_AB_init 4 = .ok (.aload_n 0, 1) := by decide +kernel
theorem d_AB_init_5 : decode b_AB_init 5 = .ok (.iconst 0, 1) := by decide +kernel
theorem d_AB_init_6 : decode b_AB_init 6 = .ok (.putfield 7, 3) := by decide +kernel
theorem d_AB_init_9 : decode b_AB_init 9 = .ok (.return_, 1) := by decide +kernel
theorem d_AL_init_0 : decode b_AL_init 0 = .ok (.aload_n 0, 1) := by decide +kernel
theorem d_AL_init_1 : decode b_AL_init 1 = .ok (.invokespecial 1, 3) := by decide +kernel
theorem d_AL_init_4 : decode b_AL_init 4 = .ok (.aload_n 0, 1) := by decide +kernel
theorem d_AL_init_5 : decode b_AL_init 5 = .ok (.getstatic 39, 3) := by decide +kernel
theorem d_AL_init_8 : decode b_AL_init 8 = .ok (.putfield 9, 3) := by decide +kernel
theorem d_AL_init_11 : decode b_AL_init 11 = .ok (.return_, 1) := by decide +kernel
theorem d_AL_size_0 : decode b_AL_size 0 = .ok (.aload_n 0, 1) := by decide +kernel
theorem d_AL_size_1 : decode b_AL_size 1 = .ok (.getfield 48, 3) := by decide +kernel
theorem d_AL_size_4 : decode b_AL_size 4 = .ok (.ireturn, 1) := by decide +kernel
theorem d_PR_checkIndex_0 : decode b_PR_checkIndex 0 = .ok (.iload_n 0, 1) := by decide +kernel
theorem d_PR_checkIndex_1 : decode b_PR_checkIndex 1 = .ok (.ifCond .lt 8, 3) := by decide +kernel
theorem d_PR_checkIndex_4 : decode b_PR_checkIndex 4 = .ok (.iload_n 0, 1) := by decide +kernel
theorem d_PR_checkIndex_5 : decode b_PR_checkIndex 5 = .ok (.iload_n 1, 1) := by decide +kernel
theorem d_PR_checkIndex_6 : decode b_PR_checkIndex 6 = .ok (.if_icmp .lt 10, 3) := by decide +kernel
theorem d_PR_checkIndex_16 : decode b_PR_checkIndex 16 = .ok (.iload_n 0, 1) := by decide +kernel
theorem d_PR_checkIndex_17 : decode b_PR_checkIndex 17 = .ok (.ireturn, 1) := by decide +kernel
theorem d_OB_checkIndex_0 : decode b_OB_checkIndex 0 = .ok (.iload_n 0, 1) := by decide +kernel
theorem d_OB_checkIndex_1 : decode b_OB_checkIndex 1 = .ok (.iload_n 1, 1) := by decide +kernel
theorem d_OB_checkIndex_2 : decode b_OB_checkIndex 2 = .ok (.aconst_null, 1) := by decide +kernel
theorem d_OB_checkIndex_3 : decode b_OB_checkIndex 3 = .ok (.invokestatic 105, 3) := by decide +kernel
theorem d_OB_checkIndex_6 : decode b_OB_checkIndex 6 = .ok (.ireturn, 1) := by decide +kernel
theorem d_AL_elementData_0 : decode b_AL_elementData 0 = .ok (.aload_n 0, 1) := by decide +kernel
theorem d_AL_elementData_1 : decode b_AL_elementData 1 = .ok (.getfield 9, 3) := by decide +kernel
theorem d_AL_elementData_4 : decode b_AL_elementData 4 = .ok (.iload_n 1, 1) := by decide +kernel
theorem d_AL_elementData_5 : decode b_AL_elementData 5 = .ok (.aaload, 1) := by decide +kernel
theorem d_AL_elementData_6 : decode b_AL_elementData 6 = .ok (.areturn, 1) := by decide +kernel
theorem d_AL_get_0 : decode b_AL_get 0 = .ok (.iload_n 1, 1) := by decide +kernel
theorem d_AL_get_1 : decode b_AL_get 1 = .ok (.aload_n 0, 1) := by decide +kernel
theorem d_AL_get_2 : decode b_AL_get 2 = .ok (.getfield 48, 3) := by decide +kernel
theorem d_AL_get_5 : decode b_AL_get 5 = .ok (.invokestatic 118, 3) := by decide +kernel
theorem d_AL_get_8 : decode b_AL_get 8 = .ok (.pop, 1) := by decide +kernel
theorem d_AL_get_9 : decode b_AL_get 9 = .ok (.aload_n 0, 1) := by decide +kernel
theorem d_AL_get_10 : decode b_AL_get 10 = .ok (.iload_n 1, 1) := by decide +kernel
theorem d_AL_get_11 : decode b_AL_get 11 = .ok (.invokevirtual 123, 3) := by decide +kernel
theorem d_AL_get_14 : decode b_AL_get 14 = .ok (.areturn, 1) := by decide +kernel
theorem d_AS_newLength_0 : decode b_AS_newLength 0 = .ok (.iload_n 0, 1) := by decide +kernel
theorem d_AS_newLength_1 : decode b_AS_newLength 1 = .ok (.iload_n 1, 1) := by decide +kernel
theorem d_AS_newLength_2 : decode b_AS_newLength 2 = .ok (.iload_n 2, 1) := by decide +kernel
theorem d_AS_newLength_3 : decode b_AS_newLength 3 = .ok (.invokestatic 194, 3) := by decide +kernel
theorem d_AS_newLength_6 : decode b_AS_newLength 6 = .ok (.iadd, 1) := by decide +kernel
theorem d_AS_newLength_7 : decode b_AS_newLength 7 = .ok (.istore_n 3, 1) := by decide +kernel
theorem d_AS_newLength_8 : decode b_AS_newLength 8 = .ok (.iconst 0, 1) := by decide +kernel
theorem d_AS_newLength_9 : decode b_AS_newLength 9 = .ok (.iload_n 3, 1) := by decide +kernel
theorem d_AS_newLength_10 : decode b_AS_newLength 10 = .ok (.if_icmp .ge 11, 3) := by decide +kernel
theorem d_AS_newLength_13 : decode b_AS_newLength 13 = .ok (.iload_n 3, 1) := by decide +kernel
theorem d_AS_newLength_14 : decode b_AS_newLength 14 = .ok (.ldc 200, 2) := by decide +kernel
theorem d_AS_newLength_16 : decode b_AS_newLength 16 = .ok (.if_icmp .gt 5, 3) := by decide +kernel
theorem d_AS_newLength_19 : decode b_AS_newLength 19 = .ok (.iload_n 3, 1) := by decide +kernel
theorem d_AS_newLength_20 : decode b_AS_newLength 20 = .ok (.ireturn, 1) := by decide +kernel
theorem d_AR_copyOf3_0 : decode b_AR_copyOf3 0 = .ok (.aload_n 2, 1) := by decide +kernel
theorem d_AR_copyOf3_1 : decode b_AR_copyOf3 1 = .ok (.ldc 110, 2) := by decide +kernel
theorem d_AR_copyOf3_3 : decode b_AR_copyOf3 3 = .ok (.if_acmp .ne 10, 3) := by decide +kernel
theorem d_AR_copyOf3_6 : decode b_AR_copyOf3 6 = .ok (.iload_n 1, 1) := by decide +kernel
theorem d_AR_copyOf3_7 : decode b_AR_copyOf3 7 = .ok (.anewarray 2, 3) := by decide +kernel
theorem d_AR_copyOf3_10 : decode b_AR_copyOf3 10 = .ok (.goto 14, 3) := by decide +kernel
theorem d_AR_copyOf3_24 : decode b_AR_copyOf3 24 = .ok (.astore_n 3, 1) := by decide +kernel
theorem d_AR_copyOf3_25 : decode b_AR_copyOf3 25 = .ok (.aload_n 0, 1) := by decide +kernel
theorem d_AR_copyOf3_26 : decode b_AR_copyOf3 26 = .ok (.iconst 0, 1) := by decide +kernel
theorem d_AR_copyOf3_27 : decode b_AR_copyOf3 27 = .ok (.aload_n 3, 1) := by decide +kernel
theorem d_AR_copyOf3_28 : decode b_AR_copyOf3 28 = .ok (.iconst 0, 1) := by decide +kernel
theorem d_AR_copyOf3_29 : decode b_AR_copyOf3 29 = .ok (.aload_n 0, 1) := by decide +kernel
theorem d_AR_copyOf3_30 : decode b_AR_copyOf3 30 = .ok (.arraylength, 1) := by decide +kernel
theorem d_AR_copyOf3_31 : decode b_AR_copyOf3 31 = .ok (.iload_n 1, 1) := by decide +kernel
theorem d_AR_copyOf3_32 : decode b_AR_copyOf3 32 = .ok (.invokestatic 304, 3) := by decide +kernel
theorem d_AR_copyOf3_35 : decode b_AR_copyOf3 35 = .ok (.invokestatic 150, 3) := by decide +kernel
theorem d_AR_copyOf3_38 : decode b_AR_copyOf3 38 = .ok (.aload_n 3, 1) := by decide +kernel
theorem d_AR_copyOf3_39 : decode b_AR_copyOf3 39 = .ok (.areturn, 1) := by decide +kernel
theorem d_AR_copyOf2_0 : decode b_AR_copyOf2 0 = .ok (.aload_n 0, 1) := by decide +kernel
theorem d_AR_copyOf2_1 : decode b_AR_copyOf2 1 = .ok (.iload_n 1, 1) := by decide +kernel
theorem d_AR_copyOf2_2 : decode b_AR_copyOf2 2 = .ok (.aload_n 0, 1) := by decide +kernel
theorem d_AR_copyOf2_3 : decode b_AR_copyOf2 3 = .ok (.invokevirtual 86, 3) := by decide +kernel
theorem d_AR_copyOf2_6 : decode b_AR_copyOf2 6 = .ok (.invokestatic 300, 3) := by decide +kernel
theorem d_AR_copyOf2_9 : decode b_AR_copyOf2 9 = .ok (.areturn, 1) := by decide +kernel
theorem d_AL_grow1_0 : decode b_AL_grow1 0 = .ok (.aload_n 0, 1) := by decide +kernel
theorem d_AL_grow1_1 : decode b_AL_grow1 1 = .ok (.getfield 9, 3) := by decide +kernel
theorem d_AL_grow1_4 : decode b_AL_grow1 4 = .ok (.arraylength, 1) := by decide +kernel
theorem d_AL_grow1_5 : decode b_AL_grow1 5 = .ok (.istore_n 2, 1) := by decide +kernel
theorem d_AL_grow1_6 : decode b_AL_grow1 6 = .ok (.iload_n 2, 1) := by decide +kernel
theorem d_AL_grow1_7 : decode b_AL_grow1 7 = .ok (.ifCond .gt 13, 3) := by decide +kernel
theorem d_AL_grow1_10 : decode b_AL_grow1 10 = .ok (.aload_n 0, 1) := by decide +kernel
theorem d_AL_grow1_11 : decode b_AL_grow1 11 = .ok (.getfield 9, 3) := by decide +kernel
theorem d_AL_grow1_14 : decode b_AL_grow1 14 = .ok (.getstatic 39, 3) := by decide +kernel
theorem d_AL_grow1_17 : decode b_AL_grow1 17 = .ok (.if_acmp .eq 28, 3) := by decide +kernel
theorem d_AL_grow1_45 : decode b_AL_grow1 45 = .ok (.aload_n 0, 1) := by decide +kernel
theorem d_AL_grow1_46 : decode b_AL_grow1 46 = .ok (.bipush 10, 2) := by decide +kernel
theorem d_AL_grow1_48 : decode b_AL_grow1 48 = .ok (.iload_n 1, 1) := by decide +kernel
theorem d_AL_grow1_49 : decode b_AL_grow1 49 = .ok (.invokestatic 79, 3) := by decide +kernel
theorem d_AL_grow1_52 : decode b_AL_grow1 52 = .ok (.anewarray 7, 3) := by decide +kernel
theorem d_AL_grow1_55 : decode b_AL_grow1 55 = .ok (.dup_x1, 1) := by decide +kernel
theorem d_AL_grow1_56 : decode b_AL_grow1 56 = .ok (.putfield 9, 3) := by decide +kernel
theorem d_AL_grow1_59 : decode b_AL_grow1 59 = .ok (.areturn, 1) := by decide +kernel
theorem d_AL_grow1_20 : decode b_AL_grow1 20 = .ok (.iload_n 2, 1) := by decide +kernel
theorem d_AL_grow1_21 : decode b_AL_grow1 21 = .ok (.iload_n 1, 1) := by decide +kernel
theorem d_AL_grow1_22 : decode b_AL_grow1 22 = .ok (.iload_n 2, 1) := by decide +kernel
theorem d_AL_grow1_23 : decode b_AL_grow1 23 = .ok (.isub, 1) := by decide +kernel
theorem d_AL_grow1_24 : decode b_AL_grow1 24 = .ok (.iload_n 2, 1) := by decide +kernel
theorem d_AL_grow1_25 : decode b_AL_grow1 25 = .ok (.iconst 1, 1) := by decide +kernel
theorem d_AL_grow1_26 : decode b_AL_grow1 26 = .ok (.ishr, 1) := by decide +kernel
theorem d_AL_grow1_27 : decode b_AL_grow1 27 = .ok (.invokestatic 73, 3) := by decide +kernel
theorem d_AL_grow1_30 : decode b_AL_grow1 30 = .ok (.istore_n 3, 1) := by decide +kernel
theorem d_AL_grow1_31 : decode b_AL_grow1 31 = .ok (.aload_n 0, 1) := by decide +kernel
theorem d_AL_grow1_32 : decode b_AL_grow1 32 = .ok (.aload_n 0, 1) := by decide +kernel
theorem d_AL_grow1_33 : decode b_AL_grow1 33 = .ok (.getfield 9, 3) := by decide +kernel
theorem d_AL_grow1_36 : decode b_AL_grow1 36 = .ok (.iload_n 3, 1) := by decide +kernel
theorem d_AL_grow1_37 : decode b_AL_grow1 37 = .ok (.invokestatic 66, 3) := by decide +kernel
theorem d_AL_grow1_40 : decode b_AL_grow1 40 = .ok (.dup_x1, 1) := by decide +kernel
theorem d_AL_grow1_41 : decode b_AL_grow1 41 = .ok (.putfield 9, 3) := by decide +kernel
theorem d_AL_grow1_44 : decode b_AL_grow1 44 = .ok (.areturn, 1) := by decide +kernel
theorem d_AL_grow0_0 : decode b_AL_grow0 0 = .ok (.aload_n 0, 1) := by decide +kernel
theorem d_AL_grow0_1 : decode b_AL_grow0 1 = .ok (.aload_n 0, 1) := by decide +kernel
theorem d_AL_grow0_2 : decode b_AL_grow0 2 = .ok (.getfield 48, 3) := by decide +kernel
theorem d_AL_grow0_5 : decode b_AL_grow0 5 = .ok (.iconst 1, 1) := by decide +kernel
theorem d_AL_grow0_6 : decode b_AL_grow0 6 = .ok (.iadd, 1) := by decide +kernel
theorem d_AL_grow0_7 : decode b_AL_grow0 7 = .ok (.invokevirtual 69, 3) := by decide +kernel
theorem d_AL_grow0_10 : decode b_AL_grow0 10 = .ok (.areturn, 1) := by decide +kernel
theorem d_AL_add3_0 : decode b_AL_add3 0 = .ok (.iload_n 3, 1) := by decide +kernel
theorem d_AL_add3_1 : decode b_AL_add3 1 = .ok (.aload_n 2, 1) := by decide +kernel
theorem d_AL_add3_2 : decode b_AL_add3 2 = .ok (.arraylength, 1) := by decide +kernel
theorem d_AL_add3_3 : decode b_AL_add3 3 = .ok (.if_icmp .ne 8, 3) := by decide +kernel
theorem d_AL_add3_6 : decode b_AL_add3 6 = .ok (.aload_n 0, 1) := by decide +kernel
theorem d_AL_add3_7 : decode b_AL_add3 7 = .ok (.invokevirtual 129, 3) := by decide +kernel
theorem d_AL_add3_10 : decode b_AL_add3 10 = .ok (.astore_n 2, 1) := by decide +kernel
theorem d_AL_add3_11 : decode b_AL_add3 11 = .ok (.aload_n 2, 1) := by decide +kernel
theorem d_AL_add3_12 : decode b_AL_add3 12 = .ok (.iload_n 3, 1) := by decide +kernel
theorem d_AL_add3_13 : decode b_AL_add3 13 = .ok (.aload_n 1, 1) := by decide +kernel
theorem d_AL_add3_14 : decode b_AL_add3 14 = .ok (.aastore, 1) := by decide +kernel
theorem d_AL_add3_15 : decode b_AL_add3 15 = .ok (.aload_n 0, 1) := by decide +kernel
theorem d_AL_add3_16 : decode b_AL_add3 16 = .ok (.iload_n 3, 1) := by decide +kernel
theorem d_AL_add3_17 : decode b_AL_add3 17 = .ok (.iconst 1, 1) := by decide +kernel
theorem d_AL_add3_18 : decode b_AL_add3 18 = .ok (.iadd, 1) := by decide +kernel
theorem d_AL_add3_19 : decode b_AL_add3 19 = .ok (.putfield 48, 3) := by decide +kernel
theorem d_AL_add3_22 : decode b_AL_add3 22 = .ok (.return_, 1) := by decide +kernel
theorem d_AL_add1_0 : decode b_AL_add1 0 = .ok (.aload_n 0, 1) := by decide +kernel
theorem d_AL_add1_1 : decode b_AL_add1 1 = .ok (.dup, 1) := by decide +kernel
theorem d_AL_add1_2 : decode b_AL_add1 2 = .ok (.getfield 63, 3) := by decide +kernel
theorem d_AL_add1_5 : decode b_AL_add1 5 = .ok (.iconst 1, 1) := by decide +kernel
theorem d_AL_add1_6 : decode b_AL_add1 6 = .ok (.iadd, 1) := by decide +kernel
theorem d_AL_add1_7 : decode b_AL_add1 7 = .ok (.putfield 63, 3) := by decide +kernel
theorem d_AL_add1_10 : decode b_AL_add1 10 = .ok (.aload_n 0, 1) := by decide +kernel
theorem d_AL_add1_11 : decode b_AL_add1 11 = .ok (.aload_n 1, 1) := by decide +kernel
theorem d_AL_add1_12 : decode b_AL_add1 12 = .ok (.aload_n 0, 1) := by decide +kernel
theorem d_AL_add1_13 : decode b_AL_add1 13 = .ok (.getfield 9, 3) := by decide +kernel
theorem d_AL_add1_16 : decode b_AL_add1 16 = .ok (.aload_n 0, 1) := by decide +kernel
theorem d_AL_add1_17 : decode b_AL_add1 17 = .ok (.getfield 48, 3) := by decide +kernel
theorem d_AL_add1_20 : decode b_AL_add1 20 = .ok (.invokevirtual 131, 3) := by decide +kernel
theorem d_AL_add1_23 : decode b_AL_add1 23 = .ok (.iconst 1, 1) := by decide +kernel
theorem d_AL_add1_24 : decode b_AL_add1 24 = .ok (.ireturn, 1) := by decide +kernel
set_option maxHeartbeats 4000000 in
set_option maxRecDepth 100000 in
theorem c_AC_init {l : Launch} {b : Nat} {dC : Nat → ClassId} {dI : Nat → Nat → Nat} {dA : Nat → ClassId} {zs : Nat → Nat} {w : mh_w} {a : Nat} : mh_Met l b dC dI dA zs y_AC_init (mh_rm 1 0 0) [.ref a] w (mh_V none (fun w' => w' = w)) := by
  refine mh_ofW (cc := b_AC_init) (n := 1) (ret := none) (hs := []) (by decide) k43 ?_
  intro p e s m below meth c hx hb hr hml hown hts hlocks hnm hT hOK hadm
  have K0 : mh_K0 p s m ([.ref a]).toArray c "java/util/AbstractCollection" b_AC_init dC dI dA := ⟨hx, hb, hown, hts, hOK.1, hOK.2.1⟩
  have hX := hOK.2.2.2.2
  have hb0 := hOK.2.2.2.1
  have hS : va_S (mh_A b) s.heap s.heap [] := va_S.rf
  have hl := lv_entry ([.ref a]) (n := 1) (Nat.le_of_ble_eq_true rfl)
  rw [lg_entry_eq]
  generalize (lg_sl ([.ref a]) ++ List.replicate (1 - (lg_sl ([.ref a])).length) Slot.unset).toArray = ls at hl ⊢
  have hl : lv_has ls 1 [(0, .ref a)] := hl
  refine lv_aload_n hx hb d_AC_init_0 rfl (lv_at hl 0 rfl) ?_
  refine W.objInit hx hb hown (hts _ k44) (hts _ k31) (hts _ k32) rfl (by rw [hml]; exact hl.1) rfl d_AC_init_1 (Nat.le_of_ble_eq_true rfl) (Nat.le_of_ble_eq_true rfl) ?_
  refine W.eq (g2 := F0 m 4 ls []) rfl ?_
  exact mh_vret K0 hr hlocks hX hS (⟨rfl, rfl⟩) (Nat.le_of_ble_eq_true rfl) (Nat.le_of_ble_eq_true rfl) d_AC_init_4
set_option maxHeartbeats 4000000 in
set_option maxRecDepth 100000 in
theorem c_AB_init {l : Launch} {b : Nat} {dC : Nat → ClassId} {dI : Nat → Nat → Nat} {dA : Nat → ClassId} {zs : Nat → Nat} {w : mh_w} {a : Nat} (h : w 1 0 = some (a, .inr (5, [.int (nI 0), .null, .int (nI 0)]))) : mh_Met l b dC dI dA zs y_AB_init (mh_rm 2 0 0) [.ref a] w (mh_V none (fun w' => w' 1 0 = some (a, .inr (5, [.int (nI 0), .null, .int (nI 0)])) ∧ mh_F w w' 1 1 0)) := by
  refine mh_ofW (cc := b_AB_init) (n := 1) (ret := none) (hs := []) (by decide) k40 ?_
  intro p e s m below meth c hx hb hr hml hown hts hlocks hnm hT hOK hadm
  have K0 : mh_K0 p s m ([.ref a]).toArray c "java/util/AbstractList" b_AB_init dC dI dA := ⟨hx, hb, hown, hts, hOK.1, hOK.2.1⟩
  have hX := hOK.2.2.2.2
  have hb0 := hOK.2.2.2.1
  have hS : va_S (mh_A b) s.heap s.heap [] := va_S.rf
  have hl := lv_entry ([.ref a]) (n := 1) (Nat.le_of_ble_eq_true rfl)
  rw [lg_entry_eq]
  generalize (lg_sl ([.ref a]) ++ List.replicate (1 - (lg_sl ([.ref a])).length) Slot.unset).toArray = ls at hl ⊢
  have hl : lv_has ls 1 [(0, .ref a)] := hl
  refine lv_aload_n hx hb d_AB_init_0 rfl (lv_at hl 0 rfl) ?_
  refine mh_callR (mh_sI (rest := []) (av := []) K0 e_AC_init l_AB_1 k42 rfl rfl rfl d_AB_init_1) (c_AC_init) K0 hOK hml hl.1 e_AC_init hX hS d_AB_init_1 (Nat.le_of_ble_eq_true rfl) (Nat.le_of_ble_eq_true rfl) (Nat.le_of_ble_eq_true rfl) (Nat.le_of_ble_eq_true rfl) (Nat.le_of_ble_eq_true rfl) (fun H locs hX hS => ?_)
  refine W.eq (g2 := F0 m 4 ls []) rfl ?_
  refine lv_aload_n hx hb d_AB_init_4 rfl (lv_at hl 0 rfl) ?_
  refine lv_iconst (v := nI 0) hx hb d_AB_init_5 (by decide) ?_
  refine mh_put K0 hX hS h f_AB_7 p_5_0 rfl rfl (Nat.le_of_ble_eq_true rfl) d_AB_init_6 (fun H locs hX hS => ?_)
  have hX : mh_P (dC, dI) b (mh_set _ 1 0 (some (a, .inr (5, [.int (nI 0), .null, .int (nI 0)])))) H := hX
  have fs46 := mh_self hX
  exact mh_vret K0 hr hlocks hX hS (⟨rfl, fs46, (mh_F.rf.set (by omega) (by omega))⟩) (Nat.le_of_ble_eq_true rfl) (Nat.le_of_ble_eq_true rfl) d_AB_init_9
set_option maxHeartbeats 4000000 in
set_option maxRecDepth 100000 in
theorem c_AL_init {l : Launch} {b : Nat} {dC : Nat → ClassId} {dI : Nat → Nat → Nat} {dA : Nat → ClassId} {zs : Nat → Nat} {w : mh_w} {a : Nat} (h : w 1 0 = some (a, .inr (5, [.int (nI 0), .null, .int (nI 0)]))) : mh_Met l b dC dI dA zs y_AL_init (mh_rm 3 0 0) [.ref a] w (mh_V none (fun w' => rL dA zs w' a 0 (fun _ => none) ∧ mh_F w w' 1 1 0)) := by
  refine mh_ofW (cc := b_AL_init) (n := 1) (ret := none) (hs := []) (by decide) k37 ?_
  intro p e s m below meth c hx hb hr hml hown hts hlocks hnm hT hOK hadm
  have K0 : mh_K0 p s m ([.ref a]).toArray c "java/util/ArrayList" b_AL_init dC dI dA := ⟨hx, hb, hown, hts, hOK.1, hOK.2.1⟩
  have hX := hOK.2.2.2.2
  have hb0 := hOK.2.2.2.1
  have hS : va_S (mh_A b) s.heap s.heap [] := va_S.rf
  have hl := lv_entry ([.ref a]) (n := 1) (Nat.le_of_ble_eq_true rfl)
  rw [lg_entry_eq]
  generalize (lg_sl ([.ref a]) ++ List.replicate (1 - (lg_sl ([.ref a])).length) Slot.unset).toArray = ls at hl ⊢
  have hl : lv_has ls 1 [(0, .ref a)] := hl
  refine lv_aload_n hx hb d_AL_init_0 rfl (lv_at hl 0 rfl) ?_
  refine mh_callV (mh_sI (rest := []) (av := []) K0 e_AB_init l_AL_1 k39 rfl rfl rfl d_AL_init_1) (c_AB_init h) K0 hOK hml hl.1 e_AB_init hX hS d_AL_init_1 (Nat.le_of_ble_eq_true rfl) (Nat.le_of_ble_eq_true rfl) (Nat.le_of_ble_eq_true rfl) (Nat.le_of_ble_eq_true rfl) (Nat.le_of_ble_eq_true rfl) (fun w1 H locs ⟨h1, hF⟩ hX hS => ?_)
  refine W.eq (g2 := F0 m 4 ls []) rfl ?_
  refine lv_aload_n hx hb d_AL_init_4 rfl (lv_at hl 0 rfl) ?_
  refine va_gets hx hb hOK.2.2.1.2.2.2.2.2.2.1 hS hown (hts _ k45) (fun x h => h) d_AL_init_5 ?_
  refine mh_put K0 hX hS h1 f_AL_9 p_5_1 rfl rfl (Nat.le_of_ble_eq_true rfl) d_AL_init_8 (fun H locs hX hS => ?_)
  have hX : mh_P (dC, dI) b (mh_set _ 1 0 (some (a, .inr (5, [.int (nI 0), .ref (zs 0), .int (nI 0)])))) H := hX
  have fs47 := mh_self hX
  exact mh_vret K0 hr hlocks hX hS (⟨rfl, ⟨_, _, fs47, Or.inl ⟨rfl, rfl⟩⟩, ((mh_F.tr (k := 1) (n := 1) (k1 := 1) (n1 := 1) mh_F.rf hF (by omega) (by omega) (by omega) (by omega)).set (by omega) (by omega))⟩) (Nat.le_of_ble_eq_true rfl) (Nat.le_of_ble_eq_true rfl) d_AL_init_11
set_option maxHeartbeats 4000000 in
set_option maxRecDepth 100000 in
theorem c_AL_size {l : Launch} {b : Nat} {dC : Nat → ClassId} {dI : Nat → Nat → Nat} {dA : Nat → ClassId} {zs : Nat → Nat} {w : mh_w} {a n0 ar : Nat} {mc : Int32} (h : w 1 0 = some (a, .inr (5, [.int mc, .ref ar, .int (nI n0)]))) : mh_Met l b dC dI dA zs y_AL_size (mh_rm 0 0 0) [.ref a] w (mh_V (some (.int (nI n0))) (fun w' => w' = w)) := by
  refine mh_ofW (cc := b_AL_size) (n := 1) (ret := (some .int)) (hs := []) (by decide) k450 ?_
  intro p e s m below meth c hx hb hr hml hown hts hlocks hnm hT hOK hadm
  have K0 : mh_K0 p s m ([.ref a]).toArray c "java/util/ArrayList" b_AL_size dC dI dA := ⟨hx, hb, hown, hts, hOK.1, hOK.2.1⟩
  have hX := hOK.2.2.2.2
  have hb0 := hOK.2.2.2.1
  have hS : va_S (mh_A b) s.heap s.heap [] := va_S.rf
  have hl := lv_entry ([.ref a]) (n := 1) (Nat.le_of_ble_eq_true rfl)
  rw [lg_entry_eq]
  generalize (lg_sl ([.ref a]) ++ List.replicate (1 - (lg_sl ([.ref a])).length) Slot.unset).toArray = ls at hl ⊢
  have hl : lv_has ls 1 [(0, .ref a)] := hl
  refine lv_aload_n hx hb d_AL_size_0 rfl (lv_at hl 0 rfl) ?_
  refine mh_get K0 hX h f_AL_48 rfl d_AL_size_1 ?_
  exact mh_iret K0 hr rfl hlocks hX hS (⟨rfl, rfl⟩) (Nat.le_of_ble_eq_true rfl) (Nat.le_of_ble_eq_true rfl) d_AL_size_4
set_option maxHeartbeats 4000000 in
set_option maxRecDepth 100000 in
theorem c_PR_checkIndex {l : Launch} {b : Nat} {dC : Nat → ClassId} {dI : Nat → Nat → Nat} {dA : Nat → ClassId} {zs : Nat → Nat} {w : mh_w} {j n0 : Nat} (hj : j < n0) (hn : n0 < 2 ^ 31) : mh_Met l b dC dI dA zs y_PR_checkIndex (mh_rm 0 0 0) [.int (nI j), .int (nI n0), .null] w (mh_V (some (.int (nI j))) (fun w' => w' = w)) := by
  refine mh_ofW (cc := b_PR_checkIndex) (n := 3) (ret := (some .int)) (hs := []) (by decide) k465 ?_
  intro p e s m below meth c hx hb hr hml hown hts hlocks hnm hT hOK hadm
  have K0 : mh_K0 p s m ([.int (nI j), .int (nI n0), .null]).toArray c "jdk/internal/util/Preconditions" b_PR_checkIndex dC dI dA := ⟨hx, hb, hown, hts, hOK.1, hOK.2.1⟩
  have hX := hOK.2.2.2.2
  have hb0 := hOK.2.2.2.1
  have hS : va_S (mh_A b) s.heap s.heap [] := va_S.rf
  have hl := lv_entry ([.int (nI j), .int (nI n0), .null]) (n := 3) (Nat.le_of_ble_eq_true rfl)
  rw [lg_entry_eq]
  generalize (lg_sl ([.int (nI j), .int (nI n0), .null]) ++ List.replicate (3 - (lg_sl ([.int (nI j), .int (nI n0), .null])).length) Slot.unset).toArray = ls at hl ⊢
  have hl : lv_has ls 3 [(0, .int (nI j)), (1, .int (nI n0)), (2, .null)] := hl
  refine lv_iload_n hx hb d_PR_checkIndex_0 rfl (lv_at hl 0 rfl) ?_
  refine mh_if_lt (tgt := 9) hx hb (by omega) d_PR_checkIndex_1 (by decide) (fun z => absurd z (by omega)) (fun _ => ?_)
  refine lv_iload_n hx hb d_PR_checkIndex_4 rfl (lv_at hl 0 rfl) ?_
  refine lv_iload_n hx hb d_PR_checkIndex_5 rfl (lv_at hl 1 rfl) ?_
  refine mh_icmp_lt (tgt := 16) hx hb (by omega) (by omega) d_PR_checkIndex_6 (by decide) (fun _ => ?_) (fun z => absurd z (by omega))
  refine lv_iload_n hx hb d_PR_checkIndex_16 rfl (lv_at hl 0 rfl) ?_
  exact mh_iret K0 hr rfl hlocks hX hS (⟨rfl, rfl⟩) (Nat.le_of_ble_eq_true rfl) (Nat.le_of_ble_eq_true rfl) d_PR_checkIndex_17
set_option maxHeartbeats 4000000 in
set_option maxRecDepth 100000 in
theorem c_OB_checkIndex {l : Launch} {b : Nat} {dC : Nat → ClassId} {dI : Nat → Nat → Nat} {dA : Nat → ClassId} {zs : Nat → Nat} {w : mh_w} {j n0 : Nat} (hj : j < n0) (hn : n0 < 2 ^ 31) : mh_Met l b dC dI dA zs y_OB_checkIndex (mh_rm 1 0 0) [.int (nI j), .int (nI n0)] w (mh_V (some (.int (nI j))) (fun w' => w' = w)) := by
  refine mh_ofW (cc := b_OB_checkIndex) (n := 2) (ret := (some .int)) (hs := []) (by decide) k462 ?_
  intro p e s m below meth c hx hb hr hml hown hts hlocks hnm hT hOK hadm
  have K0 : mh_K0 p s m ([.int (nI j), .int (nI n0)]).toArray c "java/util/Objects" b_OB_checkIndex dC dI dA := ⟨hx, hb, hown, hts, hOK.1, hOK.2.1⟩
  have hX := hOK.2.2.2.2
  have hb0 := hOK.2.2.2.1
  have hS : va_S (mh_A b) s.heap s.heap [] := va_S.rf
  have hl := lv_entry ([.int (nI j), .int (nI n0)]) (n := 2) (Nat.le_of_ble_eq_true rfl)
  rw [lg_entry_eq]
  generalize (lg_sl ([.int (nI j), .int (nI n0)]) ++ List.replicate (2 - (lg_sl ([.int (nI j), .int (nI n0)])).length) Slot.unset).toArray = ls at hl ⊢
  have hl : lv_has ls 2 [(0, .int (nI j)), (1, .int (nI n0))] := hl
  refine lv_iload_n hx hb d_OB_checkIndex_0 rfl (lv_at hl 0 rfl) ?_
  refine lv_iload_n hx hb d_OB_checkIndex_1 rfl (lv_at hl 1 rfl) ?_
  refine lv_null hx hb d_OB_checkIndex_2 ?_
  refine mh_callR (mh_sS (rest := []) (av := [.int (nI j), .int (nI n0), .null]) K0 e_PR_checkIndex l_OB_105 k464 rfl rfl d_OB_checkIndex_3) (c_PR_checkIndex hj hn) K0 hOK hml hl.1 e_PR_checkIndex hX hS d_OB_checkIndex_3 (Nat.le_of_ble_eq_true rfl) (Nat.le_of_ble_eq_true rfl) (Nat.le_of_ble_eq_true rfl) (Nat.le_of_ble_eq_true rfl) (Nat.le_of_ble_eq_true rfl) (fun H locs hX hS => ?_)
  refine W.eq (g2 := F0 m 6 ls [.int (nI j)]) rfl ?_
  exact mh_iret K0 hr rfl hlocks hX hS (⟨rfl, rfl⟩) (Nat.le_of_ble_eq_true rfl) (Nat.le_of_ble_eq_true rfl) d_OB_checkIndex_6
set_option maxHeartbeats 4000000 in
set_option maxRecDepth 100000 in
theorem c_AL_elementData {l : Launch} {b : Nat} {dC : Nat → ClassId} {dI : Nat → Nat → Nat} {dA : Nat → ClassId} {zs : Nat → Nat} {w : mh_w} {a n0 ar : Nat} {mc : Int32} (h : w 1 0 = some (a, .inr (5, [.int mc, .ref ar, .int (nI n0)]))) {ix cap : Nat} {g : Nat → Option Nat} (hg : w 2 ix = some (ar, .inl (dA 3, cap, .inr (.inr (.inr (.inr g)))))) (hcap : cap ≤ 600) {j y : Nat} (hj : j < cap) (hy : g j = some y) : mh_Met l b dC dI dA zs y_AL_elementData (mh_rm 0 0 0) [.ref a, .int (nI j)] w (mh_V (some (.ref y)) (fun w' => w' = w)) := by
  refine mh_ofW (cc := b_AL_elementData) (n := 2) (ret := (some (.object "java/lang/Object"))) (hs := []) (by decide) k469 ?_
  intro p e s m below meth c hx hb hr hml hown hts hlocks hnm hT hOK hadm
  have K0 : mh_K0 p s m ([.ref a, .int (nI j)]).toArray c "java/util/ArrayList" b_AL_elementData dC dI dA := ⟨hx, hb, hown, hts, hOK.1, hOK.2.1⟩
  have hX := hOK.2.2.2.2
  have hb0 := hOK.2.2.2.1
  have hS : va_S (mh_A b) s.heap s.heap [] := va_S.rf
  have hl := lv_entry ([.ref a, .int (nI j)]) (n := 2) (Nat.le_of_ble_eq_true rfl)
  rw [lg_entry_eq]
  generalize (lg_sl ([.ref a, .int (nI j)]) ++ List.replicate (2 - (lg_sl ([.ref a, .int (nI j)])).length) Slot.unset).toArray = ls at hl ⊢
  have hl : lv_has ls 2 [(0, .ref a), (1, .int (nI j))] := hl
  refine lv_aload_n hx hb d_AL_elementData_0 rfl (lv_at hl 0 rfl) ?_
  refine mh_get K0 hX h f_AL_9 rfl d_AL_elementData_1 ?_
  refine lv_iload_n hx hb d_AL_elementData_4 rfl (lv_at hl 1 rfl) ?_
  refine mh_aaldN 3 rfl K0 hX hg (by omega) (by omega) (r := (some y)) (hy) d_AL_elementData_5 ?_
  refine W.eq (g2 := F0 m 6 ls [.ref y]) rfl ?_
  exact mh_aret K0 hr (Or.inl ⟨_, rfl⟩) (Or.inr ⟨_, rfl⟩) hlocks hX hS (⟨rfl, rfl⟩) (Nat.le_of_ble_eq_true rfl) (Nat.le_of_ble_eq_true rfl) d_AL_elementData_6
set_option maxHeartbeats 4000000 in
set_option maxRecDepth 100000 in
theorem c_AL_get {l : Launch} {b : Nat} {dC : Nat → ClassId} {dI : Nat → Nat → Nat} {dA : Nat → ClassId} {zs : Nat → Nat} {w : mh_w} {a n0 ar : Nat} {mc : Int32} (h : w 1 0 = some (a, .inr (5, [.int mc, .ref ar, .int (nI n0)]))) {ix cap : Nat} {g : Nat → Option Nat} (hg : w 2 ix = some (ar, .inl (dA 3, cap, .inr (.inr (.inr (.inr g)))))) (hcap : cap ≤ 600) {j y : Nat} (hj : j < n0) (hn : n0 ≤ cap) (hy : g j = some y) : mh_Met l b dC dI dA zs y_AL_get (mh_rm 2 0 0) [.ref a, .int (nI j)] w (mh_V (some (.ref y)) (fun w' => w' = w)) := by
  refine mh_ofW (cc := b_AL_get) (n := 2) (ret := (some (.object "java/lang/Object"))) (hs := []) (by decide) k459 ?_
  intro p e s m below meth c hx hb hr hml hown hts hlocks hnm hT hOK hadm
  have K0 : mh_K0 p s m ([.ref a, .int (nI j)]).toArray c "java/util/ArrayList" b_AL_get dC dI dA := ⟨hx, hb, hown, hts, hOK.1, hOK.2.1⟩
  have hX := hOK.2.2.2.2
  have hb0 := hOK.2.2.2.1
  have hS : va_S (mh_A b) s.heap s.heap [] := va_S.rf
  have hl := lv_entry ([.ref a, .int (nI j)]) (n := 2) (Nat.le_of_ble_eq_true rfl)
  rw [lg_entry_eq]
  generalize (lg_sl ([.ref a, .int (nI j)]) ++ List.replicate (2 - (lg_sl ([.ref a, .int (nI j)])).length) Slot.unset).toArray = ls at hl ⊢
  have hl : lv_has ls 2 [(0, .ref a), (1, .int (nI j))] := hl
  refine lv_iload_n hx hb d_AL_get_0 rfl (lv_at hl 1 rfl) ?_
  refine lv_aload_n hx hb d_AL_get_1 rfl (lv_at hl 0 rfl) ?_
  refine mh_get K0 hX h f_AL_48 rfl d_AL_get_2 ?_
  refine mh_callR (mh_sS (rest := []) (av := [.int (nI j), .int (nI n0)]) K0 e_OB_checkIndex l_AL_118 k461 rfl rfl d_AL_get_5) (c_OB_checkIndex hj (by omega)) K0 hOK hml hl.1 e_OB_checkIndex hX hS d_AL_get_5 (Nat.le_of_ble_eq_true rfl) (Nat.le_of_ble_eq_true rfl) (Nat.le_of_ble_eq_true rfl) (Nat.le_of_ble_eq_true rfl) (Nat.le_of_ble_eq_true rfl) (fun H locs hX hS => ?_)
  refine W.eq (g2 := F0 m 8 ls [.int (nI j)]) rfl ?_
  refine lv_pop hx hb d_AL_get_8 rfl ?_
  refine lv_aload_n hx hb d_AL_get_9 rfl (lv_at hl 0 rfl) ?_
  refine lv_iload_n hx hb d_AL_get_10 rfl (lv_at hl 1 rfl) ?_
  refine mh_callR (mh_sV (rest := []) (av := [.int (nI j)]) K0 hX h rfl e_AL_elementData l_AL_123 k467 k468 rfl rfl d_AL_get_11) (c_AL_elementData h hg hcap (by omega) hy) K0 hOK hml hl.1 e_AL_elementData hX hS d_AL_get_11 (Nat.le_of_ble_eq_true rfl) (Nat.le_of_ble_eq_true rfl) (Nat.le_of_ble_eq_true rfl) (Nat.le_of_ble_eq_true rfl) (Nat.le_of_ble_eq_true rfl) (fun H locs hX hS => ?_)
  refine W.eq (g2 := F0 m 14 ls [.ref y]) rfl ?_
  exact mh_aret K0 hr (Or.inl ⟨_, rfl⟩) (Or.inr ⟨_, rfl⟩) hlocks hX hS (⟨rfl, rfl⟩) (Nat.le_of_ble_eq_true rfl) (Nat.le_of_ble_eq_true rfl) d_AL_get_14
set_option maxHeartbeats 4000000 in
set_option maxRecDepth 100000 in
theorem c_AS_newLength {l : Launch} {b : Nat} {dC : Nat → ClassId} {dI : Nat → Nat → Nat} {dA : Nat → ClassId} {zs : Nat → Nat} {w : mh_w} {o1 mg pg : Nat} (h1 : o1 ≤ 600) (h2 : mg ≤ 600) (h3 : pg ≤ 600) (h4 : 0 < mg) : mh_Met l b dC dI dA zs y_AS_newLength (mh_rm 1 0 0) [.int (nI o1), .int (nI mg), .int (nI pg)] w (mh_V (some (.int (nI (o1 + max mg pg)))) (fun w' => w' = w)) := by
  refine mh_ofW (cc := b_AS_newLength) (n := 4) (ret := (some .int)) (hs := []) (by decide) k497 ?_
  intro p e s m below meth c hx hb hr hml hown hts hlocks hnm hT hOK hadm
  have K0 : mh_K0 p s m ([.int (nI o1), .int (nI mg), .int (nI pg)]).toArray c "jdk/internal/util/ArraysSupport" b_AS_newLength dC dI dA := ⟨hx, hb, hown, hts, hOK.1, hOK.2.1⟩
  have hX := hOK.2.2.2.2
  have hb0 := hOK.2.2.2.1
  have hS : va_S (mh_A b) s.heap s.heap [] := va_S.rf
  have hl := lv_entry ([.int (nI o1), .int (nI mg), .int (nI pg)]) (n := 4) (Nat.le_of_ble_eq_true rfl)
  rw [lg_entry_eq]
  generalize (lg_sl ([.int (nI o1), .int (nI mg), .int (nI pg)]) ++ List.replicate (4 - (lg_sl ([.int (nI o1), .int (nI mg), .int (nI pg)])).length) Slot.unset).toArray = ls at hl ⊢
  have hl : lv_has ls 4 [(0, .int (nI o1)), (1, .int (nI mg)), (2, .int (nI pg))] := hl
  refine lv_iload_n hx hb d_AS_newLength_0 rfl (lv_at hl 0 rfl) ?_
  refine lv_iload_n hx hb d_AS_newLength_1 rfl (lv_at hl 1 rfl) ?_
  refine lv_iload_n hx hb d_AS_newLength_2 rfl (lv_at hl 2 rfl) ?_
  refine va_mmax (rest := [.int (nI o1)]) hx hb (by rw [hml]; exact hl.1.symm) hown (hts _ k498) (hts _ k381) (hts _ k20) (hts _ k382) (Nat.le_of_ble_eq_true rfl) (Nat.le_of_ble_eq_true rfl) (Nat.le_of_ble_eq_true rfl) (Nat.le_of_ble_eq_true rfl) d_AS_newLength_3 ?_
  refine mh_ti (y := nI (max mg pg)) (mh_mmax (by omega) (by omega)) ?_
  refine mh_addN hx hb d_AS_newLength_6 ?_
  refine lv_istore_n (lv' := [(3, .int (nI (o1 + (max mg pg)))), (0, .int (nI o1)), (1, .int (nI mg)), (2, .int (nI pg))]) hx hb d_AS_newLength_7 rfl hl (by decide) rfl (fun ls hl => ?_)
  refine lv_iconst (v := nI 0) hx hb d_AS_newLength_8 (by decide) ?_
  refine lv_iload_n hx hb d_AS_newLength_9 rfl (lv_at hl 0 rfl) ?_
  refine mh_icmp_ge (tgt := 21) hx hb (by omega) (by omega) d_AS_newLength_10 (by decide) (fun z => absurd z (by omega)) (fun _ => ?_)
  refine lv_iload_n hx hb d_AS_newLength_13 rfl (lv_at hl 0 rfl) ?_
  refine lv_ldc hx hb hown (hts _ k499) d_AS_newLength_14 ?_
  refine mh_ti (y := nI 2147483639) (by decide) ?_
  refine mh_icmp_gt (tgt := 21) hx hb (by omega) (by omega) d_AS_newLength_16 (by decide) (fun z => absurd z (by omega)) (fun _ => ?_)
  refine lv_iload_n hx hb d_AS_newLength_19 rfl (lv_at hl 0 rfl) ?_
  exact mh_iret K0 hr rfl hlocks hX hS (⟨rfl, rfl⟩) (Nat.le_of_ble_eq_true rfl) (Nat.le_of_ble_eq_true rfl) d_AS_newLength_20
set_option maxHeartbeats 4000000 in
set_option maxRecDepth 100000 in
theorem c_AR_copyOf3 {l : Launch} {b : Nat} {dC : Nat → ClassId} {dI : Nat → Nat → Nat} {dA : Nat → ClassId} {zs : Nat → Nat} {w : mh_w} {ar ix cap nc : Nat} {g : Nat → Option Nat} (hg : w 2 ix = some (ar, .inl (dA 3, cap, .inr (.inr (.inr (.inr g)))))) (hcap : cap ≤ nc) (hnc : nc ≤ 600) (hel : mh_el w cap g) : mh_Met l b dC dI dA zs y_AR_copyOf3 (mh_rm 1 1 600) [.ref ar, .int (nI nc), .ref (zs 1)] w (mh_E (fun q w' => w' 2 (ix + 1) = some (q, .inl (dA 3, nc, .inr (.inr (.inr (.inr (va_cpy g (fun _ => none) 0 0 cap)))))) ∧ ∀ k' i', ¬ (k' = 2 ∧ i' = ix + 1) → w' k' i' = w k' i')) := by
  refine mh_ofW (cc := b_AR_copyOf3) (n := 4) (ret := (some (.array (.object "java/lang/Object")))) (hs := []) (by decide) k524 ?_
  intro p e s m below meth c hx hb hr hml hown hts hlocks hnm hT hOK hadm
  have K0 : mh_K0 p s m ([.ref ar, .int (nI nc), .ref (zs 1)]).toArray c "java/util/Arrays" b_AR_copyOf3 dC dI dA := ⟨hx, hb, hown, hts, hOK.1, hOK.2.1⟩
  have hX := hOK.2.2.2.2
  have hb0 := hOK.2.2.2.1
  have hS : va_S (mh_A b) s.heap s.heap [] := va_S.rf
  have hl := lv_entry ([.ref ar, .int (nI nc), .ref (zs 1)]) (n := 4) (Nat.le_of_ble_eq_true rfl)
  rw [lg_entry_eq]
  generalize (lg_sl ([.ref ar, .int (nI nc), .ref (zs 1)]) ++ List.replicate (4 - (lg_sl ([.ref ar, .int (nI nc), .ref (zs 1)])).length) Slot.unset).toArray = ls at hl ⊢
  have hl : lv_has ls 4 [(0, .ref ar), (1, .int (nI nc)), (2, .ref (zs 1))] := hl
  refine lv_aload_n hx hb d_AR_copyOf3_0 rfl (lv_at hl 2 rfl) ?_
  refine va_ldcM hx hb hown (hts _ k525) hOK.2.2.1.2.2.2.1 d_AR_copyOf3_1 ?_
  refine lv_acmp_ne (tgt := 13) (rx := some (zs 1)) (ry := some (zs 1)) hx hb d_AR_copyOf3_3 (by decide) (fun z => absurd rfl z) (fun _ => ?_)
  refine lv_iload_n hx hb d_AR_copyOf3_6 rfl (lv_at hl 1 rfl) ?_
  refine mh_newq 2 (ix + 1) 3 K0 hX hS hb0 rfl k527 hOK.2.2.1.1.1 (N' := nc) (nI_pos (by omega)) (nI_clamp (by omega)) (by omega) (Nat.le_of_ble_eq_true rfl) (by show 0 + nc ≤ 600; omega) d_AR_copyOf3_7 (fun q H hX hS => ?_)
  have fs48 := mh_self hX
  refine lv_goto (tgt := 24) hx hb d_AR_copyOf3_10 (by decide) ?_
  refine lv_astore_n (lv' := [(3, .ref q), (0, .ref ar), (1, .int (nI nc)), (2, .ref (zs 1))]) hx hb d_AR_copyOf3_24 rfl hl (by decide) rfl (fun ls hl => ?_)
  refine lv_aload_n hx hb d_AR_copyOf3_25 rfl (lv_at hl 1 rfl) ?_
  refine lv_iconst (v := nI 0) hx hb d_AR_copyOf3_26 (by decide) ?_
  refine lv_aload_n hx hb d_AR_copyOf3_27 rfl (lv_at hl 0 rfl) ?_
  refine lv_iconst (v := nI 0) hx hb d_AR_copyOf3_28 (by decide) ?_
  refine lv_aload_n hx hb d_AR_copyOf3_29 rfl (lv_at hl 1 rfl) ?_
  refine mh_alen 3 rfl K0 hX (mh_kp hg (by omega)) d_AR_copyOf3_30 ?_
  refine lv_iload_n hx hb d_AR_copyOf3_31 rfl (lv_at hl 2 rfl) ?_
  refine va_mmin (rest := [.int (nI 0), .ref q, .int (nI 0), .ref ar]) hx hb (by rw [hml]; exact hl.1.symm) hown (hts _ k528) (hts _ k529) (hts _ k20) (hts _ k530) (Nat.le_of_ble_eq_true rfl) (Nat.le_of_ble_eq_true rfl) (Nat.le_of_ble_eq_true rfl) (show 0 + nc ≤ 600 by omega) d_AR_copyOf3_32 ?_
  refine mh_ti (y := nI (min cap nc)) (mh_mmin (by omega) (by omega)) ?_
  rw [show min cap nc = cap by omega]
  refine mh_copyq (rest := []) K0 hml hl.1 k531 k291 k290 k17 k850 hX hS (mh_kp hg (by omega)) fs48 (hel.to (fun k2 i2 h2 => mh_set_ne _ _ _ _ (by omega))) (n := cap) (by omega) (by omega) (by omega) (Nat.le_of_ble_eq_true rfl) (Nat.le_of_ble_eq_true rfl) d_AR_copyOf3_35 (fun H locs hX hS => ?_)
  have fs49 := mh_self hX
  refine lv_aload_n hx hb d_AR_copyOf3_38 rfl (lv_at hl 0 rfl) ?_
  exact mh_aret K0 hr (Or.inr ⟨_, rfl⟩) (Or.inr ⟨_, rfl⟩) hlocks hX hS (⟨q, rfl, fs49, fun k2 i2 h2 => (mh_set_ne _ _ _ _ h2).trans (mh_set_ne _ _ _ _ h2)⟩) (Nat.le_of_ble_eq_true rfl) (show 0 + nc ≤ 600 by omega) d_AR_copyOf3_39
set_option maxHeartbeats 4000000 in
set_option maxRecDepth 100000 in
theorem c_AR_copyOf2 {l : Launch} {b : Nat} {dC : Nat → ClassId} {dI : Nat → Nat → Nat} {dA : Nat → ClassId} {zs : Nat → Nat} {w : mh_w} {ar ix cap nc : Nat} {g : Nat → Option Nat} (hg : w 2 ix = some (ar, .inl (dA 3, cap, .inr (.inr (.inr (.inr g)))))) (hcap : cap ≤ nc) (hnc : nc ≤ 600) (hel : mh_el w cap g) : mh_Met l b dC dI dA zs y_AR_copyOf2 (mh_rm 2 1 600) [.ref ar, .int (nI nc)] w (mh_E (fun q w' => w' 2 (ix + 1) = some (q, .inl (dA 3, nc, .inr (.inr (.inr (.inr (va_cpy g (fun _ => none) 0 0 cap)))))) ∧ ∀ k' i', ¬ (k' = 2 ∧ i' = ix + 1) → w' k' i' = w k' i')) := by
  refine mh_ofW (cc := b_AR_copyOf2) (n := 2) (ret := (some (.array (.object "java/lang/Object")))) (hs := []) (by decide) k505 ?_
  intro p e s m below meth c hx hb hr hml hown hts hlocks hnm hT hOK hadm
  have K0 : mh_K0 p s m ([.ref ar, .int (nI nc)]).toArray c "java/util/Arrays" b_AR_copyOf2 dC dI dA := ⟨hx, hb, hown, hts, hOK.1, hOK.2.1⟩
  have hX := hOK.2.2.2.2
  have hb0 := hOK.2.2.2.1
  have hS : va_S (mh_A b) s.heap s.heap [] := va_S.rf
  have hl := lv_entry ([.ref ar, .int (nI nc)]) (n := 2) (Nat.le_of_ble_eq_true rfl)
  rw [lg_entry_eq]
  generalize (lg_sl ([.ref ar, .int (nI nc)]) ++ List.replicate (2 - (lg_sl ([.ref ar, .int (nI nc)])).length) Slot.unset).toArray = ls at hl ⊢
  have hl : lv_has ls 2 [(0, .ref ar), (1, .int (nI nc))] := hl
  refine lv_aload_n hx hb d_AR_copyOf2_0 rfl (lv_at hl 0 rfl) ?_
  refine lv_iload_n hx hb d_AR_copyOf2_1 rfl (lv_at hl 1 rfl) ?_
  refine lv_aload_n hx hb d_AR_copyOf2_2 rfl (lv_at hl 0 rfl) ?_
  refine va_getC hx hb (by rw [hml]; exact hl.1.symm) hown (hts _ k506) (va_Nw.use (mh_NW_on _ k843) (hOK.1 _ k843)) (hts _ k842) (hts _ k507) (hts _ k521) hOK.2.2.1.2.2.2.1 (mh_arrO K0 hX hg) (Nat.le_of_ble_eq_true rfl) (Nat.le_of_ble_eq_true rfl) d_AR_copyOf2_3 ?_
  refine mh_callE (mh_sS (rest := []) (av := [.ref ar, .int (nI nc), .ref (zs 1)]) K0 e_AR_copyOf3 l_AR_300 k523 rfl rfl d_AR_copyOf2_6) (c_AR_copyOf3 hg hcap hnc hel) K0 hOK hml hl.1 e_AR_copyOf3 hX hS d_AR_copyOf2_6 (Nat.le_of_ble_eq_true rfl) (Nat.le_of_ble_eq_true rfl) (Nat.le_of_ble_eq_true rfl) (Nat.le_of_ble_eq_true rfl) (Nat.le_of_ble_eq_true rfl) (fun q w1 H locs hw hX hS => ?_)
  exact mh_aret K0 hr (Or.inr ⟨_, rfl⟩) (Or.inr ⟨_, rfl⟩) hlocks hX hS (⟨q, rfl, hw⟩) (Nat.le_of_ble_eq_true rfl) (Nat.le_of_ble_eq_true rfl) d_AR_copyOf2_9
set_option maxHeartbeats 4000000 in
set_option maxRecDepth 100000 in
theorem c_AL_grow1 {l : Launch} {b : Nat} {dC : Nat → ClassId} {dI : Nat → Nat → Nat} {dA : Nat → ClassId} {zs : Nat → Nat} {w : mh_w} {a n0 ar : Nat} {mc : Int32} (h : w 1 0 = some (a, .inr (5, [.int mc, .ref ar, .int (nI n0)]))) {f : Nat → Option Nat} (hA : (n0 = 0 ∧ ar = zs 0) ∨ ∃ (ix : Nat) (g : Nat → Option Nat), 0 < n0 ∧ w 2 ix = some (ar, .inl (dA 3, n0, .inr (.inr (.inr (.inr g))))) ∧ mh_el w n0 g ∧ ∀ j, j < n0 → g j = f j) (hn : n0 < 400) : mh_Met l b dC dI dA zs y_AL_grow1 (mh_rm 4 1 600) [.ref a, .int (nI (n0 + 1))] w (mh_E (fun q w' => (∃ (mc : Int32) (ix cap : Nat) (g : Nat → Option Nat), w' 1 0 = some (a, .inr (5, [.int mc, .ref q, .int (nI n0)])) ∧ n0 + 1 ≤ cap ∧ cap ≤ 600 ∧ w' 2 ix = some (q, .inl (dA 3, cap, .inr (.inr (.inr (.inr g))))) ∧ ∀ j, j < n0 → g j = f j) ∧ ∀ k' i', k' ≠ 1 → k' ≠ 2 → w' k' i' = w k' i')) := by
  refine mh_ofW (cc := b_AL_grow1) (n := 4) (ret := (some (.array (.object "java/lang/Object")))) (hs := []) (by decide) k494 ?_
  intro p e s m below meth c hx hb hr hml hown hts hlocks hnm hT hOK hadm
  have K0 : mh_K0 p s m ([.ref a, .int (nI (n0 + 1))]).toArray c "java/util/ArrayList" b_AL_grow1 dC dI dA := ⟨hx, hb, hown, hts, hOK.1, hOK.2.1⟩
  have hX := hOK.2.2.2.2
  have hb0 := hOK.2.2.2.1
  have hS : va_S (mh_A b) s.heap s.heap [] := va_S.rf
  have hl := lv_entry ([.ref a, .int (nI (n0 + 1))]) (n := 4) (Nat.le_of_ble_eq_true rfl)
  rw [lg_entry_eq]
  generalize (lg_sl ([.ref a, .int (nI (n0 + 1))]) ++ List.replicate (4 - (lg_sl ([.ref a, .int (nI (n0 + 1))])).length) Slot.unset).toArray = ls at hl ⊢
  have hl : lv_has ls 4 [(0, .ref a), (1, .int (nI (n0 + 1)))] := hl
  refine lv_aload_n hx hb d_AL_grow1_0 rfl (lv_at hl 0 rfl) ?_
  refine mh_get K0 hX h f_AL_9 rfl d_AL_grow1_1 ?_
  rcases hA with ⟨e1, e2⟩ | ⟨ix, g, hp, hg, hel, hgf⟩
  · skip
    subst e1; subst e2
    refine va_tlen hx hb hOK.2.2.1.2.2.2.2.2.2.2.1 hS (v := nI 0) rfl d_AL_grow1_4 ?_
    refine lv_istore_n (lv' := [(2, .int (nI 0)), (0, .ref a), (1, .int (nI (0 + 1)))]) hx hb d_AL_grow1_5 rfl hl (by decide) rfl (fun ls hl => ?_)
    refine lv_iload_n hx hb d_AL_grow1_6 rfl (lv_at hl 0 rfl) ?_
    refine mh_if_gt (tgt := 20) hx hb (by omega) d_AL_grow1_7 (by decide) (fun z => absurd z (by omega)) (fun _ => ?_)
    refine lv_aload_n hx hb d_AL_grow1_10 rfl (lv_at hl 1 rfl) ?_
    refine mh_get K0 hX h f_AL_9 rfl d_AL_grow1_11 ?_
    refine va_gets hx hb hOK.2.2.1.2.2.2.2.2.2.1 hS hown (hts _ k45) (fun x h => h) d_AL_grow1_14 ?_
    refine lv_acmp_eq (tgt := 45) (rx := some (zs 0)) (ry := some (zs 0)) hx hb d_AL_grow1_17 (by decide) (fun _ => ?_) (fun z => absurd rfl z)
    refine lv_aload_n hx hb d_AL_grow1_45 rfl (lv_at hl 1 rfl) ?_
    refine lv_bipush (v := nI 10) hx hb d_AL_grow1_46 (by decide) ?_
    refine lv_iload_n hx hb d_AL_grow1_48 rfl (lv_at hl 2 rfl) ?_
    refine va_mmax (rest := [.ref a]) hx hb (by rw [hml]; exact hl.1.symm) hown (hts _ k532) (hts _ k381) (hts _ k20) (hts _ k382) (Nat.le_of_ble_eq_true rfl) (Nat.le_of_ble_eq_true rfl) (Nat.le_of_ble_eq_true rfl) (Nat.le_of_ble_eq_true rfl) d_AL_grow1_49 ?_
    refine mh_ti (y := nI (max 10 (0 + 1))) (mh_mmax (by omega) (by omega)) ?_
    rw [show max 10 (0 + 1) = 10 from rfl]
    refine mh_newq 2 0 3 K0 hX hS hb0 rfl k533 (hOK.2.2.1.1.1) (N' := 10) (by decide) (by decide) (by decide) (Nat.le_of_ble_eq_true rfl) (Nat.le_of_ble_eq_true rfl) d_AL_grow1_52 (fun q H hX hS => ?_)
    have fs50 := mh_self hX
    refine lv_dup_x1 hx hb d_AL_grow1_55 rfl rfl ?_
    refine mh_put K0 hX hS (mh_kp h (by omega)) f_AL_9 p_5_1 rfl rfl (Nat.le_of_ble_eq_true rfl) d_AL_grow1_56 (fun H locs hX hS => ?_)
    have hX : mh_P (dC, dI) b (mh_set _ 1 0 (some (a, .inr (5, [.int mc, .ref q, .int (nI 0)])))) H := hX
    have fs51 := mh_self hX
    exact mh_aret K0 hr (Or.inr ⟨_, rfl⟩) (Or.inr ⟨_, rfl⟩) hlocks hX hS (⟨q, rfl, ⟨mc, 0, 10, _, fs51, by omega, by omega, (mh_kp fs50 (by omega)), fun j hj => absurd hj (Nat.not_lt_zero j)⟩, fun k2 i2 h1 h2 => (mh_set_ne _ _ _ _ (by omega)).trans (mh_set_ne _ _ _ _ (by omega))⟩) (Nat.le_of_ble_eq_true rfl) (Nat.le_of_ble_eq_true rfl) d_AL_grow1_59
  · skip
    refine mh_alen 3 rfl K0 hX hg d_AL_grow1_4 ?_
    refine lv_istore_n (lv' := [(2, .int (nI n0)), (0, .ref a), (1, .int (nI (n0 + 1)))]) hx hb d_AL_grow1_5 rfl hl (by decide) rfl (fun ls hl => ?_)
    refine lv_iload_n hx hb d_AL_grow1_6 rfl (lv_at hl 0 rfl) ?_
    refine mh_if_gt (tgt := 20) hx hb (by omega) d_AL_grow1_7 (by decide) (fun _ => ?_) (fun z => absurd z (by omega))
    refine lv_iload_n hx hb d_AL_grow1_20 rfl (lv_at hl 0 rfl) ?_
    refine lv_iload_n hx hb d_AL_grow1_21 rfl (lv_at hl 2 rfl) ?_
    refine lv_iload_n hx hb d_AL_grow1_22 rfl (lv_at hl 0 rfl) ?_
    refine mh_subN hx hb (by omega) d_AL_grow1_23 ?_
    refine lv_iload_n hx hb d_AL_grow1_24 rfl (lv_at hl 0 rfl) ?_
    refine lv_iconst (v := nI 1) hx hb d_AL_grow1_25 (by decide) ?_
    refine lv_ishr hx hb d_AL_grow1_26 ?_
    refine mh_ti (y := nI (n0 / 2)) (nI_shr1 (by omega)) ?_
    refine mh_callR (mh_sS (rest := []) (av := [.int (nI n0), .int (nI ((n0 + 1) - n0)), .int (nI (n0 / 2))]) K0 e_AS_newLength l_AL_73 k496 rfl rfl d_AL_grow1_27) (c_AS_newLength (o1 := n0) (mg := n0 + 1 - n0) (pg := n0 / 2) (by omega) (by omega) (by omega) (by omega)) K0 hOK hml hl.1 e_AS_newLength hX hS d_AL_grow1_27 (Nat.le_of_ble_eq_true rfl) (Nat.le_of_ble_eq_true rfl) (Nat.le_of_ble_eq_true rfl) (Nat.le_of_ble_eq_true rfl) (Nat.le_of_ble_eq_true rfl) (fun H locs hX hS => ?_)
    refine W.eq (g2 := F0 m 30 ls [.int (nI (n0 + max (n0 + 1 - n0) (n0 / 2)))]) rfl ?_
    refine lv_istore_n (lv' := [(3, .int (nI (n0 + max (n0 + 1 - n0) (n0 / 2)))), (2, .int (nI n0)), (0, .ref a), (1, .int (nI (n0 + 1)))]) hx hb d_AL_grow1_30 rfl hl (by decide) rfl (fun ls hl => ?_)
    refine lv_aload_n hx hb d_AL_grow1_31 rfl (lv_at hl 2 rfl) ?_
    refine lv_aload_n hx hb d_AL_grow1_32 rfl (lv_at hl 2 rfl) ?_
    refine mh_get K0 hX h f_AL_9 rfl d_AL_grow1_33 ?_
    refine lv_iload_n hx hb d_AL_grow1_36 rfl (lv_at hl 0 rfl) ?_
    refine mh_callE (mh_sS (rest := [.ref a]) (av := [.ref ar, .int (nI (n0 + max (n0 + 1 - n0) (n0 / 2)))]) K0 e_AR_copyOf2 l_AL_66 k504 rfl rfl d_AL_grow1_37) (c_AR_copyOf2 (nc := n0 + max (n0 + 1 - n0) (n0 / 2)) hg (by omega) (by omega) hel) K0 hOK hml hl.1 e_AR_copyOf2 hX hS d_AL_grow1_37 (Nat.le_of_ble_eq_true rfl) (Nat.le_of_ble_eq_true rfl) (Nat.le_of_ble_eq_true rfl) (Nat.le_of_ble_eq_true rfl) (Nat.le_of_ble_eq_true rfl) (fun q w1 H locs ⟨hq1, hq2⟩ hX hS => ?_)
    refine lv_dup_x1 hx hb d_AL_grow1_40 rfl rfl ?_
    refine mh_put K0 hX hS ((hq2 1 0 (by omega)).trans h) f_AL_9 p_5_1 rfl rfl (Nat.le_of_ble_eq_true rfl) d_AL_grow1_41 (fun H locs hX hS => ?_)
    have hX : mh_P (dC, dI) b (mh_set _ 1 0 (some (a, .inr (5, [.int mc, .ref q, .int (nI n0)])))) H := hX
    have fs52 := mh_self hX
    exact mh_aret K0 hr (Or.inr ⟨_, rfl⟩) (Or.inr ⟨_, rfl⟩) hlocks hX hS (⟨q, rfl, ⟨mc, ix + 1, _, _, fs52, by omega, by omega, (mh_kp hq1 (by omega)), fun j hj => by rw [pk_cpy_in (by omega) (by omega), Nat.zero_add, Nat.sub_zero]; exact hgf j hj⟩, fun k2 i2 h1 h2 => (mh_set_ne _ _ _ _ (by omega)).trans (hq2 _ _ (by omega))⟩) (Nat.le_of_ble_eq_true rfl) (Nat.le_of_ble_eq_true rfl) d_AL_grow1_44
set_option maxHeartbeats 4000000 in
set_option maxRecDepth 100000 in
theorem c_AL_grow0 {l : Launch} {b : Nat} {dC : Nat → ClassId} {dI : Nat → Nat → Nat} {dA : Nat → ClassId} {zs : Nat → Nat} {w : mh_w} {a n0 ar : Nat} {mc : Int32} (h : w 1 0 = some (a, .inr (5, [.int mc, .ref ar, .int (nI n0)]))) {f : Nat → Option Nat} (hA : (n0 = 0 ∧ ar = zs 0) ∨ ∃ (ix : Nat) (g : Nat → Option Nat), 0 < n0 ∧ w 2 ix = some (ar, .inl (dA 3, n0, .inr (.inr (.inr (.inr g))))) ∧ mh_el w n0 g ∧ ∀ j, j < n0 → g j = f j) (hn : n0 < 400) : mh_Met l b dC dI dA zs y_AL_grow0 (mh_rm 5 1 600) [.ref a] w (mh_E (fun q w' => (∃ (mc : Int32) (ix cap : Nat) (g : Nat → Option Nat), w' 1 0 = some (a, .inr (5, [.int mc, .ref q, .int (nI n0)])) ∧ n0 + 1 ≤ cap ∧ cap ≤ 600 ∧ w' 2 ix = some (q, .inl (dA 3, cap, .inr (.inr (.inr (.inr g))))) ∧ ∀ j, j < n0 → g j = f j) ∧ ∀ k' i', k' ≠ 1 → k' ≠ 2 → w' k' i' = w k' i')) := by
  refine mh_ofW (cc := b_AL_grow0) (n := 1) (ret := (some (.array (.object "java/lang/Object")))) (hs := []) (by decide) k490 ?_
  intro p e s m below meth c hx hb hr hml hown hts hlocks hnm hT hOK hadm
  have K0 : mh_K0 p s m ([.ref a]).toArray c "java/util/ArrayList" b_AL_grow0 dC dI dA := ⟨hx, hb, hown, hts, hOK.1, hOK.2.1⟩
  have hX := hOK.2.2.2.2
  have hb0 := hOK.2.2.2.1
  have hS : va_S (mh_A b) s.heap s.heap [] := va_S.rf
  have hl := lv_entry ([.ref a]) (n := 1) (Nat.le_of_ble_eq_true rfl)
  rw [lg_entry_eq]
  generalize (lg_sl ([.ref a]) ++ List.replicate (1 - (lg_sl ([.ref a])).length) Slot.unset).toArray = ls at hl ⊢
  have hl : lv_has ls 1 [(0, .ref a)] := hl
  refine lv_aload_n hx hb d_AL_grow0_0 rfl (lv_at hl 0 rfl) ?_
  refine lv_aload_n hx hb d_AL_grow0_1 rfl (lv_at hl 0 rfl) ?_
  refine mh_get K0 hX h f_AL_48 rfl d_AL_grow0_2 ?_
  refine lv_iconst (v := nI 1) hx hb d_AL_grow0_5 (by decide) ?_
  refine mh_addN hx hb d_AL_grow0_6 ?_
  refine mh_callE (mh_sV (rest := []) (av := [.int (nI (n0 + 1))]) K0 hX h rfl e_AL_grow1 l_AL_69 k493 kp12 rfl rfl d_AL_grow0_7) (c_AL_grow1 h hA hn) K0 hOK hml hl.1 e_AL_grow1 hX hS d_AL_grow0_7 (Nat.le_of_ble_eq_true rfl) (Nat.le_of_ble_eq_true rfl) (Nat.le_of_ble_eq_true rfl) (Nat.le_of_ble_eq_true rfl) (Nat.le_of_ble_eq_true rfl) (fun q w1 H locs hw hX hS => ?_)
  exact mh_aret K0 hr (Or.inr ⟨_, rfl⟩) (Or.inr ⟨_, rfl⟩) hlocks hX hS (⟨q, rfl, hw⟩) (Nat.le_of_ble_eq_true rfl) (Nat.le_of_ble_eq_true rfl) d_AL_grow0_10
set_option maxHeartbeats 4000000 in
set_option maxRecDepth 100000 in
theorem c_AL_add3 {l : Launch} {b : Nat} {dC : Nat → ClassId} {dI : Nat → Nat → Nat} {dA : Nat → ClassId} {zs : Nat → Nat} {w : mh_w} {a n0 ar : Nat} {mc : Int32} (h : w 1 0 = some (a, .inr (5, [.int mc, .ref ar, .int (nI n0)]))) {f : Nat → Option Nat} (hA : rA dA zs w ar n0 f) (hel : mh_el w n0 f) (hn : n0 < 400) {y : Nat} {ky iy : Nat} {ys : List Value} (hky : 10 ≤ ky) (hy : w ky iy = some (y, .inr (2, ys))) : mh_Met l b dC dI dA zs y_AL_add3 (mh_rm 6 1 600) [.ref a, .ref y, .ref ar, .int (nI n0)] w (mh_V none (fun w' => rL dA zs w' a (n0 + 1) (va_up f n0 (some y)) ∧ ∀ k' i', k' ≠ 1 → k' ≠ 2 → w' k' i' = w k' i')) := by
  refine mh_ofW (cc := b_AL_add3) (n := 4) (ret := none) (hs := []) (by decide) k486 ?_
  intro p e s m below meth c hx hb hr hml hown hts hlocks hnm hT hOK hadm
  have K0 : mh_K0 p s m ([.ref a, .ref y, .ref ar, .int (nI n0)]).toArray c "java/util/ArrayList" b_AL_add3 dC dI dA := ⟨hx, hb, hown, hts, hOK.1, hOK.2.1⟩
  have hX := hOK.2.2.2.2
  have hb0 := hOK.2.2.2.1
  have hS : va_S (mh_A b) s.heap s.heap [] := va_S.rf
  have hl := lv_entry ([.ref a, .ref y, .ref ar, .int (nI n0)]) (n := 4) (Nat.le_of_ble_eq_true rfl)
  rw [lg_entry_eq]
  generalize (lg_sl ([.ref a, .ref y, .ref ar, .int (nI n0)]) ++ List.replicate (4 - (lg_sl ([.ref a, .ref y, .ref ar, .int (nI n0)])).length) Slot.unset).toArray = ls at hl ⊢
  have hl : lv_has ls 4 [(0, .ref a), (1, .ref y), (2, .ref ar), (3, .int (nI n0))] := hl
  refine lv_iload_n hx hb d_AL_add3_0 rfl (lv_at hl 3 rfl) ?_
  refine lv_aload_n hx hb d_AL_add3_1 rfl (lv_at hl 2 rfl) ?_
  rcases hA with ⟨e1, e2⟩ | ⟨ix, cap, g, hc1, hc2, hc3, hg, hgf⟩
  · skip
    have hA : (n0 = 0 ∧ ar = zs 0) ∨ ∃ (ix : Nat) (g : Nat → Option Nat), 0 < n0 ∧ w 2 ix = some (ar, .inl (dA 3, n0, .inr (.inr (.inr (.inr g))))) ∧ mh_el w n0 g ∧ ∀ j, j < n0 → g j = f j := Or.inl ⟨e1, e2⟩
    have hT0 := hOK.2.2.1.2.2.2.2.2.2.2.1
    rw [← e2] at hT0
    refine va_tlen hx hb hT0 hS (v := nI 0) rfl d_AL_add3_2 ?_
    refine mh_icmp_ne (tgt := 11) hx hb (by omega) (by omega) d_AL_add3_3 (by decide) (fun z => absurd z (by omega)) (fun _ => ?_)
    refine lv_aload_n hx hb d_AL_add3_6 rfl (lv_at hl 0 rfl) ?_
    refine mh_callE (mh_sV (rest := []) (av := []) K0 hX h rfl e_AL_grow0 l_AL_129 k489 kp11 rfl rfl d_AL_add3_7) (c_AL_grow0 h (hA) hn) K0 hOK hml hl.1 e_AL_grow0 hX hS d_AL_add3_7 (Nat.le_of_ble_eq_true rfl) (Nat.le_of_ble_eq_true rfl) (Nat.le_of_ble_eq_true rfl) (Nat.le_of_ble_eq_true rfl) (Nat.le_of_ble_eq_true rfl) (fun q w1 H locs ⟨⟨mc2, ix2, cap2, g2, hq0, hc1, hc2, hq1, hgf2⟩, hq2⟩ hX hS => ?_)
    refine lv_astore_n (lv' := [(2, .ref q), (0, .ref a), (1, .ref y), (3, .int (nI n0))]) hx hb d_AL_add3_10 rfl hl (by decide) rfl (fun ls hl => ?_)
    refine lv_aload_n hx hb d_AL_add3_11 rfl (lv_at hl 0 rfl) ?_
    refine lv_iload_n hx hb d_AL_add3_12 rfl (lv_at hl 3 rfl) ?_
    refine lv_aload_n hx hb d_AL_add3_13 rfl (lv_at hl 2 rfl) ?_
    refine mh_aastO k850 K0 hX hS hq1 ((hq2 ky iy (by omega) (by omega)).trans hy) (by omega) (by omega) d_AL_add3_14 (fun H locs hX hS => ?_)
    have fs53 := mh_self hX
    refine lv_aload_n hx hb d_AL_add3_15 rfl (lv_at hl 1 rfl) ?_
    refine lv_iload_n hx hb d_AL_add3_16 rfl (lv_at hl 3 rfl) ?_
    refine lv_iconst (v := nI 1) hx hb d_AL_add3_17 (by decide) ?_
    refine mh_addN hx hb d_AL_add3_18 ?_
    refine mh_put K0 hX hS (mh_kp hq0 (by omega)) f_AL_48 p_5_2 rfl rfl (Nat.le_of_ble_eq_true rfl) d_AL_add3_19 (fun H locs hX hS => ?_)
    have hX : mh_P (dC, dI) b (mh_set _ 1 0 (some (a, .inr (5, [.int mc2, .ref q, .int (nI (n0 + 1))])))) H := hX
    have fs54 := mh_self hX
    refine mh_vret K0 hr hlocks hX hS (⟨rfl, ⟨_, _, fs54, Or.inr ⟨ix2, cap2, _, by omega, by omega, by omega, (mh_kp fs53 (by omega)), fun j hj => ?_⟩⟩, (fun k2 i2 h1 h2 => (mh_set_ne _ _ _ _ (by omega)).trans ((mh_set_ne _ _ _ _ (by omega)).trans (hq2 k2 i2 h1 h2)))⟩) (Nat.le_of_ble_eq_true rfl) (Nat.le_of_ble_eq_true rfl) d_AL_add3_22
    by_cases e9 : j = n0
    · rw [e9, va_up_self, va_up_self]
    · rw [va_up_ne _ _ e9, va_up_ne _ _ e9]; exact hgf2 j (by omega)
  · skip
    refine mh_alen 3 rfl K0 hX hg d_AL_add3_2 ?_
    refine mh_icmp_ne (tgt := 11) hx hb (by omega) (by omega) d_AL_add3_3 (by decide) (fun ct => ?_) (fun cf => ?_)
    · skip
      refine lv_aload_n hx hb d_AL_add3_11 rfl (lv_at hl 2 rfl) ?_
      refine lv_iload_n hx hb d_AL_add3_12 rfl (lv_at hl 3 rfl) ?_
      refine lv_aload_n hx hb d_AL_add3_13 rfl (lv_at hl 1 rfl) ?_
      refine mh_aastO k850 K0 hX hS hg hy (by omega) (by omega) d_AL_add3_14 (fun H locs hX hS => ?_)
      have fs55 := mh_self hX
      refine lv_aload_n hx hb d_AL_add3_15 rfl (lv_at hl 0 rfl) ?_
      refine lv_iload_n hx hb d_AL_add3_16 rfl (lv_at hl 3 rfl) ?_
      refine lv_iconst (v := nI 1) hx hb d_AL_add3_17 (by decide) ?_
      refine mh_addN hx hb d_AL_add3_18 ?_
      refine mh_put K0 hX hS (mh_kp h (by omega)) f_AL_48 p_5_2 rfl rfl (Nat.le_of_ble_eq_true rfl) d_AL_add3_19 (fun H locs hX hS => ?_)
      have hX : mh_P (dC, dI) b (mh_set _ 1 0 (some (a, .inr (5, [.int mc, .ref ar, .int (nI (n0 + 1))])))) H := hX
      have fs56 := mh_self hX
      refine mh_vret K0 hr hlocks hX hS (⟨rfl, ⟨_, _, fs56, Or.inr ⟨ix, cap, _, by omega, by omega, by omega, (mh_kp fs55 (by omega)), fun j hj => ?_⟩⟩, (fun k2 i2 h1 h2 => (mh_set_ne _ _ _ _ (by omega)).trans ((mh_set_ne _ _ _ _ (by omega))))⟩) (Nat.le_of_ble_eq_true rfl) (Nat.le_of_ble_eq_true rfl) d_AL_add3_22
      by_cases e9 : j = n0
      · rw [e9, va_up_self, va_up_self]
      · rw [va_up_ne _ _ e9, va_up_ne _ _ e9]; exact hgf j (by omega)
    · skip
      subst cf
      have hel2 : mh_el w n0 g := fun j y hj hy => hel j y hj ((hgf j hj).symm.trans hy)
      refine lv_aload_n hx hb d_AL_add3_6 rfl (lv_at hl 0 rfl) ?_
      refine mh_callE (mh_sV (rest := []) (av := []) K0 hX h rfl e_AL_grow0 l_AL_129 k489 kp11 rfl rfl d_AL_add3_7) (c_AL_grow0 h (Or.inr ⟨ix, g, hc2, hg, hel2, hgf⟩) hn) K0 hOK hml hl.1 e_AL_grow0 hX hS d_AL_add3_7 (Nat.le_of_ble_eq_true rfl) (Nat.le_of_ble_eq_true rfl) (Nat.le_of_ble_eq_true rfl) (Nat.le_of_ble_eq_true rfl) (Nat.le_of_ble_eq_true rfl) (fun q w1 H locs ⟨⟨mc2, ix2, cap2, g2, hq0, hc1, hc2, hq1, hgf2⟩, hq2⟩ hX hS => ?_)
      refine lv_astore_n (lv' := [(2, .ref q), (0, .ref a), (1, .ref y), (3, .int (nI n0))]) hx hb d_AL_add3_10 rfl hl (by decide) rfl (fun ls hl => ?_)
      refine lv_aload_n hx hb d_AL_add3_11 rfl (lv_at hl 0 rfl) ?_
      refine lv_iload_n hx hb d_AL_add3_12 rfl (lv_at hl 3 rfl) ?_
      refine lv_aload_n hx hb d_AL_add3_13 rfl (lv_at hl 2 rfl) ?_
      refine mh_aastO k850 K0 hX hS hq1 ((hq2 ky iy (by omega) (by omega)).trans hy) (by omega) (by omega) d_AL_add3_14 (fun H locs hX hS => ?_)
      have fs57 := mh_self hX
      refine lv_aload_n hx hb d_AL_add3_15 rfl (lv_at hl 1 rfl) ?_
      refine lv_iload_n hx hb d_AL_add3_16 rfl (lv_at hl 3 rfl) ?_
      refine lv_iconst (v := nI 1) hx hb d_AL_add3_17 (by decide) ?_
      refine mh_addN hx hb d_AL_add3_18 ?_
      refine mh_put K0 hX hS (mh_kp hq0 (by omega)) f_AL_48 p_5_2 rfl rfl (Nat.le_of_ble_eq_true rfl) d_AL_add3_19 (fun H locs hX hS => ?_)
      have hX : mh_P (dC, dI) b (mh_set _ 1 0 (some (a, .inr (5, [.int mc2, .ref q, .int (nI (n0 + 1))])))) H := hX
      have fs58 := mh_self hX
      refine mh_vret K0 hr hlocks hX hS (⟨rfl, ⟨_, _, fs58, Or.inr ⟨ix2, cap2, _, by omega, by omega, by omega, (mh_kp fs57 (by omega)), fun j hj => ?_⟩⟩, (fun k2 i2 h1 h2 => (mh_set_ne _ _ _ _ (by omega)).trans ((mh_set_ne _ _ _ _ (by omega)).trans (hq2 k2 i2 h1 h2)))⟩) (Nat.le_of_ble_eq_true rfl) (Nat.le_of_ble_eq_true rfl) d_AL_add3_22
      by_cases e9 : j = n0
      · rw [e9, va_up_self, va_up_self]
      · rw [va_up_ne _ _ e9, va_up_ne _ _ e9]; exact hgf2 j (by omega)
set_option maxHeartbeats 4000000 in
set_option maxRecDepth 100000 in
theorem c_AL_add1 {l : Launch} {b : Nat} {dC : Nat → ClassId} {dI : Nat → Nat → Nat} {dA : Nat → ClassId} {zs : Nat → Nat} {w : mh_w} {a n0 : Nat} {f : Nat → Option Nat} (h : rL dA zs w a n0 f) (hel : mh_el w n0 f) (hn : n0 < 400) {y : Nat} {ky iy : Nat} {ys : List Value} (hky : 10 ≤ ky) (hy : w ky iy = some (y, .inr (2, ys))) : mh_Met l b dC dI dA zs y_AL_add1 (mh_rm 7 1 600) [.ref a, .ref y] w (mh_V (some (.int (nI 1))) (fun w' => rL dA zs w' a (n0 + 1) (va_up f n0 (some y)) ∧ ∀ k' i', k' ≠ 1 → k' ≠ 2 → w' k' i' = w k' i')) := by
  obtain ⟨mc, ar, h, hA⟩ := h
  refine mh_ofW (cc := b_AL_add1) (n := 2) (ret := (some .boolean)) (hs := []) (by decide) k482 ?_
  intro p e s m below meth c hx hb hr hml hown hts hlocks hnm hT hOK hadm
  have K0 : mh_K0 p s m ([.ref a, .ref y]).toArray c "java/util/ArrayList" b_AL_add1 dC dI dA := ⟨hx, hb, hown, hts, hOK.1, hOK.2.1⟩
  have hX := hOK.2.2.2.2
  have hb0 := hOK.2.2.2.1
  have hS : va_S (mh_A b) s.heap s.heap [] := va_S.rf
  have hl := lv_entry ([.ref a, .ref y]) (n := 2) (Nat.le_of_ble_eq_true rfl)
  rw [lg_entry_eq]
  generalize (lg_sl ([.ref a, .ref y]) ++ List.replicate (2 - (lg_sl ([.ref a, .ref y])).length) Slot.unset).toArray = ls at hl ⊢
  have hl : lv_has ls 2 [(0, .ref a), (1, .ref y)] := hl
  refine lv_aload_n hx hb d_AL_add1_0 rfl (lv_at hl 0 rfl) ?_
  refine lv_dup hx hb d_AL_add1_1 rfl ?_
  refine mh_get K0 hX h f_AL_63 rfl d_AL_add1_2 ?_
  refine lv_iconst (v := nI 1) hx hb d_AL_add1_5 (by decide) ?_
  refine lv_iadd hx hb d_AL_add1_6 ?_
  refine mh_put K0 hX hS h f_AL_63 p_5_0 rfl rfl (Nat.le_of_ble_eq_true rfl) d_AL_add1_7 (fun H locs hX hS => ?_)
  have hX : mh_P (dC, dI) b (mh_set _ 1 0 (some (a, .inr (5, [.int (mc + nI 1), .ref ar, .int (nI n0)])))) H := hX
  have fs59 := mh_self hX
  refine lv_aload_n hx hb d_AL_add1_10 rfl (lv_at hl 0 rfl) ?_
  refine lv_aload_n hx hb d_AL_add1_11 rfl (lv_at hl 1 rfl) ?_
  refine lv_aload_n hx hb d_AL_add1_12 rfl (lv_at hl 0 rfl) ?_
  refine mh_get K0 hX fs59 f_AL_9 rfl d_AL_add1_13 ?_
  refine lv_aload_n hx hb d_AL_add1_16 rfl (lv_at hl 0 rfl) ?_
  refine mh_get K0 hX fs59 f_AL_48 rfl d_AL_add1_17 ?_
  refine mh_callV (mh_sV (rest := []) (av := [.ref y, .ref ar, .int (nI n0)]) K0 hX fs59 rfl e_AL_add3 l_AL_131 k485 kp10 rfl rfl d_AL_add1_20) (c_AL_add3 fs59 (f := f) (hA.elim Or.inl (fun ⟨ix, cap, g, c1, c2, c3, c4, c5⟩ => Or.inr ⟨ix, cap, g, c1, c2, c3, (mh_set_ne _ _ _ _ (by omega)).trans c4, c5⟩)) (hel.to (fun k2 i2 h2 => mh_set_ne _ _ _ _ (by omega))) hn hky ((mh_set_ne _ _ _ _ (by omega)).trans hy)) K0 hOK hml hl.1 e_AL_add3 hX hS d_AL_add1_20 (Nat.le_of_ble_eq_true rfl) (Nat.le_of_ble_eq_true rfl) (Nat.le_of_ble_eq_true rfl) (Nat.le_of_ble_eq_true rfl) (Nat.le_of_ble_eq_true rfl) (fun w1 H locs ⟨hL, hF⟩ hX hS => ?_)
  refine W.eq (g2 := F0 m 23 ls []) rfl ?_
  refine lv_iconst (v := nI 1) hx hb d_AL_add1_23 (by decide) ?_
  exact mh_iret K0 hr (by decide) hlocks hX hS (⟨rfl, hL, fun k2 i2 h1 h2 => (hF k2 i2 h1 h2).trans (mh_set_ne _ _ _ _ (by omega))⟩) (Nat.le_of_ble_eq_true rfl) (Nat.le_of_ble_eq_true rfl) d_AL_add1_24
end
section
/-! THE STORE IN THE WORLD -/
def mh_x (w w' : mh_w) : Prop := ∀ k i, k ≠ 99 → w' k i = w k i
def mh_C (w w' : mh_w) : Prop := ∀ k i, 40 ≤ k → k ≠ 99 → w' k i = w k i
theorem mh_x.of {w : mh_w} {q : Option (Nat × va_E)} : mh_x w (mh_set w 99 0 q) := fun k i hk => mh_set_ne w 99 0 q (fun z => hk z.1)
def cS (dA : Nat → ClassId) (w : mh_w) (log : Nat → st_I) (m s a : Nat) : Prop := rS dA w s a (st_st log m) (fun key => st_lw log key m) m (pb_cnt (fun i => iv_gd (log i)) m)
def cV (dA : Nat → ClassId) (w : mh_w) (log : Nat → st_I) (d : Option st_I) (t a : Nat) : Prop := ∃ st, rN dA w 12 t a st ∧ ∀ x, d = some x → ∀ j, j < 256 → st j = st_vw log x j
def cD (dA : Nat → ClassId) (w : mh_w) (d : Option st_I) (t : Nat) (r : Option Nat) : Prop := match d with
  | none => r = none
  | some x => ∃ a, r = some a ∧ rI dA w 16 t a x
theorem cS.to {dA : Nat → ClassId} {w w' : mh_w} {log log' : Nat → st_I} {m s a : Nat} (h : cS dA w log m s a) (h1 : ∀ k, 4 ≤ k → k < 10 → w' k s = w k s) (h2 : ∀ i, i < m → log i = log' i) : cS dA w' log' m s a := by
  have := rS.to h h1 (st' := st_st log' m) (lw' := fun key => st_lw log' key m) (fun j _ => by rw [st_st_congr h2]) (fun j _ => st_lw_congr h2)
  unfold cS
  rw [← pb_cnt_congr (f := fun i => iv_gd (log i)) (g := fun i => iv_gd (log' i)) (n := m) (fun i hi => by rw [h2 i hi])]
  exact this
theorem cV.to {dA : Nat → ClassId} {w w' : mh_w} {log log' : Nat → st_I} {d : Option st_I} {t a : Nat} (h : cV dA w log d t a) (h1 : ∀ k, 12 ≤ k → k < 16 → w' k t = w k t) (h2 : ∀ x, d = some x → ∀ i, i < iv_sn x → log i = log' i) : cV dA w' log' d t a := by
  obtain ⟨st, e1, e2⟩ := h
  refine ⟨st, e1.to (fun z hz => h1 (12 + z) (by omega) (by omega)) (fun _ _ => rfl), fun x hx j hj => ?_⟩
  rw [e2 x hx j hj]
  unfold st_vw
  rw [st_st_congr (h2 x hx)]
theorem cD.to {dA : Nat → ClassId} {w w' : mh_w} {d : Option st_I} {t : Nat} {r : Option Nat} (h : cD dA w d t r) (h1 : ∀ k, 16 ≤ k → k < 24 → w' k t = w k t) : cD dA w' d t r := by
  unfold cD at h ⊢
  cases d with
  | none => exact h
  | some x =>
    obtain ⟨a, e1, e2⟩ := h
    exact ⟨a, e1, e2.to (fun z hz => h1 (16 + z) (by omega) (by omega))⟩
def rP (dA : Nat → ClassId) (zs : Nat → Nat) (w : mh_w) (x0 : Nat) (g : st_G) (aL aS aD aV : Nat) (sv dr vw lg : Nat → Option Nat) : Prop :=
  w 0 0 = some (x0, .inr (4, [.ref aL, .ref aS, .ref aD, .ref aV, .int (nI (sg_rs g))])) ∧ rL dA zs w aL (sg_n g) lg ∧ w 3 0 = some (aS, .inl (dA 4, 4, .inr (.inr (.inr (.inr sv))))) ∧ w 10 0 = some (aD, .inl (dA 5, 16, .inr (.inr (.inr (.inr dr))))) ∧ w 11 0 = some (aV, .inl (dA 6, 16, .inr (.inr (.inr (.inr vw))))) ∧
  (∀ s, s < 4 → ∃ a, sv s = some a ∧ cS dA w (sg_lg g) (sg_at g s) s a) ∧ (∀ t, t < 16 → ∃ a, vw t = some a ∧ cV dA w (sg_lg g) (sg_dr g t) t a) ∧ (∀ t, t < 16 → cD dA w (sg_dr g t) t (dr t)) ∧ ∀ i, i < sg_n g → ∃ a, lg i = some a ∧ rI dA w 24 i a (sg_lg g i)
def rC (dA : Nat → ClassId) (zs : Nat → Nat) (w : mh_w) (x0 : Nat) (g : st_G) : Prop := ∃ (aL aS aD aV : Nat) (sv dr vw lg : Nat → Option Nat), rP dA zs w x0 g aL aS aD aV sv dr vw lg
theorem rP.to {dA : Nat → ClassId} {zs : Nat → Nat} {w w' : mh_w} {x0 : Nat} {g : st_G} {aL aS aD aV : Nat} {sv dr vw lg : Nat → Option Nat} (h : rP dA zs w x0 g aL aS aD aV sv dr vw lg) (hw : ∀ k i, k < 40 → w' k i = w k i) : rP dA zs w' x0 g aL aS aD aV sv dr vw lg := by
  obtain ⟨r0, rLg, r3, r10, r11, rs, rv, rd, rl⟩ := h
  refine ⟨(hw 0 0 (by omega)).trans r0, rLg.to (hw 1 0 (by omega)) (fun i => hw 2 i (by omega)) (fun _ _ => rfl), (hw 3 0 (by omega)).trans r3, (hw 10 0 (by omega)).trans r10, (hw 11 0 (by omega)).trans r11, fun s hs => ?_, fun t ht => ?_, fun t ht => (rd t ht).to (fun k _ h => hw k t (by omega)), fun i hi => ?_⟩
  · obtain ⟨a, e1, e2⟩ := rs s hs
    exact ⟨a, e1, e2.to (fun k _ h => hw k s (by omega)) (fun _ _ => rfl)⟩
  · obtain ⟨a, e1, e2⟩ := rv t ht
    exact ⟨a, e1, e2.to (fun k _ h => hw k t (by omega)) (fun _ _ _ _ => rfl)⟩
  · obtain ⟨a, e1, e2⟩ := rl i hi
    exact ⟨a, e1, e2.to (fun z hz => hw (24 + z) i (by omega))⟩
theorem rC.x {dA : Nat → ClassId} {zs : Nat → Nat} {w w' : mh_w} {x0 : Nat} {g : st_G} (h : rC dA zs w x0 g) (hw : mh_x w w') : rC dA zs w' x0 g := by
  obtain ⟨aL, aS, aD, aV, sv, dr, vw, lg, h⟩ := h
  exact ⟨aL, aS, aD, aV, sv, dr, vw, lg, h.to (fun k i hk => hw k i (by omega))⟩
theorem mh_x.C {w w' : mh_w} (h : mh_x w w') : mh_C w w' := fun k i _ hk => h k i hk
theorem rC.c {dA : Nat → ClassId} {zs : Nat → Nat} {w w' : mh_w} {x0 : Nat} {g : st_G} (h : rC dA zs w x0 g) (hw : ∀ k i, k < 40 → w' k i = w k i) : rC dA zs w' x0 g := by
  obtain ⟨aL, aS, aD, aV, sv, dr, vw, lg, h⟩ := h
  exact ⟨aL, aS, aD, aV, sv, dr, vw, lg, h.to hw⟩
/-- what is of transaction t has changed -/
theorem rP.tx {dA : Nat → ClassId} {zs : Nat → Nat} {w w' : mh_w} {x0 : Nat} {g : st_G} {aL aS aD aV : Nat} {sv dr vw lg : Nat → Option Nat} (h : rP dA zs w x0 g aL aS aD aV sv dr vw lg) {t : Nat} {d' : Option st_I} {dr' : Nat → Option Nat} (hw : ∀ k i, k < 40 → ¬ (k = 10 ∧ i = 0) → ¬ (12 ≤ k ∧ k < 24 ∧ i = t) → w' k i = w k i)
    (h10 : w' 10 0 = some (aD, .inl (dA 5, 16, .inr (.inr (.inr (.inr dr')))))) (hdr : ∀ z, z ≠ t → dr' z = dr z) (hD : cD dA w' d' t (dr' t)) (hV : ∃ a, vw t = some a ∧ cV dA w' (sg_lg g) d' t a) : rP dA zs w' x0 (g.1, g.2.1, va_up (sg_dr g) t d', g.2.2.2) aL aS aD aV sv dr' vw lg := by
  obtain ⟨r0, rLg, r3, r10, r11, rs, rv, rd, rl⟩ := h
  refine ⟨(hw 0 0 (by omega) (by omega) (by omega)).trans r0, rLg.to (hw 1 0 (by omega) (by omega) (by omega)) (fun i => hw 2 i (by omega) (by omega) (by omega)) (fun _ _ => rfl), (hw 3 0 (by omega) (by omega) (by omega)).trans r3, h10, (hw 11 0 (by omega) (by omega) (by omega)).trans r11, fun s hs => ?_, fun z hz => ?_, fun z hz => ?_, fun i hi => ?_⟩
  · obtain ⟨a, e1, e2⟩ := rs s hs
    exact ⟨a, e1, e2.to (fun k _ h => hw k s (by omega) (by omega) (by omega)) (fun _ _ => rfl)⟩
  · show ∃ a, vw z = some a ∧ cV dA w' (sg_lg g) (va_up (sg_dr g) t d' z) z a
    by_cases e : z = t
    · subst e; rw [va_up_self]; exact hV
    · rw [va_up_ne _ _ e]
      obtain ⟨a, e1, e2⟩ := rv z hz
      exact ⟨a, e1, e2.to (fun k h1 h2 => hw k z (by omega) (by omega) (by omega)) (fun _ _ _ _ => rfl)⟩
  · show cD dA w' (va_up (sg_dr g) t d' z) z (dr' z)
    by_cases e : z = t
    · subst e; rw [va_up_self]; exact hD
    · rw [va_up_ne _ _ e, hdr z e]
      exact (rd z hz).to (fun k h1 h2 => hw k z (by omega) (by omega) (by omega))
  · obtain ⟨a, e1, e2⟩ := rl i hi
    exact ⟨a, e1, e2.to (fun z hz => hw (24 + z) i (by omega) (by omega) (by omega))⟩
/-- a server has gone on, or is back at the start -/
theorem rP.sv {dA : Nat → ClassId} {zs : Nat → Nat} {w w' : mh_w} {x0 : Nat} {g : st_G} {aL aS aD aV : Nat} {sv dr vw lg : Nat → Option Nat} (h : rP dA zs w x0 g aL aS aD aV sv dr vw lg) {s m : Nat} (hw : ∀ k i, k < 40 → ¬ (4 ≤ k ∧ k < 10 ∧ i = s) → w' k i = w k i)
    (hV : ∃ a, sv s = some a ∧ cS dA w' (sg_lg g) m s a) : rP dA zs w' x0 (g.1, va_up (sg_at g) s m, g.2.2) aL aS aD aV sv dr vw lg := by
  obtain ⟨r0, rLg, r3, r10, r11, rs, rv, rd, rl⟩ := h
  refine ⟨(hw 0 0 (by omega) (by omega)).trans r0, rLg.to (hw 1 0 (by omega) (by omega)) (fun i => hw 2 i (by omega) (by omega)) (fun _ _ => rfl), (hw 3 0 (by omega) (by omega)).trans r3, (hw 10 0 (by omega) (by omega)).trans r10, (hw 11 0 (by omega) (by omega)).trans r11, fun z hz => ?_, fun z hz => ?_, fun z hz => ?_, fun i hi => ?_⟩
  · show ∃ a, sv z = some a ∧ cS dA w' (sg_lg g) (va_up (sg_at g) s m z) z a
    by_cases e : z = s
    · subst e; rw [va_up_self]; exact hV
    · rw [va_up_ne _ _ e]
      obtain ⟨a, e1, e2⟩ := rs z hz
      exact ⟨a, e1, e2.to (fun k _ h => hw k z (by omega) (by omega)) (fun _ _ => rfl)⟩
  · obtain ⟨a, e1, e2⟩ := rv z hz
    exact ⟨a, e1, e2.to (fun k h1 h2 => hw k z (by omega) (by omega)) (fun _ _ _ _ => rfl)⟩
  · exact (rd z hz).to (fun k h1 h2 => hw k z (by omega) (by omega))
  · obtain ⟨a, e1, e2⟩ := rl i hi
    exact ⟨a, e1, e2.to (fun z hz => hw (24 + z) i (by omega) (by omega))⟩
/-- the draft of t: it is there -/
theorem cD.some {dA : Nat → ClassId} {w : mh_w} {d : Option st_I} {x : st_I} {t : Nat} {r : Option Nat} (h : cD dA w d t r) (e : d = some x) : ∃ a, r = Option.some a ∧ rI dA w 16 t a x := by subst e; exact h
theorem cD.none {dA : Nat → ClassId} {w : mh_w} {d : Option st_I} {t : Nat} {r : Option Nat} (h : cD dA w d t r) (e : d = Option.none) : r = Option.none := by subst e; exact h
theorem rI.fst {dA : Nat → ClassId} {w : mh_w} {k i a : Nat} {x : st_I} (h : rI dA w k i a x) : ∃ (a1 a3 a4 a5 a6 a7 : Nat), w k i = some (a, .inr (2, [.int (nI (iv_sv x)), .int (nI (iv_sn x)), .int (nI (iv_lv x)), .ref a1, .ref a3, .ref a4, .ref a5, .ref a6, .ref a7, .int (nI (iv_np x)), .int (nI (iv_nw x)), .int (mh_b (iv_gd x))])) := by
  obtain ⟨a1, a3, a4, a5, a6, a7, lo, hi, wk, hn, nn, i0, -⟩ := h
  exact ⟨a1, a3, a4, a5, a6, a7, i0⟩
theorem rN.fst {dA : Nat → ClassId} {w : mh_w} {k i a : Nat} {st : Nat → Option Int64} (h : rN dA w k i a st) : ∃ (a1 a3 : Nat), w k i = some (a, .inr (1, [.ref a1, .ref a3])) := by
  obtain ⟨a1, a3, f, i0, -⟩ := h
  exact ⟨a1, a3, i0⟩
theorem rL.el {dA : Nat → ClassId} {zs : Nat → Nat} {w : mh_w} {x0 : Nat} {g : st_G} {aL aS aD aV : Nat} {sv dr vw lg : Nat → Option Nat} (h : rP dA zs w x0 g aL aS aD aV sv dr vw lg) : mh_el w (sg_n g) lg := fun j y hj hy => by
  obtain ⟨a, e1, e2⟩ := h.2.2.2.2.2.2.2.2 j hj
  cases e1.symm.trans hy
  obtain ⟨a1, a3, a4, a5, a6, a7, i0⟩ := e2.fst
  exact ⟨24, j, _, by omega, i0⟩
/-- the array of the list, if it holds something -/
theorem rA.in {dA : Nat → ClassId} {zs : Nat → Nat} {w : mh_w} {ar n j : Nat} {f : Nat → Option Nat} (h : rA dA zs w ar n f) (hj : j < n) : ∃ (ix cap : Nat) (g : Nat → Option Nat), n ≤ cap ∧ cap ≤ 600 ∧ w 2 ix = some (ar, .inl (dA 3, cap, .inr (.inr (.inr (.inr g))))) ∧ g j = f j := by
  rcases h with ⟨e, -⟩ | ⟨ix, cap, g, g1, g2, g3, g4, g5⟩
  · omega
  · exact ⟨ix, cap, g, g1, g3, g4, g5 j hj⟩
theorem d_MH_needBelow_0 : decode b_MH_needBelow 0 = .ok (.iload_n 0, 1) := by decide +kernel
theorem d_MH_needBelow_1 : decode b_MH_needBelow 1 = .ok (.ifCond .lt 8, 3) := by decide +kernel
theorem d_MH_needBelow_4 : decode b_MH_needBelow 4 = .ok (.iload_n 0, 1) := by decide +kernel
theorem d_MH_needBelow_5 : decode b_MH_needBelow 5 = .ok (.iload_n 1, 1) := by decide +kernel
theorem d_MH_needBelow_6 : decode b_MH_needBelow 6 = .ok (.if_icmp .lt 13, 3) := by decide +kernel
theorem d_MH_needBelow_19 : decode b_MH_needBelow 19 = .ok (.return_, 1) := by decide +kernel
theorem d_MH_needBelow_9 : decode b_MH_needBelow 9 = .ok (.new 165, 3) := by decide +kernel
theorem d_MH_needBelow_12 : decode b_MH_needBelow 12 = .ok (.dup, 1) := by decide +kernel
theorem d_MH_needBelow_13 : decode b_MH_needBelow 13 = .ok (.ldc 167, 2) := by decide +kernel
theorem d_MH_needBelow_15 : decode b_MH_needBelow 15 = .ok (.invokespecial 169, 3) := by decide +kernel
theorem d_MH_needBelow_18 : decode b_MH_needBelow 18 = .ok (.athrow, 1) := by decide +kernel
theorem d_MH_needPart_0 : decode b_MH_needPart 0 = .ok (.iload_n 1, 1) := by decide +kernel
theorem d_MH_needPart_1 : decode b_MH_needPart 1 = .ok (.sipush 256, 3) := by decide +kernel
theorem d_MH_needPart_4 : decode b_MH_needPart 4 = .ok (.invokestatic 40, 3) := by decide +kernel
theorem d_MH_needPart_7 : decode b_MH_needPart 7 = .ok (.iload_n 0, 1) := by decide +kernel
theorem d_MH_needPart_8 : decode b_MH_needPart 8 = .ok (.iload_n 1, 1) := by decide +kernel
theorem d_MH_needPart_9 : decode b_MH_needPart 9 = .ok (.iconst 1, 1) := by decide +kernel
theorem d_MH_needPart_10 : decode b_MH_needPart 10 = .ok (.iadd, 1) := by decide +kernel
theorem d_MH_needPart_11 : decode b_MH_needPart 11 = .ok (.invokestatic 40, 3) := by decide +kernel
theorem d_MH_needPart_14 : decode b_MH_needPart 14 = .ok (.iload_n 2, 1) := by decide +kernel
theorem d_MH_needPart_15 : decode b_MH_needPart 15 = .ok (.iconst 4, 1) := by decide +kernel
theorem d_MH_needPart_16 : decode b_MH_needPart 16 = .ok (.invokestatic 40, 3) := by decide +kernel
theorem d_MH_needPart_19 : decode b_MH_needPart 19 = .ok (.return_, 1) := by decide +kernel
theorem d_MH_openDraft_0 : decode b_MH_openDraft 0 = .ok (.aload_n 0, 1) := by decide +kernel
theorem d_MH_openDraft_1 : decode b_MH_openDraft 1 = .ok (.getfield 25, 3) := by decide +kernel
theorem d_MH_openDraft_4 : decode b_MH_openDraft 4 = .ok (.iload_n 1, 1) := by decide +kernel
theorem d_MH_openDraft_5 : decode b_MH_openDraft 5 = .ok (.aaload, 1) := by decide +kernel
theorem d_MH_openDraft_6 : decode b_MH_openDraft 6 = .ok (.astore_n 2, 1) := by decide +kernel
theorem d_MH_openDraft_7 : decode b_MH_openDraft 7 = .ok (.aload_n 2, 1) := by decide +kernel
theorem d_MH_openDraft_8 : decode b_MH_openDraft 8 = .ok (.ifnonnull 13, 3) := by decide +kernel
theorem d_MH_openDraft_21 : decode b_MH_openDraft 21 = .ok (.aload_n 2, 1) := by decide +kernel
theorem d_MH_openDraft_22 : decode b_MH_openDraft 22 = .ok (.areturn, 1) := by decide +kernel
theorem d_MH_openDraft_11 : decode b_MH_openDraft 11 = .ok (.new 44, 3) := by decide +kernel
theorem d_MH_openDraft_14 : decode b_MH_openDraft 14 = .ok (.dup, 1) := by decide +kernel
theorem d_MH_openDraft_15 : decode b_MH_openDraft 15 = .ok (.ldc 170, 2) := by decide +kernel
theorem d_MH_openDraft_17 : decode b_MH_openDraft 17 = .ok (.invokespecial 48, 3) := by decide +kernel
theorem d_MH_openDraft_20 : decode b_MH_openDraft 20 = .ok (.athrow, 1) := by decide +kernel
theorem d_MH_logged_0 : decode b_MH_logged 0 = .ok (.iload_n 1, 1) := by decide +kernel
theorem d_MH_logged_1 : decode b_MH_logged 1 = .ok (.ifCond .lt 14, 3) := by decide +kernel
theorem d_MH_logged_4 : decode b_MH_logged 4 = .ok (.iload_n 1, 1) := by decide +kernel
theorem d_MH_logged_5 : decode b_MH_logged 5 = .ok (.aload_n 0, 1) := by decide +kernel
theorem d_MH_logged_6 : decode b_MH_logged 6 = .ok (.getfield 10, 3) := by decide +kernel
theorem d_MH_logged_9 : decode b_MH_logged 9 = .ok (.invokevirtual 109, 3) := by decide +kernel
theorem d_MH_logged_12 : decode b_MH_logged 12 = .ok (.if_icmp .lt 13, 3) := by decide +kernel
theorem d_MH_logged_25 : decode b_MH_logged 25 = .ok (.aload_n 0, 1) := by decide +kernel
theorem d_MH_logged_26 : decode b_MH_logged 26 = .ok (.getfield 10, 3) := by decide +kernel
theorem d_MH_logged_29 : decode b_MH_logged 29 = .ok (.iload_n 1, 1) := by decide +kernel
theorem d_MH_logged_30 : decode b_MH_logged 30 = .ok (.invokevirtual 133, 3) := by decide +kernel
theorem d_MH_logged_33 : decode b_MH_logged 33 = .ok (.checkcast 23, 3) := by decide +kernel
theorem d_MH_logged_36 : decode b_MH_logged 36 = .ok (.areturn, 1) := by decide +kernel
theorem d_MH_logged_15 : decode b_MH_logged 15 = .ok (.new 94, 3) := by decide +kernel
theorem d_MH_logged_18 : decode b_MH_logged 18 = .ok (.dup, 1) := by decide +kernel
theorem d_MH_logged_19 : decode b_MH_logged 19 = .ok (.ldc 172, 2) := by decide +kernel
theorem d_MH_logged_21 : decode b_MH_logged 21 = .ok (.invokespecial 98, 3) := by decide +kernel
theorem d_MH_logged_24 : decode b_MH_logged 24 = .ok (.athrow, 1) := by decide +kernel
theorem d_MH_numberIn_0 : decode b_MH_numberIn 0 = .ok (.aload_n 0, 1) := by decide +kernel
theorem d_MH_numberIn_1 : decode b_MH_numberIn 1 = .ok (.getfield 174, 3) := by decide +kernel
theorem d_MH_numberIn_4 : decode b_MH_numberIn 4 = .ok (.iload_n 1, 1) := by decide +kernel
theorem d_MH_numberIn_5 : decode b_MH_numberIn 5 = .ok (.invokevirtual 178, 3) := by decide +kernel
theorem d_MH_numberIn_8 : decode b_MH_numberIn 8 = .ok (.ifCond .ne 13, 3) := by decide +kernel
theorem d_MH_numberIn_21 : decode b_MH_numberIn 21 = .ok (.aload_n 0, 1) := by decide +kernel
theorem d_MH_numberIn_22 : decode b_MH_numberIn 22 = .ok (.getfield 189, 3) := by decide +kernel
theorem d_MH_numberIn_25 : decode b_MH_numberIn 25 = .ok (.iload_n 1, 1) := by decide +kernel
theorem d_MH_numberIn_26 : decode b_MH_numberIn 26 = .ok (.laload, 1) := by decide +kernel
theorem d_MH_numberIn_27 : decode b_MH_numberIn 27 = .ok (.lreturn, 1) := by decide +kernel
theorem d_MH_numberIn_11 : decode b_MH_numberIn 11 = .ok (.new 184, 3) := by decide +kernel
theorem d_MH_numberIn_14 : decode b_MH_numberIn 14 = .ok (.dup, 1) := by decide +kernel
theorem d_MH_numberIn_15 : decode b_MH_numberIn 15 = .ok (.ldc 186, 2) := by decide +kernel
theorem d_MH_numberIn_17 : decode b_MH_numberIn 17 = .ok (.invokespecial 188, 3) := by decide +kernel
theorem d_MH_numberIn_20 : decode b_MH_numberIn 20 = .ok (.athrow, 1) := by decide +kernel
theorem d_MH_writeKey_0 : decode b_MH_writeKey 0 = .ok (.aload_n 0, 1) := by decide +kernel
theorem d_MH_writeKey_1 : decode b_MH_writeKey 1 = .ok (.iload_n 1, 1) := by decide +kernel
theorem d_MH_writeKey_2 : decode b_MH_writeKey 2 = .ok (.invokevirtual 192, 3) := by decide +kernel
theorem d_MH_writeKey_5 : decode b_MH_writeKey 5 = .ok (.ifCond .ne 13, 3) := by decide +kernel
theorem d_MH_writeKey_18 : decode b_MH_writeKey 18 = .ok (.aload_n 0, 1) := by decide +kernel
theorem d_MH_writeKey_19 : decode b_MH_writeKey 19 = .ok (.iload_n 1, 1) := by decide +kernel
theorem d_MH_writeKey_20 : decode b_MH_writeKey 20 = .ok (.iload_n 2, 1) := by decide +kernel
theorem d_MH_writeKey_21 : decode b_MH_writeKey 21 = .ok (.lload_n 3, 1) := by decide +kernel
theorem d_MH_writeKey_22 : decode b_MH_writeKey 22 = .ok (.invokevirtual 197, 3) := by decide +kernel
theorem d_MH_writeKey_25 : decode b_MH_writeKey 25 = .ok (.aload_n 0, 1) := by decide +kernel
theorem d_MH_writeKey_26 : decode b_MH_writeKey 26 = .ok (.getfield 106, 3) := by decide +kernel
theorem d_MH_writeKey_29 : decode b_MH_writeKey 29 = .ok (.ireturn, 1) := by decide +kernel
theorem d_MH_writeKey_8 : decode b_MH_writeKey 8 = .ok (.new 94, 3) := by decide +kernel
theorem d_MH_writeKey_11 : decode b_MH_writeKey 11 = .ok (.dup, 1) := by decide +kernel
theorem d_MH_writeKey_12 : decode b_MH_writeKey 12 = .ok (.ldc 195, 2) := by decide +kernel
theorem d_MH_writeKey_14 : decode b_MH_writeKey 14 = .ok (.invokespecial 98, 3) := by decide +kernel
theorem d_MH_writeKey_17 : decode b_MH_writeKey 17 = .ok (.athrow, 1) := by decide +kernel
theorem d_MH_canBeDone_0 : decode b_MH_canBeDone 0 = .ok (.aload_n 1, 1) := by decide +kernel
theorem d_MH_canBeDone_1 : decode b_MH_canBeDone 1 = .ok (.getfield 201, 3) := by decide +kernel
theorem d_MH_canBeDone_4 : decode b_MH_canBeDone 4 = .ok (.istore_n 2, 1) := by decide +kernel
theorem d_MH_canBeDone_5 : decode b_MH_canBeDone 5 = .ok (.iload_n 2, 1) := by decide +kernel
theorem d_MH_canBeDone_6 : decode b_MH_canBeDone 6 = .ok (.aload_n 0, 1) := by decide +kernel
theorem d_MH_canBeDone_7 : decode b_MH_canBeDone 7 = .ok (.getfield 10, 3) := by decide +kernel
theorem d_MH_canBeDone_10 : decode b_MH_canBeDone 10 = .ok (.invokevirtual 109, 3) := by decide +kernel
theorem d_MH_canBeDone_13 : decode b_MH_canBeDone 13 = .ok (.if_icmp .ge 38, 3) := by decide +kernel
theorem d_MH_canBeDone_51 : decode b_MH_canBeDone 51 = .ok (.iconst 1, 1) := by decide +kernel
theorem d_MH_canBeDone_52 : decode b_MH_canBeDone 52 = .ok (.ireturn, 1) := by decide +kernel
theorem d_MH_canBeDone_16 : decode b_MH_canBeDone 16 = .ok (.aload_n 0, 1) := by decide +kernel
theorem d_MH_canBeDone_17 : decode b_MH_canBeDone 17 = .ok (.getfield 10, 3) := by decide +kernel
theorem d_MH_canBeDone_20 : decode b_MH_canBeDone 20 = .ok (.iload_n 2, 1) := by decide +kernel
theorem d_MH_canBeDone_21 : decode b_MH_canBeDone 21 = .ok (.invokevirtual 133, 3) := by decide +kernel
theorem d_MH_canBeDone_24 : decode b_MH_canBeDone 24 = .ok (.checkcast 23, 3) := by decide +kernel
theorem d_MH_canBeDone_27 : decode b_MH_canBeDone 27 = .ok (.astore_n 3, 1) := by decide +kernel
theorem d_MH_canBeDone_28 : decode b_MH_canBeDone 28 = .ok (.aload_n 3, 1) := by decide +kernel
theorem d_MH_canBeDone_29 : decode b_MH_canBeDone 29 = .ok (.getfield 119, 3) := by decide +kernel
theorem d_MH_canBeDone_32 : decode b_MH_canBeDone 32 = .ok (.ifCond .eq 13, 3) := by decide +kernel
theorem d_MH_canBeDone_45 : decode b_MH_canBeDone 45 = .ok (.iinc 2 1, 3) := by decide +kernel
theorem d_MH_canBeDone_48 : decode b_MH_canBeDone 48 = .ok (.goto (-43), 3) := by decide +kernel
theorem d_MH_canBeDone_35 : decode b_MH_canBeDone 35 = .ok (.aload_n 1, 1) := by decide +kernel
theorem d_MH_canBeDone_36 : decode b_MH_canBeDone 36 = .ok (.aload_n 3, 1) := by decide +kernel
theorem d_MH_canBeDone_37 : decode b_MH_canBeDone 37 = .ok (.invokevirtual 204, 3) := by decide +kernel
theorem d_MH_canBeDone_40 : decode b_MH_canBeDone 40 = .ok (.ifCond .eq 5, 3) := by decide +kernel
theorem d_MH_canBeDone_43 : decode b_MH_canBeDone 43 = .ok (.iconst 0, 1) := by decide +kernel
theorem d_MH_canBeDone_44 : decode b_MH_canBeDone 44 = .ok (.ireturn, 1) := by decide +kernel
theorem d_MH_howManyOpen_0 : decode b_MH_howManyOpen 0 = .ok (.iconst 0, 1) := by decide +kernel
theorem d_MH_howManyOpen_1 : decode b_MH_howManyOpen 1 = .ok (.istore_n 1, 1) := by decide +kernel
theorem d_MH_howManyOpen_2 : decode b_MH_howManyOpen 2 = .ok (.iconst 0, 1) := by decide +kernel
theorem d_MH_howManyOpen_3 : decode b_MH_howManyOpen 3 = .ok (.istore_n 2, 1) := by decide +kernel
theorem d_MH_howManyOpen_4 : decode b_MH_howManyOpen 4 = .ok (.iload_n 2, 1) := by decide +kernel
theorem d_MH_howManyOpen_5 : decode b_MH_howManyOpen 5 = .ok (.bipush 16, 2) := by decide +kernel
theorem d_MH_howManyOpen_7 : decode b_MH_howManyOpen 7 = .ok (.if_icmp .ge 21, 3) := by decide +kernel
theorem d_MH_howManyOpen_28 : decode b_MH_howManyOpen 28 = .ok (.iload_n 1, 1) := by decide +kernel
theorem d_MH_howManyOpen_29 : decode b_MH_howManyOpen 29 = .ok (.ireturn, 1) := by decide +kernel
theorem d_MH_howManyOpen_10 : decode b_MH_howManyOpen 10 = .ok (.aload_n 0, 1) := by decide +kernel
theorem d_MH_howManyOpen_11 : decode b_MH_howManyOpen 11 = .ok (.getfield 25, 3) := by decide +kernel
theorem d_MH_howManyOpen_14 : decode b_MH_howManyOpen 14 = .ok (.iload_n 2, 1) := by decide +kernel
theorem d_MH_howManyOpen_15 : decode b_MH_howManyOpen 15 = .ok (.aaload, 1) := by decide +kernel
theorem d_MH_howManyOpen_16 : decode b_MH_howManyOpen 16 = .ok (.ifnull 6, 3) := by decide +kernel
theorem d_MH_howManyOpen_22 : decode b_MH_howManyOpen 22 = .ok (.iinc 2 1, 3) := by decide +kernel
theorem d_MH_howManyOpen_25 : decode b_MH_howManyOpen 25 = .ok (.goto (-21), 3) := by decide +kernel
theorem d_MH_howManyOpen_19 : decode b_MH_howManyOpen 19 = .ok (.iinc 1 1, 3) := by decide +kernel
set_option maxHeartbeats 4000000 in
set_option maxRecDepth 100000 in
theorem c_MH_needBelow {l : Launch} {b : Nat} {dC : Nat → ClassId} {dI : Nat → Nat → Nat} {dA : Nat → ClassId} {zs : Nat → Nat} {w : mh_w} {v bd : Nat} (h : v < bd) (hbd : bd < 2 ^ 31) : mh_Met l b dC dI dA zs y_MH_needBelow (mh_rm 0 0 0) [.int (nI v), .int (nI bd)] w (mh_V none (fun w' => w' = w)) := by
  refine mh_ofW (cc := b_MH_needBelow) (n := 2) (ret := none) (hs := []) (by decide) k145 ?_
  intro p e s m below meth c hx hb hr hml hown hts hlocks hnm hT hOK hadm
  have K0 : mh_K0 p s m ([.int (nI v), .int (nI bd)]).toArray c "MeldHost" b_MH_needBelow dC dI dA := ⟨hx, hb, hown, hts, hOK.1, hOK.2.1⟩
  have hX := hOK.2.2.2.2
  have hb0 := hOK.2.2.2.1
  have hS : va_S (mh_A b) s.heap s.heap [] := va_S.rf
  have hl := lv_entry ([.int (nI v), .int (nI bd)]) (n := 2) (Nat.le_of_ble_eq_true rfl)
  rw [lg_entry_eq]
  generalize (lg_sl ([.int (nI v), .int (nI bd)]) ++ List.replicate (2 - (lg_sl ([.int (nI v), .int (nI bd)])).length) Slot.unset).toArray = ls at hl ⊢
  have hl : lv_has ls 2 [(0, .int (nI v)), (1, .int (nI bd))] := hl
  refine lv_iload_n hx hb d_MH_needBelow_0 rfl (lv_at hl 0 rfl) ?_
  refine mh_if_lt (tgt := 9) hx hb (by omega) d_MH_needBelow_1 (by decide) (fun z => absurd z (by omega)) (fun _ => ?_)
  refine lv_iload_n hx hb d_MH_needBelow_4 rfl (lv_at hl 0 rfl) ?_
  refine lv_iload_n hx hb d_MH_needBelow_5 rfl (lv_at hl 1 rfl) ?_
  refine mh_icmp_lt (tgt := 19) hx hb (by omega) (by omega) d_MH_needBelow_6 (by decide) (fun _ => ?_) (fun z => absurd z (by omega))
  exact mh_vret K0 hr hlocks hX hS (⟨rfl, rfl⟩) (Nat.le_of_ble_eq_true rfl) (Nat.le_of_ble_eq_true rfl) d_MH_needBelow_19
set_option maxHeartbeats 4000000 in
set_option maxRecDepth 100000 in
theorem c_MH_needBelow_no {l : Launch} {b : Nat} {dC : Nat → ClassId} {dI : Nat → Nat → Nat} {dA : Nat → ClassId} {zs : Nat → Nat} {w : mh_w} (hl0 : l.stackTraces = false) {v : Int32} {bd : Nat} (h : st_in v bd = false) : mh_Met l b dC dI dA zs y_MH_needBelow (mh_rm 6 1 6) [.int v, .int (nI bd)] w (mh_T 8 (mh_x w)) := by
  refine mh_ofW (cc := b_MH_needBelow) (n := 2) (ret := none) (hs := []) (by decide) k145 ?_
  intro p e s m below meth c hx hb hr hml hown hts hlocks hnm hT hOK hadm
  have K0 : mh_K0 p s m ([.int v, .int (nI bd)]).toArray c "MeldHost" b_MH_needBelow dC dI dA := ⟨hx, hb, hown, hts, hOK.1, hOK.2.1⟩
  have hX := hOK.2.2.2.2
  have hb0 := hOK.2.2.2.1
  have hS : va_S (mh_A b) s.heap s.heap [] := va_S.rf
  have hl := lv_entry ([.int v, .int (nI bd)]) (n := 2) (Nat.le_of_ble_eq_true rfl)
  rw [lg_entry_eq]
  generalize (lg_sl ([.int v, .int (nI bd)]) ++ List.replicate (2 - (lg_sl ([.int v, .int (nI bd)])).length) Slot.unset).toArray = ls at hl ⊢
  have hl : lv_has ls 2 [(0, .int v), (1, .int (nI bd))] := hl
  refine lv_iload_n hx hb d_MH_needBelow_0 rfl (lv_at hl 0 rfl) ?_
  refine lv_if_lt (tgt := 9) hx hb d_MH_needBelow_1 (by decide) (fun ct => ?_) (fun cf => ?_)
  · skip
    exact mh_throw hl0 K0 hOK ex_IA (is := 167) (tx := "an argument is out of its bounds") (by decide) k146 hlocks hT hml hl.1 hX hS (fun q => ⟨q, rfl, mh_set_eq _ _ _ _, mh_x.of⟩) (Nat.le_of_ble_eq_true rfl) (Nat.le_of_ble_eq_true rfl) (Nat.le_of_ble_eq_true rfl) (Nat.le_of_ble_eq_true rfl) (Nat.le_of_ble_eq_true rfl) (Nat.le_of_ble_eq_true rfl) d_MH_needBelow_9 d_MH_needBelow_12 d_MH_needBelow_13 d_MH_needBelow_15 d_MH_needBelow_18
  · skip
    refine lv_iload_n hx hb d_MH_needBelow_4 rfl (lv_at hl 0 rfl) ?_
    refine lv_iload_n hx hb d_MH_needBelow_5 rfl (lv_at hl 1 rfl) ?_
    refine lv_icmp_lt (tgt := 19) hx hb d_MH_needBelow_6 (by decide) (fun c2 => ?_) (fun c2 => ?_)
    · skip
      exact absurd h (by simp [st_in, cf, c2])
    · skip
      exact mh_throw hl0 K0 hOK ex_IA (is := 167) (tx := "an argument is out of its bounds") (by decide) k146 hlocks hT hml hl.1 hX hS (fun q => ⟨q, rfl, mh_set_eq _ _ _ _, mh_x.of⟩) (Nat.le_of_ble_eq_true rfl) (Nat.le_of_ble_eq_true rfl) (Nat.le_of_ble_eq_true rfl) (Nat.le_of_ble_eq_true rfl) (Nat.le_of_ble_eq_true rfl) (Nat.le_of_ble_eq_true rfl) d_MH_needBelow_9 d_MH_needBelow_12 d_MH_needBelow_13 d_MH_needBelow_15 d_MH_needBelow_18
set_option maxHeartbeats 4000000 in
set_option maxRecDepth 100000 in
theorem c_MH_needPart {l : Launch} {b : Nat} {dC : Nat → ClassId} {dI : Nat → Nat → Nat} {dA : Nat → ClassId} {zs : Nat → Nat} {w : mh_w} {low high q : Nat} (h1 : low ≤ high) (h2 : high < 256) (h3 : q < 4) : mh_Met l b dC dI dA zs y_MH_needPart (mh_rm 1 0 0) [.int (nI low), .int (nI high), .int (nI q)] w (mh_V none (fun w' => w' = w)) := by
  refine mh_ofW (cc := b_MH_needPart) (n := 3) (ret := none) (hs := []) (by decide) k413 ?_
  intro p e s m below meth c hx hb hr hml hown hts hlocks hnm hT hOK hadm
  have K0 : mh_K0 p s m ([.int (nI low), .int (nI high), .int (nI q)]).toArray c "MeldHost" b_MH_needPart dC dI dA := ⟨hx, hb, hown, hts, hOK.1, hOK.2.1⟩
  have hX := hOK.2.2.2.2
  have hb0 := hOK.2.2.2.1
  have hS : va_S (mh_A b) s.heap s.heap [] := va_S.rf
  have hl := lv_entry ([.int (nI low), .int (nI high), .int (nI q)]) (n := 3) (Nat.le_of_ble_eq_true rfl)
  rw [lg_entry_eq]
  generalize (lg_sl ([.int (nI low), .int (nI high), .int (nI q)]) ++ List.replicate (3 - (lg_sl ([.int (nI low), .int (nI high), .int (nI q)])).length) Slot.unset).toArray = ls at hl ⊢
  have hl : lv_has ls 3 [(0, .int (nI low)), (1, .int (nI high)), (2, .int (nI q))] := hl
  refine lv_iload_n hx hb d_MH_needPart_0 rfl (lv_at hl 1 rfl) ?_
  refine lv_sipush (v := nI 256) hx hb d_MH_needPart_1 (by decide) ?_
  refine mh_callR (mh_sS (rest := []) (av := [.int (nI high), .int (nI 256)]) K0 e_MH_needBelow l_MH_40 k144 rfl rfl d_MH_needPart_4) (c_MH_needBelow h2 (by decide)) K0 hOK hml hl.1 e_MH_needBelow hX hS d_MH_needPart_4 (Nat.le_of_ble_eq_true rfl) (Nat.le_of_ble_eq_true rfl) (Nat.le_of_ble_eq_true rfl) (Nat.le_of_ble_eq_true rfl) (Nat.le_of_ble_eq_true rfl) (fun H locs hX hS => ?_)
  refine W.eq (g2 := F0 m 7 ls []) rfl ?_
  refine lv_iload_n hx hb d_MH_needPart_7 rfl (lv_at hl 0 rfl) ?_
  refine lv_iload_n hx hb d_MH_needPart_8 rfl (lv_at hl 1 rfl) ?_
  refine lv_iconst (v := nI 1) hx hb d_MH_needPart_9 (by decide) ?_
  refine mh_addN hx hb d_MH_needPart_10 ?_
  refine mh_callR (mh_sS (rest := []) (av := [.int (nI low), .int (nI (high + 1))]) K0 e_MH_needBelow l_MH_40 k144 rfl rfl d_MH_needPart_11) (c_MH_needBelow (bd := high + 1) (by omega) (by omega)) K0 hOK hml hl.1 e_MH_needBelow hX hS d_MH_needPart_11 (Nat.le_of_ble_eq_true rfl) (Nat.le_of_ble_eq_true rfl) (Nat.le_of_ble_eq_true rfl) (Nat.le_of_ble_eq_true rfl) (Nat.le_of_ble_eq_true rfl) (fun H locs hX hS => ?_)
  refine W.eq (g2 := F0 m 14 ls []) rfl ?_
  refine lv_iload_n hx hb d_MH_needPart_14 rfl (lv_at hl 2 rfl) ?_
  refine lv_iconst (v := nI 4) hx hb d_MH_needPart_15 (by decide) ?_
  refine mh_callR (mh_sS (rest := []) (av := [.int (nI q), .int (nI 4)]) K0 e_MH_needBelow l_MH_40 k144 rfl rfl d_MH_needPart_16) (c_MH_needBelow h3 (by decide)) K0 hOK hml hl.1 e_MH_needBelow hX hS d_MH_needPart_16 (Nat.le_of_ble_eq_true rfl) (Nat.le_of_ble_eq_true rfl) (Nat.le_of_ble_eq_true rfl) (Nat.le_of_ble_eq_true rfl) (Nat.le_of_ble_eq_true rfl) (fun H locs hX hS => ?_)
  refine W.eq (g2 := F0 m 19 ls []) rfl ?_
  exact mh_vret K0 hr hlocks hX hS (⟨rfl, rfl⟩) (Nat.le_of_ble_eq_true rfl) (Nat.le_of_ble_eq_true rfl) d_MH_needPart_19
set_option maxHeartbeats 4000000 in
set_option maxRecDepth 100000 in
theorem c_MH_needPart_no {l : Launch} {b : Nat} {dC : Nat → ClassId} {dI : Nat → Nat → Nat} {dA : Nat → ClassId} {zs : Nat → Nat} {w : mh_w} (hl0 : l.stackTraces = false) {low high what : Int32} (h : sp_pt low high what = false) : mh_Met l b dC dI dA zs y_MH_needPart (mh_rm 7 1 6) [.int low, .int high, .int what] w (mh_T 8 (mh_x w)) := by
  refine mh_ofW (cc := b_MH_needPart) (n := 3) (ret := none) (hs := []) (by decide) k413 ?_
  intro p e s m below meth c hx hb hr hml hown hts hlocks hnm hT hOK hadm
  have K0 : mh_K0 p s m ([.int low, .int high, .int what]).toArray c "MeldHost" b_MH_needPart dC dI dA := ⟨hx, hb, hown, hts, hOK.1, hOK.2.1⟩
  have hX := hOK.2.2.2.2
  have hb0 := hOK.2.2.2.1
  have hS : va_S (mh_A b) s.heap s.heap [] := va_S.rf
  have hl := lv_entry ([.int low, .int high, .int what]) (n := 3) (Nat.le_of_ble_eq_true rfl)
  rw [lg_entry_eq]
  generalize (lg_sl ([.int low, .int high, .int what]) ++ List.replicate (3 - (lg_sl ([.int low, .int high, .int what])).length) Slot.unset).toArray = ls at hl ⊢
  have hl : lv_has ls 3 [(0, .int low), (1, .int high), (2, .int what)] := hl
  refine lv_iload_n hx hb d_MH_needPart_0 rfl (lv_at hl 1 rfl) ?_
  refine lv_sipush (v := nI 256) hx hb d_MH_needPart_1 (by decide) ?_
  by_cases c1 : st_in high 256 = true
  · skip
    obtain ⟨hi, h2, e1⟩ := st_in_of (by decide) c1
    subst e1
    refine mh_callR (mh_sS (rest := []) (av := [.int (nI hi), .int (nI 256)]) K0 e_MH_needBelow l_MH_40 k144 rfl rfl d_MH_needPart_4) (c_MH_needBelow h2 (by decide)) K0 hOK hml hl.1 e_MH_needBelow hX hS d_MH_needPart_4 (Nat.le_of_ble_eq_true rfl) (Nat.le_of_ble_eq_true rfl) (Nat.le_of_ble_eq_true rfl) (Nat.le_of_ble_eq_true rfl) (Nat.le_of_ble_eq_true rfl) (fun H locs hX hS => ?_)
    refine W.eq (g2 := F0 m 7 ls []) rfl ?_
    refine lv_iload_n hx hb d_MH_needPart_7 rfl (lv_at hl 0 rfl) ?_
    refine lv_iload_n hx hb d_MH_needPart_8 rfl (lv_at hl 1 rfl) ?_
    refine lv_iconst (v := nI 1) hx hb d_MH_needPart_9 (by decide) ?_
    refine mh_addN hx hb d_MH_needPart_10 ?_
    by_cases c2 : st_in low (hi + 1) = true
    · skip
      obtain ⟨lo, h1, e1⟩ := st_in_of (by omega) c2
      subst e1
      refine mh_callR (mh_sS (rest := []) (av := [.int (nI lo), .int (nI (hi + 1))]) K0 e_MH_needBelow l_MH_40 k144 rfl rfl d_MH_needPart_11) (c_MH_needBelow (bd := hi + 1) (by omega) (by omega)) K0 hOK hml hl.1 e_MH_needBelow hX hS d_MH_needPart_11 (Nat.le_of_ble_eq_true rfl) (Nat.le_of_ble_eq_true rfl) (Nat.le_of_ble_eq_true rfl) (Nat.le_of_ble_eq_true rfl) (Nat.le_of_ble_eq_true rfl) (fun H locs hX hS => ?_)
      refine W.eq (g2 := F0 m 14 ls []) rfl ?_
      refine lv_iload_n hx hb d_MH_needPart_14 rfl (lv_at hl 2 rfl) ?_
      refine lv_iconst (v := nI 4) hx hb d_MH_needPart_15 (by decide) ?_
      by_cases c3 : st_in what 4 = true
      · skip
        exfalso
        have e5 : nI lo ≤ nI hi := nI_le (by omega) (by omega)
        simp [sp_pt, c1, c3, st_in_nI (j := lo) (n := 256) (by omega) (by decide), e5] at h
      · skip
        refine mh_callT (mh_sS (rest := []) (av := [.int what, .int (nI 4)]) K0 e_MH_needBelow l_MH_40 k144 rfl rfl d_MH_needPart_16) (c_MH_needBelow_no hl0 (Bool.eq_false_iff.mpr c3)) K0 hOK hml hl.1 e_MH_needBelow hX hS d_MH_needPart_16 (Nat.le_of_ble_eq_true rfl) (Nat.le_of_ble_eq_true rfl) (Nat.le_of_ble_eq_true rfl) (Nat.le_of_ble_eq_true rfl) (Nat.le_of_ble_eq_true rfl) (fun q w1 H locs hq hw hX hS => ?_)
        exact mh_leave hlocks hT hX hS (⟨q, rfl, hq, hw⟩) (Nat.le_of_ble_eq_true rfl) (Nat.le_of_ble_eq_true rfl)
    · skip
      refine mh_callT (mh_sS (rest := []) (av := [.int low, .int (nI (hi + 1))]) K0 e_MH_needBelow l_MH_40 k144 rfl rfl d_MH_needPart_11) (c_MH_needBelow_no hl0 (Bool.eq_false_iff.mpr c2)) K0 hOK hml hl.1 e_MH_needBelow hX hS d_MH_needPart_11 (Nat.le_of_ble_eq_true rfl) (Nat.le_of_ble_eq_true rfl) (Nat.le_of_ble_eq_true rfl) (Nat.le_of_ble_eq_true rfl) (Nat.le_of_ble_eq_true rfl) (fun q w1 H locs hq hw hX hS => ?_)
      exact mh_leave hlocks hT hX hS (⟨q, rfl, hq, hw⟩) (Nat.le_of_ble_eq_true rfl) (Nat.le_of_ble_eq_true rfl)
  · skip
    refine mh_callT (mh_sS (rest := []) (av := [.int high, .int (nI 256)]) K0 e_MH_needBelow l_MH_40 k144 rfl rfl d_MH_needPart_4) (c_MH_needBelow_no hl0 (Bool.eq_false_iff.mpr c1)) K0 hOK hml hl.1 e_MH_needBelow hX hS d_MH_needPart_4 (Nat.le_of_ble_eq_true rfl) (Nat.le_of_ble_eq_true rfl) (Nat.le_of_ble_eq_true rfl) (Nat.le_of_ble_eq_true rfl) (Nat.le_of_ble_eq_true rfl) (fun q w1 H locs hq hw hX hS => ?_)
    exact mh_leave hlocks hT hX hS (⟨q, rfl, hq, hw⟩) (Nat.le_of_ble_eq_true rfl) (Nat.le_of_ble_eq_true rfl)
set_option maxHeartbeats 4000000 in
set_option maxRecDepth 100000 in
theorem c_MH_openDraft {l : Launch} {b : Nat} {dC : Nat → ClassId} {dI : Nat → Nat → Nat} {dA : Nat → ClassId} {zs : Nat → Nat} {w : mh_w} {x0 aL aS aD aV rs : Nat} (r0 : w 0 0 = some (x0, .inr (4, [.ref aL, .ref aS, .ref aD, .ref aV, .int (nI rs)]))) {dr : Nat → Option Nat} (r10 : w 10 0 = some (aD, .inl (dA 5, 16, .inr (.inr (.inr (.inr dr)))))) {t y : Nat} (ht : t < 16) (hy : dr t = some y) : mh_Met l b dC dI dA zs y_MH_openDraft (mh_rm 0 0 0) [.ref x0, .int (nI t)] w (mh_V (some (.ref y)) (fun w' => w' = w)) := by
  refine mh_ofW (cc := b_MH_openDraft) (n := 3) (ret := (some (.object "MeldHost$Intention"))) (hs := []) (by decide) k304 ?_
  intro p e s m below meth c hx hb hr hml hown hts hlocks hnm hT hOK hadm
  have K0 : mh_K0 p s m ([.ref x0, .int (nI t)]).toArray c "MeldHost" b_MH_openDraft dC dI dA := ⟨hx, hb, hown, hts, hOK.1, hOK.2.1⟩
  have hX := hOK.2.2.2.2
  have hb0 := hOK.2.2.2.1
  have hS : va_S (mh_A b) s.heap s.heap [] := va_S.rf
  have hl := lv_entry ([.ref x0, .int (nI t)]) (n := 3) (Nat.le_of_ble_eq_true rfl)
  rw [lg_entry_eq]
  generalize (lg_sl ([.ref x0, .int (nI t)]) ++ List.replicate (3 - (lg_sl ([.ref x0, .int (nI t)])).length) Slot.unset).toArray = ls at hl ⊢
  have hl : lv_has ls 3 [(0, .ref x0), (1, .int (nI t))] := hl
  refine lv_aload_n hx hb d_MH_openDraft_0 rfl (lv_at hl 0 rfl) ?_
  refine mh_get K0 hX r0 f_MH_25 rfl d_MH_openDraft_1 ?_
  refine lv_iload_n hx hb d_MH_openDraft_4 rfl (lv_at hl 1 rfl) ?_
  refine mh_aaldN 5 rfl K0 hX r10 (by omega) (by omega) (r := (some y)) (hy) d_MH_openDraft_5 ?_
  refine W.eq (g2 := F0 m 6 ls [.ref y]) rfl ?_
  refine lv_astore_n (lv' := [(2, .ref y), (0, .ref x0), (1, .int (nI t))]) hx hb d_MH_openDraft_6 rfl hl (by decide) rfl (fun ls hl => ?_)
  refine lv_aload_n hx hb d_MH_openDraft_7 rfl (lv_at hl 0 rfl) ?_
  refine lv_ifnonnull (tgt := 21) hx hb d_MH_openDraft_8 (by decide) ?_
  refine lv_aload_n hx hb d_MH_openDraft_21 rfl (lv_at hl 0 rfl) ?_
  exact mh_aret K0 hr (Or.inl ⟨_, rfl⟩) (Or.inr ⟨_, rfl⟩) hlocks hX hS (⟨rfl, rfl⟩) (Nat.le_of_ble_eq_true rfl) (Nat.le_of_ble_eq_true rfl) d_MH_openDraft_22
set_option maxHeartbeats 4000000 in
set_option maxRecDepth 100000 in
theorem c_MH_openDraft_no {l : Launch} {b : Nat} {dC : Nat → ClassId} {dI : Nat → Nat → Nat} {dA : Nat → ClassId} {zs : Nat → Nat} {w : mh_w} (hl0 : l.stackTraces = false) {x0 aL aS aD aV rs : Nat} (r0 : w 0 0 = some (x0, .inr (4, [.ref aL, .ref aS, .ref aD, .ref aV, .int (nI rs)]))) {dr : Nat → Option Nat} (r10 : w 10 0 = some (aD, .inl (dA 5, 16, .inr (.inr (.inr (.inr dr)))))) {t : Nat} (ht : t < 16) (hy : dr t = none) : mh_Met l b dC dI dA zs y_MH_openDraft (mh_rm 6 1 6) [.ref x0, .int (nI t)] w (mh_T 9 (mh_x w)) := by
  refine mh_ofW (cc := b_MH_openDraft) (n := 3) (ret := (some (.object "MeldHost$Intention"))) (hs := []) (by decide) k304 ?_
  intro p e s m below meth c hx hb hr hml hown hts hlocks hnm hT hOK hadm
  have K0 : mh_K0 p s m ([.ref x0, .int (nI t)]).toArray c "MeldHost" b_MH_openDraft dC dI dA := ⟨hx, hb, hown, hts, hOK.1, hOK.2.1⟩
  have hX := hOK.2.2.2.2
  have hb0 := hOK.2.2.2.1
  have hS : va_S (mh_A b) s.heap s.heap [] := va_S.rf
  have hl := lv_entry ([.ref x0, .int (nI t)]) (n := 3) (Nat.le_of_ble_eq_true rfl)
  rw [lg_entry_eq]
  generalize (lg_sl ([.ref x0, .int (nI t)]) ++ List.replicate (3 - (lg_sl ([.ref x0, .int (nI t)])).length) Slot.unset).toArray = ls at hl ⊢
  have hl : lv_has ls 3 [(0, .ref x0), (1, .int (nI t))] := hl
  refine lv_aload_n hx hb d_MH_openDraft_0 rfl (lv_at hl 0 rfl) ?_
  refine mh_get K0 hX r0 f_MH_25 rfl d_MH_openDraft_1 ?_
  refine lv_iload_n hx hb d_MH_openDraft_4 rfl (lv_at hl 1 rfl) ?_
  refine mh_aaldN 5 rfl K0 hX r10 (by omega) (by omega) (r := none) (hy) d_MH_openDraft_5 ?_
  refine W.eq (g2 := F0 m 6 ls [.null]) rfl ?_
  refine lv_astore_nN (lv' := [(2, .null), (0, .ref x0), (1, .int (nI t))]) hx hb d_MH_openDraft_6 rfl hl (by decide) rfl (fun ls hl => ?_)
  refine lv_aload_nN hx hb d_MH_openDraft_7 rfl (lv_at hl 0 rfl) ?_
  refine lv_ifnonnullN hx hb d_MH_openDraft_8 ?_
  exact mh_throw hl0 K0 hOK ex_IS (is := 170) (tx := "the transaction is not open") (by decide) k215 hlocks hT hml hl.1 hX hS (fun q => ⟨q, rfl, mh_set_eq _ _ _ _, mh_x.of⟩) (Nat.le_of_ble_eq_true rfl) (Nat.le_of_ble_eq_true rfl) (Nat.le_of_ble_eq_true rfl) (Nat.le_of_ble_eq_true rfl) (Nat.le_of_ble_eq_true rfl) (Nat.le_of_ble_eq_true rfl) d_MH_openDraft_11 d_MH_openDraft_14 d_MH_openDraft_15 d_MH_openDraft_17 d_MH_openDraft_20
set_option maxHeartbeats 4000000 in
set_option maxRecDepth 100000 in
theorem c_MH_logged {l : Launch} {b : Nat} {dC : Nat → ClassId} {dI : Nat → Nat → Nat} {dA : Nat → ClassId} {zs : Nat → Nat} {w : mh_w} {x0 aL aS aD aV rs : Nat} (r0 : w 0 0 = some (x0, .inr (4, [.ref aL, .ref aS, .ref aD, .ref aV, .int (nI rs)]))) {mc : Int32} {ar n0 : Nat} (r1 : w 1 0 = some (aL, .inr (5, [.int mc, .ref ar, .int (nI n0)]))) (hn : n0 ≤ 400) {ix cap : Nat} {ga : Nat → Option Nat} (hga : w 2 ix = some (ar, .inl (dA 3, cap, .inr (.inr (.inr (.inr ga)))))) (hcap : cap ≤ 600) (hnc : n0 ≤ cap) {j y ky iy : Nat} {ys : List Value} (hj : j < n0) (hy : ga j = some y) (hyw : w ky iy = some (y, .inr (2, ys))) : mh_Met l b dC dI dA zs y_MH_logged (mh_rm 3 0 0) [.ref x0, .int (nI j)] w (mh_V (some (.ref y)) (fun w' => w' = w)) := by
  refine mh_ofW (cc := b_MH_logged) (n := 2) (ret := (some (.object "MeldHost$Intention"))) (hs := []) (by decide) k610 ?_
  intro p e s m below meth c hx hb hr hml hown hts hlocks hnm hT hOK hadm
  have K0 : mh_K0 p s m ([.ref x0, .int (nI j)]).toArray c "MeldHost" b_MH_logged dC dI dA := ⟨hx, hb, hown, hts, hOK.1, hOK.2.1⟩
  have hX := hOK.2.2.2.2
  have hb0 := hOK.2.2.2.1
  have hS : va_S (mh_A b) s.heap s.heap [] := va_S.rf
  have hl := lv_entry ([.ref x0, .int (nI j)]) (n := 2) (Nat.le_of_ble_eq_true rfl)
  rw [lg_entry_eq]
  generalize (lg_sl ([.ref x0, .int (nI j)]) ++ List.replicate (2 - (lg_sl ([.ref x0, .int (nI j)])).length) Slot.unset).toArray = ls at hl ⊢
  have hl : lv_has ls 2 [(0, .ref x0), (1, .int (nI j))] := hl
  refine lv_iload_n hx hb d_MH_logged_0 rfl (lv_at hl 1 rfl) ?_
  refine mh_if_lt (tgt := 15) hx hb (by omega) d_MH_logged_1 (by decide) (fun z => absurd z (by omega)) (fun _ => ?_)
  refine lv_iload_n hx hb d_MH_logged_4 rfl (lv_at hl 1 rfl) ?_
  refine lv_aload_n hx hb d_MH_logged_5 rfl (lv_at hl 0 rfl) ?_
  refine mh_get K0 hX r0 f_MH_10 rfl d_MH_logged_6 ?_
  refine mh_callR (mh_sV (rest := [.int (nI j)]) (av := []) K0 hX r1 rfl e_AL_size l_MH_109 k448 k449 rfl rfl d_MH_logged_9) (c_AL_size r1) K0 hOK hml hl.1 e_AL_size hX hS d_MH_logged_9 (Nat.le_of_ble_eq_true rfl) (Nat.le_of_ble_eq_true rfl) (Nat.le_of_ble_eq_true rfl) (Nat.le_of_ble_eq_true rfl) (Nat.le_of_ble_eq_true rfl) (fun H locs hX hS => ?_)
  refine W.eq (g2 := F0 m 12 ls [.int (nI n0), .int (nI j)]) rfl ?_
  refine mh_icmp_lt (tgt := 25) hx hb (by omega) (by omega) d_MH_logged_12 (by decide) (fun _ => ?_) (fun z => absurd z (by omega))
  refine lv_aload_n hx hb d_MH_logged_25 rfl (lv_at hl 0 rfl) ?_
  refine mh_get K0 hX r0 f_MH_10 rfl d_MH_logged_26 ?_
  refine lv_iload_n hx hb d_MH_logged_29 rfl (lv_at hl 1 rfl) ?_
  refine mh_callR (mh_sV (rest := []) (av := [.int (nI j)]) K0 hX r1 rfl e_AL_get l_MH_133 k457 k458 rfl rfl d_MH_logged_30) (c_AL_get r1 hga hcap hj hnc hy) K0 hOK hml hl.1 e_AL_get hX hS d_MH_logged_30 (Nat.le_of_ble_eq_true rfl) (Nat.le_of_ble_eq_true rfl) (Nat.le_of_ble_eq_true rfl) (Nat.le_of_ble_eq_true rfl) (Nat.le_of_ble_eq_true rfl) (fun H locs hX hS => ?_)
  refine W.eq (g2 := F0 m 33 ls [.ref y]) rfl ?_
  refine mh_cast K0 hX hyw rfl k113 d_MH_logged_33 ?_
  exact mh_aret K0 hr (Or.inl ⟨_, rfl⟩) (Or.inr ⟨_, rfl⟩) hlocks hX hS (⟨rfl, rfl⟩) (Nat.le_of_ble_eq_true rfl) (Nat.le_of_ble_eq_true rfl) d_MH_logged_36
set_option maxHeartbeats 4000000 in
set_option maxRecDepth 100000 in
theorem c_MH_logged_no {l : Launch} {b : Nat} {dC : Nat → ClassId} {dI : Nat → Nat → Nat} {dA : Nat → ClassId} {zs : Nat → Nat} {w : mh_w} (hl0 : l.stackTraces = false) {x0 aL aS aD aV rs : Nat} (r0 : w 0 0 = some (x0, .inr (4, [.ref aL, .ref aS, .ref aD, .ref aV, .int (nI rs)]))) {mc : Int32} {ar n0 : Nat} (r1 : w 1 0 = some (aL, .inr (5, [.int mc, .ref ar, .int (nI n0)]))) (hn : n0 ≤ 400) {v : Int32} (h : st_in v n0 = false) : mh_Met l b dC dI dA zs y_MH_logged (mh_rm 6 1 6) [.ref x0, .int v] w (mh_T 10 (mh_x w)) := by
  refine mh_ofW (cc := b_MH_logged) (n := 2) (ret := (some (.object "MeldHost$Intention"))) (hs := []) (by decide) k610 ?_
  intro p e s m below meth c hx hb hr hml hown hts hlocks hnm hT hOK hadm
  have K0 : mh_K0 p s m ([.ref x0, .int v]).toArray c "MeldHost" b_MH_logged dC dI dA := ⟨hx, hb, hown, hts, hOK.1, hOK.2.1⟩
  have hX := hOK.2.2.2.2
  have hb0 := hOK.2.2.2.1
  have hS : va_S (mh_A b) s.heap s.heap [] := va_S.rf
  have hl := lv_entry ([.ref x0, .int v]) (n := 2) (Nat.le_of_ble_eq_true rfl)
  rw [lg_entry_eq]
  generalize (lg_sl ([.ref x0, .int v]) ++ List.replicate (2 - (lg_sl ([.ref x0, .int v])).length) Slot.unset).toArray = ls at hl ⊢
  have hl : lv_has ls 2 [(0, .ref x0), (1, .int v)] := hl
  refine lv_iload_n hx hb d_MH_logged_0 rfl (lv_at hl 1 rfl) ?_
  refine lv_if_lt (tgt := 15) hx hb d_MH_logged_1 (by decide) (fun ct => ?_) (fun cf => ?_)
  · skip
    exact mh_throw hl0 K0 hOK ex_IO (is := 172) (tx := "there is no such intention") (by decide) k360 hlocks hT hml hl.1 hX hS (fun q => ⟨q, rfl, mh_set_eq _ _ _ _, mh_x.of⟩) (Nat.le_of_ble_eq_true rfl) (Nat.le_of_ble_eq_true rfl) (Nat.le_of_ble_eq_true rfl) (Nat.le_of_ble_eq_true rfl) (Nat.le_of_ble_eq_true rfl) (Nat.le_of_ble_eq_true rfl) d_MH_logged_15 d_MH_logged_18 d_MH_logged_19 d_MH_logged_21 d_MH_logged_24
  · skip
    refine lv_iload_n hx hb d_MH_logged_4 rfl (lv_at hl 1 rfl) ?_
    refine lv_aload_n hx hb d_MH_logged_5 rfl (lv_at hl 0 rfl) ?_
    refine mh_get K0 hX r0 f_MH_10 rfl d_MH_logged_6 ?_
    refine mh_callR (mh_sV (rest := [.int v]) (av := []) K0 hX r1 rfl e_AL_size l_MH_109 k448 k449 rfl rfl d_MH_logged_9) (c_AL_size r1) K0 hOK hml hl.1 e_AL_size hX hS d_MH_logged_9 (Nat.le_of_ble_eq_true rfl) (Nat.le_of_ble_eq_true rfl) (Nat.le_of_ble_eq_true rfl) (Nat.le_of_ble_eq_true rfl) (Nat.le_of_ble_eq_true rfl) (fun H locs hX hS => ?_)
    refine W.eq (g2 := F0 m 12 ls [.int (nI n0), .int v]) rfl ?_
    refine lv_icmp_lt (tgt := 25) hx hb d_MH_logged_12 (by decide) (fun c2 => ?_) (fun c2 => ?_)
    · skip
      exact absurd h (by simp [st_in, cf, c2])
    · skip
      exact mh_throw hl0 K0 hOK ex_IO (is := 172) (tx := "there is no such intention") (by decide) k360 hlocks hT hml hl.1 hX hS (fun q => ⟨q, rfl, mh_set_eq _ _ _ _, mh_x.of⟩) (Nat.le_of_ble_eq_true rfl) (Nat.le_of_ble_eq_true rfl) (Nat.le_of_ble_eq_true rfl) (Nat.le_of_ble_eq_true rfl) (Nat.le_of_ble_eq_true rfl) (Nat.le_of_ble_eq_true rfl) d_MH_logged_15 d_MH_logged_18 d_MH_logged_19 d_MH_logged_21 d_MH_logged_24
set_option maxHeartbeats 4000000 in
set_option maxRecDepth 100000 in
theorem c_MH_numberIn {l : Launch} {b : Nat} {dC : Nat → ClassId} {dI : Nat → Nat → Nat} {dA : Nat → ClassId} {zs : Nat → Nat} {w : mh_w} {k i a : Nat} {st : Nat → Option Int64} (h : rN dA w k i a st) {key : Nat} (hk : key < 256) {v : Int64} (hv : st key = some v) : mh_Met l b dC dI dA zs y_MH_numberIn (mh_rm 1 0 0) [.ref a, .int (nI key)] w (mh_V (some (.long v)) (fun w' => w' = w)) := by
  obtain ⟨a1, a3, f, h0, hK, h3, hf⟩ := h
  have hK2 := hK
  obtain ⟨b1, fb, hk0, hk1, hkf⟩ := hK2
  refine mh_ofW (cc := b_MH_numberIn) (n := 2) (ret := (some .long)) (hs := []) (by decide) k324 ?_
  intro p e s m below meth c hx hb hr hml hown hts hlocks hnm hT hOK hadm
  have K0 : mh_K0 p s m ([.ref a, .int (nI key)]).toArray c "MeldHost" b_MH_numberIn dC dI dA := ⟨hx, hb, hown, hts, hOK.1, hOK.2.1⟩
  have hX := hOK.2.2.2.2
  have hb0 := hOK.2.2.2.1
  have hS : va_S (mh_A b) s.heap s.heap [] := va_S.rf
  have hl := lv_entry ([.ref a, .int (nI key)]) (n := 2) (Nat.le_of_ble_eq_true rfl)
  rw [lg_entry_eq]
  generalize (lg_sl ([.ref a, .int (nI key)]) ++ List.replicate (2 - (lg_sl ([.ref a, .int (nI key)])).length) Slot.unset).toArray = ls at hl ⊢
  have hl : lv_has ls 2 [(0, .ref a), (1, .int (nI key))] := hl
  refine lv_aload_n hx hb d_MH_numberIn_0 rfl (lv_at hl 0 rfl) ?_
  refine mh_get K0 hX h0 f_MH_174 rfl d_MH_numberIn_1 ?_
  refine lv_iload_n hx hb d_MH_numberIn_4 rfl (lv_at hl 1 rfl) ?_
  refine mh_callR (mh_sV (rest := []) (av := [.int (nI key)]) K0 hX hk0 rfl e_KS_has l_MH_178 k326 k327 rfl rfl d_MH_numberIn_5) (c_KS_has hK hk) K0 hOK hml hl.1 e_KS_has hX hS d_MH_numberIn_5 (Nat.le_of_ble_eq_true rfl) (Nat.le_of_ble_eq_true rfl) (Nat.le_of_ble_eq_true rfl) (Nat.le_of_ble_eq_true rfl) (Nat.le_of_ble_eq_true rfl) (fun H locs hX hS => ?_)
  refine W.eq (g2 := F0 m 8 ls [.int (mh_b ((st key).isSome))]) rfl ?_
  refine mh_ifneB (tgt := 21) hx hb d_MH_numberIn_8 (by decide) (fun _ => ?_) (fun z => absurd z (by rw [hv]; simp))
  refine lv_aload_n hx hb d_MH_numberIn_21 rfl (lv_at hl 0 rfl) ?_
  refine mh_get K0 hX h0 f_MH_189 rfl d_MH_numberIn_22 ?_
  refine lv_iload_n hx hb d_MH_numberIn_25 rfl (lv_at hl 1 rfl) ?_
  refine mh_laldN K0 hX h3 (by omega) (by omega) d_MH_numberIn_26 ?_
  exact mh_lret K0 hr hlocks hX hS (⟨by rw [hf key v hk hv], rfl⟩) (Nat.le_of_ble_eq_true rfl) (Nat.le_of_ble_eq_true rfl) d_MH_numberIn_27
set_option maxHeartbeats 4000000 in
set_option maxRecDepth 100000 in
theorem c_MH_numberIn_no {l : Launch} {b : Nat} {dC : Nat → ClassId} {dI : Nat → Nat → Nat} {dA : Nat → ClassId} {zs : Nat → Nat} {w : mh_w} (hl0 : l.stackTraces = false) {k i a : Nat} {st : Nat → Option Int64} (h : rN dA w k i a st) {key : Nat} (hk : key < 256) (hv : st key = none) : mh_Met l b dC dI dA zs y_MH_numberIn (mh_rm 6 1 6) [.ref a, .int (nI key)] w (mh_T 11 (mh_x w)) := by
  obtain ⟨a1, a3, f, h0, hK, h3, hf⟩ := h
  have hK2 := hK
  obtain ⟨b1, fb, hk0, hk1, hkf⟩ := hK2
  refine mh_ofW (cc := b_MH_numberIn) (n := 2) (ret := (some .long)) (hs := []) (by decide) k324 ?_
  intro p e s m below meth c hx hb hr hml hown hts hlocks hnm hT hOK hadm
  have K0 : mh_K0 p s m ([.ref a, .int (nI key)]).toArray c "MeldHost" b_MH_numberIn dC dI dA := ⟨hx, hb, hown, hts, hOK.1, hOK.2.1⟩
  have hX := hOK.2.2.2.2
  have hb0 := hOK.2.2.2.1
  have hS : va_S (mh_A b) s.heap s.heap [] := va_S.rf
  have hl := lv_entry ([.ref a, .int (nI key)]) (n := 2) (Nat.le_of_ble_eq_true rfl)
  rw [lg_entry_eq]
  generalize (lg_sl ([.ref a, .int (nI key)]) ++ List.replicate (2 - (lg_sl ([.ref a, .int (nI key)])).length) Slot.unset).toArray = ls at hl ⊢
  have hl : lv_has ls 2 [(0, .ref a), (1, .int (nI key))] := hl
  refine lv_aload_n hx hb d_MH_numberIn_0 rfl (lv_at hl 0 rfl) ?_
  refine mh_get K0 hX h0 f_MH_174 rfl d_MH_numberIn_1 ?_
  refine lv_iload_n hx hb d_MH_numberIn_4 rfl (lv_at hl 1 rfl) ?_
  refine mh_callR (mh_sV (rest := []) (av := [.int (nI key)]) K0 hX hk0 rfl e_KS_has l_MH_178 k326 k327 rfl rfl d_MH_numberIn_5) (c_KS_has hK hk) K0 hOK hml hl.1 e_KS_has hX hS d_MH_numberIn_5 (Nat.le_of_ble_eq_true rfl) (Nat.le_of_ble_eq_true rfl) (Nat.le_of_ble_eq_true rfl) (Nat.le_of_ble_eq_true rfl) (Nat.le_of_ble_eq_true rfl) (fun H locs hX hS => ?_)
  refine W.eq (g2 := F0 m 8 ls [.int (mh_b ((st key).isSome))]) rfl ?_
  refine mh_ifneB (tgt := 21) hx hb d_MH_numberIn_8 (by decide) (fun z => absurd z (by rw [hv]; simp)) (fun _ => ?_)
  exact mh_throw hl0 K0 hOK ex_UO (is := 186) (tx := "the key has no number") (by decide) k329 hlocks hT hml hl.1 hX hS (fun q => ⟨q, rfl, mh_set_eq _ _ _ _, mh_x.of⟩) (Nat.le_of_ble_eq_true rfl) (Nat.le_of_ble_eq_true rfl) (Nat.le_of_ble_eq_true rfl) (Nat.le_of_ble_eq_true rfl) (Nat.le_of_ble_eq_true rfl) (Nat.le_of_ble_eq_true rfl) d_MH_numberIn_11 d_MH_numberIn_14 d_MH_numberIn_15 d_MH_numberIn_17 d_MH_numberIn_20
set_option maxHeartbeats 4000000 in
set_option maxRecDepth 100000 in
theorem c_MH_writeKey {l : Launch} {b : Nat} {dC : Nat → ClassId} {dI : Nat → Nat → Nat} {dA : Nat → ClassId} {zs : Nat → Nat} {w : mh_w} {k i a m0 : Nat} {x : st_I} (h : rI dA w k i a x) (ho : iv_ok m0 x) {key : Nat} (hk : key < 256) {v : Option Int64} {u : Int64} (hu : ∀ z, v = some z → u = z) (h8 : (st_pl (iv_wk x) key (iv_nw x)) < 8) : mh_Met l b dC dI dA zs y_MH_writeKey (mh_rm 2 0 0) [.ref a, .int (nI key), .int (mh_b v.isSome), .long u] w (mh_V (some (.int (nI (iv_nw (st_wr x key v))))) (fun w' => rI dA w' k i a (st_wr x key v) ∧ mh_F w w' k 8 i)) := by
  have hI := h
  obtain ⟨a1, a3, a4, a5, a6, a7, i0⟩ := h.fst
  refine mh_ofW (cc := b_MH_writeKey) (n := 5) (ret := (some .int)) (hs := []) (by decide) k355 ?_
  intro p e s m below meth c hx hb hr hml hown hts hlocks hnm hT hOK hadm
  have K0 : mh_K0 p s m ([.ref a, .int (nI key), .int (mh_b v.isSome), .long u]).toArray c "MeldHost" b_MH_writeKey dC dI dA := ⟨hx, hb, hown, hts, hOK.1, hOK.2.1⟩
  have hX := hOK.2.2.2.2
  have hb0 := hOK.2.2.2.1
  have hS : va_S (mh_A b) s.heap s.heap [] := va_S.rf
  have hl := lv_entry ([.ref a, .int (nI key), .int (mh_b v.isSome), .long u]) (n := 5) (Nat.le_of_ble_eq_true rfl)
  rw [lg_entry_eq]
  generalize (lg_sl ([.ref a, .int (nI key), .int (mh_b v.isSome), .long u]) ++ List.replicate (5 - (lg_sl ([.ref a, .int (nI key), .int (mh_b v.isSome), .long u])).length) Slot.unset).toArray = ls at hl ⊢
  have hl : lv_has ls 5 [(0, .ref a), (1, .int (nI key)), (2, .int (mh_b v.isSome)), (3, .long u)] := hl
  refine lv_aload_n hx hb d_MH_writeKey_0 rfl (lv_at hl 0 rfl) ?_
  refine lv_iload_n hx hb d_MH_writeKey_1 rfl (lv_at hl 1 rfl) ?_
  refine mh_callR (mh_sV (rest := []) (av := [.int (nI key)]) K0 hX i0 rfl e_IN_hasRoomFor l_MH_192 k357 k358 rfl rfl d_MH_writeKey_2) (c_IN_hasRoomFor hI ho hk) K0 hOK hml hl.1 e_IN_hasRoomFor hX hS d_MH_writeKey_2 (Nat.le_of_ble_eq_true rfl) (Nat.le_of_ble_eq_true rfl) (Nat.le_of_ble_eq_true rfl) (Nat.le_of_ble_eq_true rfl) (Nat.le_of_ble_eq_true rfl) (fun H locs hX hS => ?_)
  refine W.eq (g2 := F0 m 5 ls [.int (mh_b (decide ((st_pl (iv_wk x) key (iv_nw x)) < 8)))]) rfl ?_
  refine mh_ifneB (tgt := 18) hx hb d_MH_writeKey_5 (by decide) (fun _ => ?_) (fun z => absurd z (by rw [decide_eq_true h8]; decide))
  refine lv_aload_n hx hb d_MH_writeKey_18 rfl (lv_at hl 0 rfl) ?_
  refine lv_iload_n hx hb d_MH_writeKey_19 rfl (lv_at hl 1 rfl) ?_
  refine lv_iload_n hx hb d_MH_writeKey_20 rfl (lv_at hl 2 rfl) ?_
  refine lv_lload_n hx hb d_MH_writeKey_21 rfl (lv_at hl 3 rfl) ?_
  refine mh_callV (mh_sV (rest := []) (av := [.int (nI key), .int (mh_b v.isSome), .long u]) K0 hX i0 rfl e_IN_write l_MH_197 k377 k378 rfl rfl d_MH_writeKey_22) (c_IN_write hI ho hk hu h8) K0 hOK hml hl.1 e_IN_write hX hS d_MH_writeKey_22 (Nat.le_of_ble_eq_true rfl) (Nat.le_of_ble_eq_true rfl) (Nat.le_of_ble_eq_true rfl) (Nat.le_of_ble_eq_true rfl) (Nat.le_of_ble_eq_true rfl) (fun w1 H locs ⟨hI1, hF⟩ hX hS => ?_)
  refine W.eq (g2 := F0 m 25 ls []) rfl ?_
  obtain ⟨d1, d3, d4, d5, d6, d7, j0⟩ := hI1.fst
  refine lv_aload_n hx hb d_MH_writeKey_25 rfl (lv_at hl 0 rfl) ?_
  refine mh_get K0 hX j0 f_MH_106 rfl d_MH_writeKey_26 ?_
  exact mh_iret K0 hr rfl hlocks hX hS (⟨rfl, hI1, hF⟩) (Nat.le_of_ble_eq_true rfl) (Nat.le_of_ble_eq_true rfl) d_MH_writeKey_29
set_option maxHeartbeats 4000000 in
set_option maxRecDepth 100000 in
theorem c_MH_writeKey_no {l : Launch} {b : Nat} {dC : Nat → ClassId} {dI : Nat → Nat → Nat} {dA : Nat → ClassId} {zs : Nat → Nat} {w : mh_w} (hl0 : l.stackTraces = false) {k i a m0 : Nat} {x : st_I} (h : rI dA w k i a x) (ho : iv_ok m0 x) {key : Nat} (hk : key < 256) {v : Int32} {u : Int64} (h8 : ¬ (st_pl (iv_wk x) key (iv_nw x)) < 8) : mh_Met l b dC dI dA zs y_MH_writeKey (mh_rm 6 1 6) [.ref a, .int (nI key), .int v, .long u] w (mh_T 10 (mh_x w)) := by
  have hI := h
  obtain ⟨a1, a3, a4, a5, a6, a7, i0⟩ := h.fst
  refine mh_ofW (cc := b_MH_writeKey) (n := 5) (ret := (some .int)) (hs := []) (by decide) k355 ?_
  intro p e s m below meth c hx hb hr hml hown hts hlocks hnm hT hOK hadm
  have K0 : mh_K0 p s m ([.ref a, .int (nI key), .int v, .long u]).toArray c "MeldHost" b_MH_writeKey dC dI dA := ⟨hx, hb, hown, hts, hOK.1, hOK.2.1⟩
  have hX := hOK.2.2.2.2
  have hb0 := hOK.2.2.2.1
  have hS : va_S (mh_A b) s.heap s.heap [] := va_S.rf
  have hl := lv_entry ([.ref a, .int (nI key), .int v, .long u]) (n := 5) (Nat.le_of_ble_eq_true rfl)
  rw [lg_entry_eq]
  generalize (lg_sl ([.ref a, .int (nI key), .int v, .long u]) ++ List.replicate (5 - (lg_sl ([.ref a, .int (nI key), .int v, .long u])).length) Slot.unset).toArray = ls at hl ⊢
  have hl : lv_has ls 5 [(0, .ref a), (1, .int (nI key)), (2, .int v), (3, .long u)] := hl
  refine lv_aload_n hx hb d_MH_writeKey_0 rfl (lv_at hl 0 rfl) ?_
  refine lv_iload_n hx hb d_MH_writeKey_1 rfl (lv_at hl 1 rfl) ?_
  refine mh_callR (mh_sV (rest := []) (av := [.int (nI key)]) K0 hX i0 rfl e_IN_hasRoomFor l_MH_192 k357 k358 rfl rfl d_MH_writeKey_2) (c_IN_hasRoomFor hI ho hk) K0 hOK hml hl.1 e_IN_hasRoomFor hX hS d_MH_writeKey_2 (Nat.le_of_ble_eq_true rfl) (Nat.le_of_ble_eq_true rfl) (Nat.le_of_ble_eq_true rfl) (Nat.le_of_ble_eq_true rfl) (Nat.le_of_ble_eq_true rfl) (fun H locs hX hS => ?_)
  refine W.eq (g2 := F0 m 5 ls [.int (mh_b (decide ((st_pl (iv_wk x) key (iv_nw x)) < 8)))]) rfl ?_
  refine mh_ifneB (tgt := 18) hx hb d_MH_writeKey_5 (by decide) (fun z => absurd z (by rw [decide_eq_false h8]; decide)) (fun _ => ?_)
  exact mh_throw hl0 K0 hOK ex_IO (is := 195) (tx := "there would be nine keys") (by decide) k360 hlocks hT hml hl.1 hX hS (fun q => ⟨q, rfl, mh_set_eq _ _ _ _, mh_x.of⟩) (Nat.le_of_ble_eq_true rfl) (Nat.le_of_ble_eq_true rfl) (Nat.le_of_ble_eq_true rfl) (Nat.le_of_ble_eq_true rfl) (Nat.le_of_ble_eq_true rfl) (Nat.le_of_ble_eq_true rfl) d_MH_writeKey_8 d_MH_writeKey_11 d_MH_writeKey_12 d_MH_writeKey_14 d_MH_writeKey_17
set_option maxHeartbeats 4000000 in
set_option maxRecDepth 100000 in
theorem c_MH_canBeDone {l : Launch} {b : Nat} {dC : Nat → ClassId} {dI : Nat → Nat → Nat} {dA : Nat → ClassId} {zs : Nat → Nat} {w : mh_w} {x0 aL aS aD aV rs : Nat} (r0 : w 0 0 = some (x0, .inr (4, [.ref aL, .ref aS, .ref aD, .ref aV, .int (nI rs)]))) {mc : Int32} {ar n0 : Nat} (r1 : w 1 0 = some (aL, .inr (5, [.int mc, .ref ar, .int (nI n0)]))) (hn : n0 ≤ 400) {lgp : Nat → Option Nat} {log : Nat → st_I} (rAr : rA dA zs w ar n0 lgp) (rl : ∀ i, i < n0 → ∃ a, lgp i = some a ∧ rI dA w 24 i a (log i)) (hlo : ∀ i, i < n0 → iv_ok i (log i)) {k i a : Nat} {x : st_I} (h : rI dA w k i a x) (ho : iv_ok n0 x) : mh_Met l b dC dI dA zs y_MH_canBeDone (mh_rm 4 0 0) [.ref x0, .ref a] w (mh_V (some (.int (mh_b (st_ok log x n0)))) (fun w' => w' = w)) := by
  have hI := h
  obtain ⟨a1, a3, a4, a5, a6, a7, i0⟩ := h.fst
  refine mh_ofW (cc := b_MH_canBeDone) (n := 4) (ret := (some .boolean)) (hs := []) (by decide) k455 ?_
  intro p e s m below meth c hx hb hr hml hown hts hlocks hnm hT hOK hadm
  have K0 : mh_K0 p s m ([.ref x0, .ref a]).toArray c "MeldHost" b_MH_canBeDone dC dI dA := ⟨hx, hb, hown, hts, hOK.1, hOK.2.1⟩
  have hX := hOK.2.2.2.2
  have hb0 := hOK.2.2.2.1
  have hS : va_S (mh_A b) s.heap s.heap [] := va_S.rf
  have hl := lv_entry ([.ref x0, .ref a]) (n := 4) (Nat.le_of_ble_eq_true rfl)
  rw [lg_entry_eq]
  generalize (lg_sl ([.ref x0, .ref a]) ++ List.replicate (4 - (lg_sl ([.ref x0, .ref a])).length) Slot.unset).toArray = ls at hl ⊢
  have hl : lv_has ls 4 [(0, .ref x0), (1, .ref a)] := hl
  have hsn : iv_sn x ≤ n0 := ho.2.1
  refine lv_aload_n hx hb d_MH_canBeDone_0 rfl (lv_at hl 1 rfl) ?_
  refine mh_get K0 hX i0 f_MH_201 rfl d_MH_canBeDone_1 ?_
  refine lv_istore_n (lv' := [(2, .int (nI (iv_sn x))), (0, .ref x0), (1, .ref a)]) hx hb d_MH_canBeDone_4 rfl hl (by decide) rfl (fun ls hl => ?_)
  have LP : ∀ (n : Nat) (j : Nat) (H : Heap) (locs : List Loc) (ls : Array Slot), mh_P (dC, dI) b w H → va_S (mh_A b) s.heap H locs → lv_has ls 4 [(2, .int (nI j)), (0, .ref x0), (1, .ref a)] → (j + n = n0) → (iv_sn x ≤ j) → (∀ z, z < j → (decide (iv_sn x ≤ z) && (iv_gd (log z) && st_ht x (log z))) = false) → W p l e (mh_rm 4 0 0) s m ([.ref x0, .ref a]).toArray below meth c H locs (0) (0) (mh_MQ below b dC dI (mh_V (some (.int (mh_b (st_ok log x n0)))) (fun w' => w' = w)) ([.ref x0, .ref a]).toArray s 0 0) (F0 m 5 ls []) := by
    intro n
    induction n with
    | zero =>
      intro j H locs ls hX hS hl hn9 hsj hj
      refine lv_iload_n hx hb d_MH_canBeDone_5 rfl (lv_at hl 0 rfl) ?_
      refine lv_aload_n hx hb d_MH_canBeDone_6 rfl (lv_at hl 1 rfl) ?_
      refine mh_get K0 hX r0 f_MH_10 rfl d_MH_canBeDone_7 ?_
      refine mh_callR (mh_sV (rest := [.int (nI j)]) (av := []) K0 hX r1 rfl e_AL_size l_MH_109 k448 k449 rfl rfl d_MH_canBeDone_10) (c_AL_size r1) K0 hOK hml hl.1 e_AL_size hX hS d_MH_canBeDone_10 (Nat.le_of_ble_eq_true rfl) (Nat.le_of_ble_eq_true rfl) (Nat.le_of_ble_eq_true rfl) (Nat.le_of_ble_eq_true rfl) (Nat.le_of_ble_eq_true rfl) (fun H locs hX hS => ?_)
      refine W.eq (g2 := F0 m 13 ls [.int (nI n0), .int (nI j)]) rfl ?_
      refine mh_icmp_ge (tgt := 51) hx hb (by omega) (by omega) d_MH_canBeDone_13 (by decide) (fun _ => ?_) (fun z => absurd z (by omega))
      refine lv_iconst (v := nI 1) hx hb d_MH_canBeDone_51 (by decide) ?_
      exact mh_iret K0 hr (by decide) hlocks hX hS (⟨by unfold st_ok; rw [st_any_false (fun z hz => hj z (by omega))]; rfl, rfl⟩) (Nat.le_of_ble_eq_true rfl) (Nat.le_of_ble_eq_true rfl) d_MH_canBeDone_52
    | succ n ih =>
      intro j H locs ls hX hS hl hn9 hsj hj
      refine lv_iload_n hx hb d_MH_canBeDone_5 rfl (lv_at hl 0 rfl) ?_
      refine lv_aload_n hx hb d_MH_canBeDone_6 rfl (lv_at hl 1 rfl) ?_
      refine mh_get K0 hX r0 f_MH_10 rfl d_MH_canBeDone_7 ?_
      refine mh_callR (mh_sV (rest := [.int (nI j)]) (av := []) K0 hX r1 rfl e_AL_size l_MH_109 k448 k449 rfl rfl d_MH_canBeDone_10) (c_AL_size r1) K0 hOK hml hl.1 e_AL_size hX hS d_MH_canBeDone_10 (Nat.le_of_ble_eq_true rfl) (Nat.le_of_ble_eq_true rfl) (Nat.le_of_ble_eq_true rfl) (Nat.le_of_ble_eq_true rfl) (Nat.le_of_ble_eq_true rfl) (fun H locs hX hS => ?_)
      refine W.eq (g2 := F0 m 13 ls [.int (nI n0), .int (nI j)]) rfl ?_
      refine mh_icmp_ge (tgt := 51) hx hb (by omega) (by omega) d_MH_canBeDone_13 (by decide) (fun z => absurd z (by omega)) (fun _ => ?_)
      refine lv_aload_n hx hb d_MH_canBeDone_16 rfl (lv_at hl 1 rfl) ?_
      refine mh_get K0 hX r0 f_MH_10 rfl d_MH_canBeDone_17 ?_
      refine lv_iload_n hx hb d_MH_canBeDone_20 rfl (lv_at hl 0 rfl) ?_
      obtain ⟨yy, hy1, hy2⟩ := rl j (by omega)
      obtain ⟨ix, cap, ga, q1, q2, q3, q4⟩ := rAr.in (j := j) (by omega)
      obtain ⟨d1, d3, d4, d5, d6, d7, j0⟩ := hy2.fst
      refine mh_callR (mh_sV (rest := []) (av := [.int (nI j)]) K0 hX r1 rfl e_AL_get l_MH_133 k457 k458 rfl rfl d_MH_canBeDone_21) (c_AL_get r1 q3 q2 (by omega) q1 (q4.trans hy1)) K0 hOK hml hl.1 e_AL_get hX hS d_MH_canBeDone_21 (Nat.le_of_ble_eq_true rfl) (Nat.le_of_ble_eq_true rfl) (Nat.le_of_ble_eq_true rfl) (Nat.le_of_ble_eq_true rfl) (Nat.le_of_ble_eq_true rfl) (fun H locs hX hS => ?_)
      refine W.eq (g2 := F0 m 24 ls [.ref yy]) rfl ?_
      refine mh_cast K0 hX j0 rfl k113 d_MH_canBeDone_24 ?_
      refine lv_astore_n (lv' := [(3, .ref yy), (2, .int (nI j)), (0, .ref x0), (1, .ref a)]) hx hb d_MH_canBeDone_27 rfl hl (by decide) rfl (fun ls hl => ?_)
      refine lv_aload_n hx hb d_MH_canBeDone_28 rfl (lv_at hl 0 rfl) ?_
      refine mh_get K0 hX j0 f_MH_119 rfl d_MH_canBeDone_29 ?_
      refine mh_ifeqB (tgt := 45) hx hb d_MH_canBeDone_32 (by decide) (fun ct => ?_) (fun cf => ?_)
      · skip
        refine lv_iinc (v := nI (j + 1)) (k := 1) (lv' := [(2, .int (nI (j + 1))), (3, .ref yy), (0, .ref x0), (1, .ref a)]) hx hb d_MH_canBeDone_45 hl rfl (mh_inc j) (by decide) rfl (fun ls hl => ?_)
        refine lv_goto (tgt := 5) hx hb d_MH_canBeDone_48 (by decide) ?_
        exact ih (j + 1) _ _ _ hX hS (lv_sub hl [0, 2, 3] rfl) (by omega) (by omega) (fun z hz => if e : z = j then (by rw [e, ct]; simp) else hj z (by omega))
      · skip
        refine lv_aload_n hx hb d_MH_canBeDone_35 rfl (lv_at hl 3 rfl) ?_
        refine lv_aload_n hx hb d_MH_canBeDone_36 rfl (lv_at hl 0 rfl) ?_
        refine mh_callR (mh_sV (rest := []) (av := [.ref yy]) K0 hX i0 rfl e_IN_isHitBy l_MH_204 k471 k472 rfl rfl d_MH_canBeDone_37) (c_IN_isHitBy h ho hy2 (hlo j (by omega))) K0 hOK hml hl.1 e_IN_isHitBy hX hS d_MH_canBeDone_37 (Nat.le_of_ble_eq_true rfl) (Nat.le_of_ble_eq_true rfl) (Nat.le_of_ble_eq_true rfl) (Nat.le_of_ble_eq_true rfl) (Nat.le_of_ble_eq_true rfl) (fun H locs hX hS => ?_)
        refine W.eq (g2 := F0 m 40 ls [.int (mh_b (st_ht x (log j)))]) rfl ?_
        refine mh_ifeqB (tgt := 45) hx hb d_MH_canBeDone_40 (by decide) (fun c2 => ?_) (fun c2 => ?_)
        · skip
          refine lv_iinc (v := nI (j + 1)) (k := 1) (lv' := [(2, .int (nI (j + 1))), (3, .ref yy), (0, .ref x0), (1, .ref a)]) hx hb d_MH_canBeDone_45 hl rfl (mh_inc j) (by decide) rfl (fun ls hl => ?_)
          refine lv_goto (tgt := 5) hx hb d_MH_canBeDone_48 (by decide) ?_
          exact ih (j + 1) _ _ _ hX hS (lv_sub hl [0, 2, 3] rfl) (by omega) (by omega) (fun z hz => if e : z = j then (by rw [e, c2]; simp) else hj z (by omega))
        · skip
          refine lv_iconst (v := nI 0) hx hb d_MH_canBeDone_43 (by decide) ?_
          exact mh_iret K0 hr (by decide) hlocks hX hS (⟨by unfold st_ok; rw [st_any_true (i := j) (by omega) (by rw [cf, c2, decide_eq_true hsj]; rfl)]; rfl, rfl⟩) (Nat.le_of_ble_eq_true rfl) (Nat.le_of_ble_eq_true rfl) d_MH_canBeDone_44
  exact LP (n0 - iv_sn x) _ _ _ _ hX hS hl (show iv_sn x + (n0 - iv_sn x) = n0 by omega) (Nat.le_refl _) (fun z hz => by rw [decide_eq_false (by omega)]; rfl)
set_option maxHeartbeats 4000000 in
set_option maxRecDepth 100000 in
theorem c_MH_howManyOpen {l : Launch} {b : Nat} {dC : Nat → ClassId} {dI : Nat → Nat → Nat} {dA : Nat → ClassId} {zs : Nat → Nat} {w : mh_w} {x0 aL aS aD aV rs : Nat} (r0 : w 0 0 = some (x0, .inr (4, [.ref aL, .ref aS, .ref aD, .ref aV, .int (nI rs)]))) {dr : Nat → Option Nat} (r10 : w 10 0 = some (aD, .inl (dA 5, 16, .inr (.inr (.inr (.inr dr)))))) : mh_Met l b dC dI dA zs y_MH_howManyOpen (mh_rm 0 0 0) [.ref x0] w (mh_V (some (.int (nI (pb_cnt (fun t => (dr t).isSome) 16)))) (fun w' => w' = w)) := by
  refine mh_ofW (cc := b_MH_howManyOpen) (n := 3) (ret := (some .int)) (hs := []) (by decide) k643 ?_
  intro p e s m below meth c hx hb hr hml hown hts hlocks hnm hT hOK hadm
  have K0 : mh_K0 p s m ([.ref x0]).toArray c "MeldHost" b_MH_howManyOpen dC dI dA := ⟨hx, hb, hown, hts, hOK.1, hOK.2.1⟩
  have hX := hOK.2.2.2.2
  have hb0 := hOK.2.2.2.1
  have hS : va_S (mh_A b) s.heap s.heap [] := va_S.rf
  have hl := lv_entry ([.ref x0]) (n := 3) (Nat.le_of_ble_eq_true rfl)
  rw [lg_entry_eq]
  generalize (lg_sl ([.ref x0]) ++ List.replicate (3 - (lg_sl ([.ref x0])).length) Slot.unset).toArray = ls at hl ⊢
  have hl : lv_has ls 3 [(0, .ref x0)] := hl
  refine lv_iconst (v := nI 0) hx hb d_MH_howManyOpen_0 (by decide) ?_
  refine lv_istore_n (lv' := [(1, .int (nI 0)), (0, .ref x0)]) hx hb d_MH_howManyOpen_1 rfl hl (by decide) rfl (fun ls hl => ?_)
  refine lv_iconst (v := nI 0) hx hb d_MH_howManyOpen_2 (by decide) ?_
  refine lv_istore_n (lv' := [(2, .int (nI 0)), (1, .int (nI 0)), (0, .ref x0)]) hx hb d_MH_howManyOpen_3 rfl hl (by decide) rfl (fun ls hl => ?_)
  have LP : ∀ (n : Nat) (j : Nat) (H : Heap) (locs : List Loc) (ls : Array Slot), mh_P (dC, dI) b w H → va_S (mh_A b) s.heap H locs → lv_has ls 3 [(2, .int (nI j)), (1, .int (nI (pb_cnt (fun t => (dr t).isSome) j))), (0, .ref x0)] → (j + n = 16) → W p l e (mh_rm 0 0 0) s m ([.ref x0]).toArray below meth c H locs (0) (0) (mh_MQ below b dC dI (mh_V (some (.int (nI (pb_cnt (fun t => (dr t).isSome) 16)))) (fun w' => w' = w)) ([.ref x0]).toArray s 0 0) (F0 m 4 ls []) := by
    intro n
    induction n with
    | zero =>
      intro j H locs ls hX hS hl hn9
      refine lv_iload_n hx hb d_MH_howManyOpen_4 rfl (lv_at hl 0 rfl) ?_
      refine lv_bipush (v := nI 16) hx hb d_MH_howManyOpen_5 (by decide) ?_
      refine mh_icmp_ge (tgt := 28) hx hb (by omega) (by omega) d_MH_howManyOpen_7 (by decide) (fun _ => ?_) (fun z => absurd z (by omega))
      refine lv_iload_n hx hb d_MH_howManyOpen_28 rfl (lv_at hl 1 rfl) ?_
      exact mh_iret K0 hr rfl hlocks hX hS (⟨by rw [show j = 16 by omega], rfl⟩) (Nat.le_of_ble_eq_true rfl) (Nat.le_of_ble_eq_true rfl) d_MH_howManyOpen_29
    | succ n ih =>
      intro j H locs ls hX hS hl hn9
      refine lv_iload_n hx hb d_MH_howManyOpen_4 rfl (lv_at hl 0 rfl) ?_
      refine lv_bipush (v := nI 16) hx hb d_MH_howManyOpen_5 (by decide) ?_
      refine mh_icmp_ge (tgt := 28) hx hb (by omega) (by omega) d_MH_howManyOpen_7 (by decide) (fun z => absurd z (by omega)) (fun _ => ?_)
      refine lv_aload_n hx hb d_MH_howManyOpen_10 rfl (lv_at hl 2 rfl) ?_
      refine mh_get K0 hX r0 f_MH_25 rfl d_MH_howManyOpen_11 ?_
      refine lv_iload_n hx hb d_MH_howManyOpen_14 rfl (lv_at hl 0 rfl) ?_
      cases hd : dr j with
      | none =>
        refine mh_aaldN 5 rfl K0 hX r10 (by omega) (by omega) (r := none) (hd) d_MH_howManyOpen_15 ?_
        refine W.eq (g2 := F0 m 16 ls [.null]) rfl ?_
        refine lv_ifnullN (tgt := 22) hx hb d_MH_howManyOpen_16 (by decide) ?_
        refine lv_iinc (v := nI (j + 1)) (k := 0) (lv' := [(2, .int (nI (j + 1))), (1, .int (nI (pb_cnt (fun t => (dr t).isSome) j))), (0, .ref x0)]) hx hb d_MH_howManyOpen_22 hl rfl (mh_inc j) (by decide) rfl (fun ls hl => ?_)
        refine lv_goto (tgt := 4) hx hb d_MH_howManyOpen_25 (by decide) ?_
        have hl : lv_has ls 3 [(2, .int (nI (j + 1))), (1, .int (nI (pb_cnt (fun t => (dr t).isSome) (j + 1)))), (0, .ref x0)] := by rw [pb_cnt]; simp only [hd]; exact hl
        exact ih (j + 1) _ _ _ hX hS hl (by omega)
      | some yy =>
        refine mh_aaldN 5 rfl K0 hX r10 (by omega) (by omega) (r := (some yy)) (hd) d_MH_howManyOpen_15 ?_
        refine W.eq (g2 := F0 m 16 ls [.ref yy]) rfl ?_
        refine lv_ifnull hx hb d_MH_howManyOpen_16 ?_
        refine lv_iinc (v := nI ((pb_cnt (fun t => (dr t).isSome) j) + 1)) (k := 1) (lv' := [(1, .int (nI ((pb_cnt (fun t => (dr t).isSome) j) + 1))), (2, .int (nI j)), (0, .ref x0)]) hx hb d_MH_howManyOpen_19 hl rfl (mh_inc (pb_cnt (fun t => (dr t).isSome) j)) (by decide) rfl (fun ls hl => ?_)
        refine lv_iinc (v := nI (j + 1)) (k := 1) (lv' := [(2, .int (nI (j + 1))), (1, .int (nI ((pb_cnt (fun t => (dr t).isSome) j) + 1))), (0, .ref x0)]) hx hb d_MH_howManyOpen_22 hl rfl (mh_inc j) (by decide) rfl (fun ls hl => ?_)
        refine lv_goto (tgt := 4) hx hb d_MH_howManyOpen_25 (by decide) ?_
        have hl : lv_has ls 3 [(2, .int (nI (j + 1))), (1, .int (nI (pb_cnt (fun t => (dr t).isSome) (j + 1)))), (0, .ref x0)] := by rw [pb_cnt]; simp only [hd]; exact hl
        exact ih (j + 1) _ _ _ hX hS hl (by omega)
  exact LP 16 0 _ _ _ hX hS hl rfl
end
section
theorem d_MH_begin_0 : decode b_MH_begin 0 = .ok (.iload_n 1, 1) := by decide +kernel
theorem d_MH_begin_1 : decode b_MH_begin 1 = .ok (.bipush 16, 2) := by decide +kernel
theorem d_MH_begin_3 : decode b_MH_begin 3 = .ok (.invokestatic 40, 3) := by decide +kernel
theorem d_MH_begin_6 : decode b_MH_begin 6 = .ok (.iload_n 2, 1) := by decide +kernel
theorem d_MH_begin_7 : decode b_MH_begin 7 = .ok (.iconst 4, 1) := by decide +kernel
theorem d_MH_begin_8 : decode b_MH_begin 8 = .ok (.invokestatic 40, 3) := by decide +kernel
theorem d_MH_begin_11 : decode b_MH_begin 11 = .ok (.iload_n 3, 1) := by decide +kernel
theorem d_MH_begin_12 : decode b_MH_begin 12 = .ok (.iconst 2, 1) := by decide +kernel
theorem d_MH_begin_13 : decode b_MH_begin 13 = .ok (.invokestatic 40, 3) := by decide +kernel
theorem d_MH_get_0 : decode b_MH_get 0 = .ok (.iload_n 1, 1) := by decide +kernel
theorem d_MH_get_1 : decode b_MH_get 1 = .ok (.bipush 16, 2) := by decide +kernel
theorem d_MH_get_3 : decode b_MH_get 3 = .ok (.invokestatic 40, 3) := by decide +kernel
theorem d_MH_get_6 : decode b_MH_get 6 = .ok (.iload_n 2, 1) := by decide +kernel
theorem d_MH_get_7 : decode b_MH_get 7 = .ok (.sipush 256, 3) := by decide +kernel
theorem d_MH_get_10 : decode b_MH_get 10 = .ok (.invokestatic 40, 3) := by decide +kernel
theorem d_MH_delete_0 : decode b_MH_delete 0 = .ok (.iload_n 1, 1) := by decide +kernel
theorem d_MH_delete_1 : decode b_MH_delete 1 = .ok (.bipush 16, 2) := by decide +kernel
theorem d_MH_delete_3 : decode b_MH_delete 3 = .ok (.invokestatic 40, 3) := by decide +kernel
theorem d_MH_delete_6 : decode b_MH_delete 6 = .ok (.iload_n 2, 1) := by decide +kernel
theorem d_MH_delete_7 : decode b_MH_delete 7 = .ok (.sipush 256, 3) := by decide +kernel
theorem d_MH_delete_10 : decode b_MH_delete 10 = .ok (.invokestatic 40, 3) := by decide +kernel
theorem d_MH_put_0 : decode b_MH_put 0 = .ok (.iload_n 1, 1) := by decide +kernel
theorem d_MH_put_1 : decode b_MH_put 1 = .ok (.bipush 16, 2) := by decide +kernel
theorem d_MH_put_3 : decode b_MH_put 3 = .ok (.invokestatic 40, 3) := by decide +kernel
theorem d_MH_put_6 : decode b_MH_put 6 = .ok (.iload_n 2, 1) := by decide +kernel
theorem d_MH_put_7 : decode b_MH_put 7 = .ok (.sipush 256, 3) := by decide +kernel
theorem d_MH_put_10 : decode b_MH_put 10 = .ok (.invokestatic 40, 3) := by decide +kernel
theorem d_MH_part_0 : decode b_MH_part 0 = .ok (.iload_n 1, 1) := by decide +kernel
theorem d_MH_part_1 : decode b_MH_part 1 = .ok (.bipush 16, 2) := by decide +kernel
theorem d_MH_part_3 : decode b_MH_part 3 = .ok (.invokestatic 40, 3) := by decide +kernel
theorem d_MH_part_6 : decode b_MH_part 6 = .ok (.iload_n 2, 1) := by decide +kernel
theorem d_MH_part_7 : decode b_MH_part 7 = .ok (.iload_n 3, 1) := by decide +kernel
theorem d_MH_part_8 : decode b_MH_part 8 = .ok (.iload 4, 2) := by decide +kernel
theorem d_MH_part_10 : decode b_MH_part 10 = .ok (.invokestatic 88, 3) := by decide +kernel
theorem d_MH_look_0 : decode b_MH_look 0 = .ok (.iload_n 1, 1) := by decide +kernel
theorem d_MH_look_1 : decode b_MH_look 1 = .ok (.iconst 4, 1) := by decide +kernel
theorem d_MH_look_2 : decode b_MH_look 2 = .ok (.invokestatic 40, 3) := by decide +kernel
theorem d_MH_look_5 : decode b_MH_look 5 = .ok (.iload_n 2, 1) := by decide +kernel
theorem d_MH_look_6 : decode b_MH_look 6 = .ok (.iload_n 3, 1) := by decide +kernel
theorem d_MH_look_7 : decode b_MH_look 7 = .ok (.iload 4, 2) := by decide +kernel
theorem d_MH_look_9 : decode b_MH_look 9 = .ok (.invokestatic 88, 3) := by decide +kernel
theorem d_MH_commit_0 : decode b_MH_commit 0 = .ok (.iload_n 1, 1) := by decide +kernel
theorem d_MH_commit_1 : decode b_MH_commit 1 = .ok (.bipush 16, 2) := by decide +kernel
theorem d_MH_commit_3 : decode b_MH_commit 3 = .ok (.invokestatic 40, 3) := by decide +kernel
theorem d_MH_abort_0 : decode b_MH_abort 0 = .ok (.iload_n 1, 1) := by decide +kernel
theorem d_MH_abort_1 : decode b_MH_abort 1 = .ok (.bipush 16, 2) := by decide +kernel
theorem d_MH_abort_3 : decode b_MH_abort 3 = .ok (.invokestatic 40, 3) := by decide +kernel
theorem d_MH_advance_0 : decode b_MH_advance 0 = .ok (.iload_n 1, 1) := by decide +kernel
theorem d_MH_advance_1 : decode b_MH_advance 1 = .ok (.iconst 4, 1) := by decide +kernel
theorem d_MH_advance_2 : decode b_MH_advance 2 = .ok (.invokestatic 40, 3) := by decide +kernel
theorem d_MH_advance_5 : decode b_MH_advance 5 = .ok (.iload_n 2, 1) := by decide +kernel
theorem d_MH_advance_6 : decode b_MH_advance 6 = .ok (.sipush 401, 3) := by decide +kernel
theorem d_MH_advance_9 : decode b_MH_advance 9 = .ok (.invokestatic 40, 3) := by decide +kernel
theorem d_MH_restart_0 : decode b_MH_restart 0 = .ok (.iload_n 1, 1) := by decide +kernel
theorem d_MH_restart_1 : decode b_MH_restart 1 = .ok (.iconst 4, 1) := by decide +kernel
theorem d_MH_restart_2 : decode b_MH_restart 2 = .ok (.invokestatic 40, 3) := by decide +kernel
theorem d_MH_state_0 : decode b_MH_state 0 = .ok (.iload_n 1, 1) := by decide +kernel
theorem d_MH_state_1 : decode b_MH_state 1 = .ok (.iconst 4, 1) := by decide +kernel
theorem d_MH_state_2 : decode b_MH_state 2 = .ok (.invokestatic 40, 3) := by decide +kernel
theorem d_MH_state_5 : decode b_MH_state 5 = .ok (.iload_n 2, 1) := by decide +kernel
theorem d_MH_state_6 : decode b_MH_state 6 = .ok (.sipush 256, 3) := by decide +kernel
theorem d_MH_state_9 : decode b_MH_state 9 = .ok (.invokestatic 40, 3) := by decide +kernel
theorem d_MH_verdict_0 : decode b_MH_verdict 0 = .ok (.iload_n 1, 1) := by decide +kernel
theorem d_MH_verdict_1 : decode b_MH_verdict 1 = .ok (.iconst 4, 1) := by decide +kernel
theorem d_MH_verdict_2 : decode b_MH_verdict 2 = .ok (.invokestatic 40, 3) := by decide +kernel
theorem d_MH_intention_0 : decode b_MH_intention 0 = .ok (.iload_n 2, 1) := by decide +kernel
theorem d_MH_intention_1 : decode b_MH_intention 1 = .ok (.bipush 6, 2) := by decide +kernel
theorem d_MH_intention_3 : decode b_MH_intention 3 = .ok (.invokestatic 40, 3) := by decide +kernel
theorem d_MH_count_0 : decode b_MH_count 0 = .ok (.iload_n 1, 1) := by decide +kernel
theorem d_MH_count_1 : decode b_MH_count 1 = .ok (.iconst 5, 1) := by decide +kernel
theorem d_MH_count_2 : decode b_MH_count 2 = .ok (.invokestatic 40, 3) := by decide +kernel
theorem d_MH_get_13 : decode b_MH_get 13 = .ok (.aload_n 0, 1) := by decide +kernel
theorem d_MH_get_14 : decode b_MH_get 14 = .ok (.iload_n 1, 1) := by decide +kernel
theorem d_MH_get_15 : decode b_MH_get 15 = .ok (.invokevirtual 65, 3) := by decide +kernel
theorem d_MH_put_13 : decode b_MH_put 13 = .ok (.aload_n 0, 1) := by decide +kernel
theorem d_MH_put_14 : decode b_MH_put 14 = .ok (.iload_n 1, 1) := by decide +kernel
theorem d_MH_put_15 : decode b_MH_put 15 = .ok (.invokevirtual 65, 3) := by decide +kernel
theorem d_MH_delete_13 : decode b_MH_delete 13 = .ok (.aload_n 0, 1) := by decide +kernel
theorem d_MH_delete_14 : decode b_MH_delete 14 = .ok (.iload_n 1, 1) := by decide +kernel
theorem d_MH_delete_15 : decode b_MH_delete 15 = .ok (.invokevirtual 65, 3) := by decide +kernel
theorem d_MH_part_13 : decode b_MH_part 13 = .ok (.aload_n 0, 1) := by decide +kernel
theorem d_MH_part_14 : decode b_MH_part 14 = .ok (.iload_n 1, 1) := by decide +kernel
theorem d_MH_part_15 : decode b_MH_part 15 = .ok (.invokevirtual 65, 3) := by decide +kernel
theorem d_MH_commit_6 : decode b_MH_commit 6 = .ok (.aload_n 0, 1) := by decide +kernel
theorem d_MH_commit_7 : decode b_MH_commit 7 = .ok (.iload_n 1, 1) := by decide +kernel
theorem d_MH_commit_8 : decode b_MH_commit 8 = .ok (.invokevirtual 65, 3) := by decide +kernel
theorem d_MH_abort_6 : decode b_MH_abort 6 = .ok (.aload_n 0, 1) := by decide +kernel
theorem d_MH_abort_7 : decode b_MH_abort 7 = .ok (.iload_n 1, 1) := by decide +kernel
theorem d_MH_abort_8 : decode b_MH_abort 8 = .ok (.invokevirtual 65, 3) := by decide +kernel
theorem d_MH_begin_16 : decode b_MH_begin 16 = .ok (.aload_n 0, 1) := by decide +kernel
theorem d_MH_begin_17 : decode b_MH_begin 17 = .ok (.getfield 25, 3) := by decide +kernel
theorem d_MH_begin_20 : decode b_MH_begin 20 = .ok (.iload_n 1, 1) := by decide +kernel
theorem d_MH_begin_21 : decode b_MH_begin 21 = .ok (.aaload, 1) := by decide +kernel
theorem d_MH_begin_22 : decode b_MH_begin 22 = .ok (.ifnull 13, 3) := by decide +kernel
theorem d_MH_begin_25 : decode b_MH_begin 25 = .ok (.new 44, 3) := by decide +kernel
theorem d_MH_begin_28 : decode b_MH_begin 28 = .ok (.dup, 1) := by decide +kernel
theorem d_MH_begin_29 : decode b_MH_begin 29 = .ok (.ldc 46, 2) := by decide +kernel
theorem d_MH_begin_31 : decode b_MH_begin 31 = .ok (.invokespecial 48, 3) := by decide +kernel
theorem d_MH_begin_34 : decode b_MH_begin 34 = .ok (.athrow, 1) := by decide +kernel
theorem d_MH_begin_35 : decode b_MH_begin 35 = .ok (.aload_n 0, 1) := by decide +kernel
theorem d_MH_begin_36 : decode b_MH_begin 36 = .ok (.getfield 18, 3) := by decide +kernel
theorem d_MH_begin_39 : decode b_MH_begin 39 = .ok (.iload_n 2, 1) := by decide +kernel
theorem d_MH_begin_40 : decode b_MH_begin 40 = .ok (.aaload, 1) := by decide +kernel
theorem d_MH_begin_41 : decode b_MH_begin 41 = .ok (.astore 4, 2) := by decide +kernel
theorem d_MH_begin_43 : decode b_MH_begin 43 = .ok (.aload_n 0, 1) := by decide +kernel
theorem d_MH_begin_44 : decode b_MH_begin 44 = .ok (.getfield 25, 3) := by decide +kernel
theorem d_MH_begin_47 : decode b_MH_begin 47 = .ok (.iload_n 1, 1) := by decide +kernel
theorem d_MH_begin_48 : decode b_MH_begin 48 = .ok (.new 23, 3) := by decide +kernel
theorem d_MH_begin_51 : decode b_MH_begin 51 = .ok (.dup, 1) := by decide +kernel
theorem d_MH_begin_52 : decode b_MH_begin 52 = .ok (.iload_n 2, 1) := by decide +kernel
theorem d_MH_begin_53 : decode b_MH_begin 53 = .ok (.aload 4, 2) := by decide +kernel
theorem d_MH_begin_55 : decode b_MH_begin 55 = .ok (.getfield 51, 3) := by decide +kernel
theorem d_MH_begin_58 : decode b_MH_begin 58 = .ok (.iload_n 3, 1) := by decide +kernel
theorem d_MH_begin_59 : decode b_MH_begin 59 = .ok (.invokespecial 54, 3) := by decide +kernel
theorem d_MH_begin_62 : decode b_MH_begin 62 = .ok (.aastore, 1) := by decide +kernel
theorem d_MH_begin_63 : decode b_MH_begin 63 = .ok (.aload_n 0, 1) := by decide +kernel
theorem d_MH_begin_64 : decode b_MH_begin 64 = .ok (.getfield 31, 3) := by decide +kernel
theorem d_MH_begin_67 : decode b_MH_begin 67 = .ok (.iload_n 1, 1) := by decide +kernel
theorem d_MH_begin_68 : decode b_MH_begin 68 = .ok (.aaload, 1) := by decide +kernel
theorem d_MH_begin_69 : decode b_MH_begin 69 = .ok (.aload 4, 2) := by decide +kernel
theorem d_MH_begin_71 : decode b_MH_begin 71 = .ok (.getfield 57, 3) := by decide +kernel
theorem d_MH_begin_74 : decode b_MH_begin 74 = .ok (.invokevirtual 61, 3) := by decide +kernel
theorem d_MH_begin_77 : decode b_MH_begin 77 = .ok (.return_, 1) := by decide +kernel
theorem d_MH_get_18 : decode b_MH_get 18 = .ok (.iload_n 2, 1) := by decide +kernel
theorem d_MH_get_19 : decode b_MH_get 19 = .ok (.invokevirtual 69, 3) := by decide +kernel
theorem d_MH_get_22 : decode b_MH_get 22 = .ok (.aload_n 0, 1) := by decide +kernel
theorem d_MH_get_23 : decode b_MH_get 23 = .ok (.getfield 31, 3) := by decide +kernel
theorem d_MH_get_26 : decode b_MH_get 26 = .ok (.iload_n 1, 1) := by decide +kernel
theorem d_MH_get_27 : decode b_MH_get 27 = .ok (.aaload, 1) := by decide +kernel
theorem d_MH_get_28 : decode b_MH_get 28 = .ok (.iload_n 2, 1) := by decide +kernel
theorem d_MH_get_29 : decode b_MH_get 29 = .ok (.invokestatic 73, 3) := by decide +kernel
theorem d_MH_get_32 : decode b_MH_get 32 = .ok (.lreturn, 1) := by decide +kernel
theorem d_MH_put_18 : decode b_MH_put 18 = .ok (.iload_n 2, 1) := by decide +kernel
theorem d_MH_put_19 : decode b_MH_put 19 = .ok (.iconst 1, 1) := by decide +kernel
theorem d_MH_put_20 : decode b_MH_put 20 = .ok (.lload_n 3, 1) := by decide +kernel
theorem d_MH_put_21 : decode b_MH_put 21 = .ok (.invokestatic 77, 3) := by decide +kernel
theorem d_MH_put_24 : decode b_MH_put 24 = .ok (.istore 5, 2) := by decide +kernel
theorem d_MH_put_26 : decode b_MH_put 26 = .ok (.aload_n 0, 1) := by decide +kernel
theorem d_MH_put_27 : decode b_MH_put 27 = .ok (.getfield 31, 3) := by decide +kernel
theorem d_MH_put_30 : decode b_MH_put 30 = .ok (.iload_n 1, 1) := by decide +kernel
theorem d_MH_put_31 : decode b_MH_put 31 = .ok (.aaload, 1) := by decide +kernel
theorem d_MH_put_32 : decode b_MH_put 32 = .ok (.iload_n 2, 1) := by decide +kernel
theorem d_MH_put_33 : decode b_MH_put 33 = .ok (.lload_n 3, 1) := by decide +kernel
theorem d_MH_put_34 : decode b_MH_put 34 = .ok (.invokevirtual 81, 3) := by decide +kernel
theorem d_MH_put_37 : decode b_MH_put 37 = .ok (.iload 5, 2) := by decide +kernel
theorem d_MH_put_39 : decode b_MH_put 39 = .ok (.ireturn, 1) := by decide +kernel
theorem d_MH_delete_18 : decode b_MH_delete 18 = .ok (.iload_n 2, 1) := by decide +kernel
theorem d_MH_delete_19 : decode b_MH_delete 19 = .ok (.iconst 0, 1) := by decide +kernel
theorem d_MH_delete_20 : decode b_MH_delete 20 = .ok (.lconst 0, 1) := by decide +kernel
theorem d_MH_delete_21 : decode b_MH_delete 21 = .ok (.invokestatic 77, 3) := by decide +kernel
theorem d_MH_delete_24 : decode b_MH_delete 24 = .ok (.istore_n 3, 1) := by decide +kernel
theorem d_MH_delete_25 : decode b_MH_delete 25 = .ok (.aload_n 0, 1) := by decide +kernel
theorem d_MH_delete_26 : decode b_MH_delete 26 = .ok (.getfield 31, 3) := by decide +kernel
theorem d_MH_delete_29 : decode b_MH_delete 29 = .ok (.iload_n 1, 1) := by decide +kernel
theorem d_MH_delete_30 : decode b_MH_delete 30 = .ok (.aaload, 1) := by decide +kernel
theorem d_MH_delete_31 : decode b_MH_delete 31 = .ok (.iload_n 2, 1) := by decide +kernel
theorem d_MH_delete_32 : decode b_MH_delete 32 = .ok (.invokevirtual 85, 3) := by decide +kernel
theorem d_MH_delete_35 : decode b_MH_delete 35 = .ok (.iload_n 3, 1) := by decide +kernel
theorem d_MH_delete_36 : decode b_MH_delete 36 = .ok (.ireturn, 1) := by decide +kernel
theorem d_MH_part_18 : decode b_MH_part 18 = .ok (.astore 5, 2) := by decide +kernel
theorem d_MH_part_20 : decode b_MH_part 20 = .ok (.aload 5, 2) := by decide +kernel
theorem d_MH_part_22 : decode b_MH_part 22 = .ok (.getfield 91, 3) := by decide +kernel
theorem d_MH_part_25 : decode b_MH_part 25 = .ok (.bipush 8, 2) := by decide +kernel
theorem d_MH_part_27 : decode b_MH_part 27 = .ok (.if_icmp .lt 13, 3) := by decide +kernel
theorem d_MH_part_40 : decode b_MH_part 40 = .ok (.aload 5, 2) := by decide +kernel
theorem d_MH_part_42 : decode b_MH_part 42 = .ok (.iload_n 2, 1) := by decide +kernel
theorem d_MH_part_43 : decode b_MH_part 43 = .ok (.iload_n 3, 1) := by decide +kernel
theorem d_MH_part_44 : decode b_MH_part 44 = .ok (.invokevirtual 99, 3) := by decide +kernel
theorem d_MH_part_47 : decode b_MH_part 47 = .ok (.aload_n 0, 1) := by decide +kernel
theorem d_MH_part_48 : decode b_MH_part 48 = .ok (.getfield 31, 3) := by decide +kernel
theorem d_MH_part_51 : decode b_MH_part 51 = .ok (.iload_n 1, 1) := by decide +kernel
theorem d_MH_part_52 : decode b_MH_part 52 = .ok (.aaload, 1) := by decide +kernel
theorem d_MH_part_53 : decode b_MH_part 53 = .ok (.iload_n 2, 1) := by decide +kernel
theorem d_MH_part_54 : decode b_MH_part 54 = .ok (.iload_n 3, 1) := by decide +kernel
theorem d_MH_part_55 : decode b_MH_part 55 = .ok (.iload 4, 2) := by decide +kernel
theorem d_MH_part_57 : decode b_MH_part 57 = .ok (.invokevirtual 102, 3) := by decide +kernel
theorem d_MH_part_60 : decode b_MH_part 60 = .ok (.lreturn, 1) := by decide +kernel
theorem d_MH_part_30 : decode b_MH_part 30 = .ok (.new 94, 3) := by decide +kernel
theorem d_MH_part_33 : decode b_MH_part 33 = .ok (.dup, 1) := by decide +kernel
theorem d_MH_part_34 : decode b_MH_part 34 = .ok (.ldc 96, 2) := by decide +kernel
theorem d_MH_part_36 : decode b_MH_part 36 = .ok (.invokespecial 98, 3) := by decide +kernel
theorem d_MH_part_39 : decode b_MH_part 39 = .ok (.athrow, 1) := by decide +kernel
theorem d_MH_abort_11 : decode b_MH_abort 11 = .ok (.pop, 1) := by decide +kernel
theorem d_MH_abort_12 : decode b_MH_abort 12 = .ok (.aload_n 0, 1) := by decide +kernel
theorem d_MH_abort_13 : decode b_MH_abort 13 = .ok (.getfield 25, 3) := by decide +kernel
theorem d_MH_abort_16 : decode b_MH_abort 16 = .ok (.iload_n 1, 1) := by decide +kernel
theorem d_MH_abort_17 : decode b_MH_abort 17 = .ok (.aconst_null, 1) := by decide +kernel
theorem d_MH_abort_18 : decode b_MH_abort 18 = .ok (.aastore, 1) := by decide +kernel
theorem d_MH_abort_19 : decode b_MH_abort 19 = .ok (.return_, 1) := by decide +kernel
theorem d_MH_commit_11 : decode b_MH_commit 11 = .ok (.astore_n 2, 1) := by decide +kernel
theorem d_MH_commit_12 : decode b_MH_commit 12 = .ok (.aload_n 2, 1) := by decide +kernel
theorem d_MH_commit_13 : decode b_MH_commit 13 = .ok (.getfield 106, 3) := by decide +kernel
theorem d_MH_commit_16 : decode b_MH_commit 16 = .ok (.ifCond .ne 12, 3) := by decide +kernel
theorem d_MH_commit_19 : decode b_MH_commit 19 = .ok (.aload_n 0, 1) := by decide +kernel
theorem d_MH_commit_20 : decode b_MH_commit 20 = .ok (.getfield 25, 3) := by decide +kernel
theorem d_MH_commit_23 : decode b_MH_commit 23 = .ok (.iload_n 1, 1) := by decide +kernel
theorem d_MH_commit_24 : decode b_MH_commit 24 = .ok (.aconst_null, 1) := by decide +kernel
theorem d_MH_commit_25 : decode b_MH_commit 25 = .ok (.aastore, 1) := by decide +kernel
theorem d_MH_commit_26 : decode b_MH_commit 26 = .ok (.iconst (-1), 1) := by decide +kernel
theorem d_MH_commit_27 : decode b_MH_commit 27 = .ok (.ireturn, 1) := by decide +kernel
theorem d_MH_commit_28 : decode b_MH_commit 28 = .ok (.aload_n 0, 1) := by decide +kernel
theorem d_MH_commit_29 : decode b_MH_commit 29 = .ok (.getfield 10, 3) := by decide +kernel
theorem d_MH_commit_32 : decode b_MH_commit 32 = .ok (.invokevirtual 109, 3) := by decide +kernel
theorem d_MH_commit_35 : decode b_MH_commit 35 = .ok (.sipush 400, 3) := by decide +kernel
theorem d_MH_commit_38 : decode b_MH_commit 38 = .ok (.if_icmp .lt 13, 3) := by decide +kernel
theorem d_MH_commit_41 : decode b_MH_commit 41 = .ok (.new 94, 3) := by decide +kernel
theorem d_MH_commit_44 : decode b_MH_commit 44 = .ok (.dup, 1) := by decide +kernel
theorem d_MH_commit_45 : decode b_MH_commit 45 = .ok (.ldc 113, 2) := by decide +kernel
theorem d_MH_commit_47 : decode b_MH_commit 47 = .ok (.invokespecial 98, 3) := by decide +kernel
theorem d_MH_commit_50 : decode b_MH_commit 50 = .ok (.athrow, 1) := by decide +kernel
theorem d_MH_state_12 : decode b_MH_state 12 = .ok (.aload_n 0, 1) := by decide +kernel
theorem d_MH_state_13 : decode b_MH_state 13 = .ok (.getfield 18, 3) := by decide +kernel
theorem d_MH_state_16 : decode b_MH_state 16 = .ok (.iload_n 1, 1) := by decide +kernel
theorem d_MH_state_17 : decode b_MH_state 17 = .ok (.aaload, 1) := by decide +kernel
theorem d_MH_state_18 : decode b_MH_state 18 = .ok (.getfield 57, 3) := by decide +kernel
theorem d_MH_state_21 : decode b_MH_state 21 = .ok (.iload_n 2, 1) := by decide +kernel
theorem d_MH_state_22 : decode b_MH_state 22 = .ok (.invokestatic 73, 3) := by decide +kernel
theorem d_MH_state_25 : decode b_MH_state 25 = .ok (.lreturn, 1) := by decide +kernel
theorem d_MH_look_12 : decode b_MH_look 12 = .ok (.aload_n 0, 1) := by decide +kernel
theorem d_MH_look_13 : decode b_MH_look 13 = .ok (.getfield 18, 3) := by decide +kernel
theorem d_MH_look_16 : decode b_MH_look 16 = .ok (.iload_n 1, 1) := by decide +kernel
theorem d_MH_look_17 : decode b_MH_look 17 = .ok (.aaload, 1) := by decide +kernel
theorem d_MH_look_18 : decode b_MH_look 18 = .ok (.getfield 57, 3) := by decide +kernel
theorem d_MH_look_21 : decode b_MH_look 21 = .ok (.iload_n 2, 1) := by decide +kernel
theorem d_MH_look_22 : decode b_MH_look 22 = .ok (.iload_n 3, 1) := by decide +kernel
theorem d_MH_look_23 : decode b_MH_look 23 = .ok (.iload 4, 2) := by decide +kernel
theorem d_MH_look_25 : decode b_MH_look 25 = .ok (.invokevirtual 102, 3) := by decide +kernel
theorem d_MH_look_28 : decode b_MH_look 28 = .ok (.lreturn, 1) := by decide +kernel
theorem d_MH_verdict_5 : decode b_MH_verdict 5 = .ok (.aload_n 0, 1) := by decide +kernel
theorem d_MH_verdict_6 : decode b_MH_verdict 6 = .ok (.iload_n 2, 1) := by decide +kernel
theorem d_MH_verdict_7 : decode b_MH_verdict 7 = .ok (.invokevirtual 149, 3) := by decide +kernel
theorem d_MH_verdict_10 : decode b_MH_verdict 10 = .ok (.astore_n 3, 1) := by decide +kernel
theorem d_MH_verdict_11 : decode b_MH_verdict 11 = .ok (.iload_n 2, 1) := by decide +kernel
theorem d_MH_verdict_12 : decode b_MH_verdict 12 = .ok (.aload_n 0, 1) := by decide +kernel
theorem d_MH_verdict_13 : decode b_MH_verdict 13 = .ok (.getfield 18, 3) := by decide +kernel
theorem d_MH_verdict_16 : decode b_MH_verdict 16 = .ok (.iload_n 1, 1) := by decide +kernel
theorem d_MH_verdict_17 : decode b_MH_verdict 17 = .ok (.aaload, 1) := by decide +kernel
theorem d_MH_verdict_18 : decode b_MH_verdict 18 = .ok (.getfield 51, 3) := by decide +kernel
theorem d_MH_verdict_21 : decode b_MH_verdict 21 = .ok (.if_icmp .lt 5, 3) := by decide +kernel
theorem d_MH_verdict_26 : decode b_MH_verdict 26 = .ok (.aload_n 3, 1) := by decide +kernel
theorem d_MH_verdict_27 : decode b_MH_verdict 27 = .ok (.getfield 119, 3) := by decide +kernel
theorem d_MH_verdict_30 : decode b_MH_verdict 30 = .ok (.ifCond .eq 7, 3) := by decide +kernel
theorem d_MH_verdict_37 : decode b_MH_verdict 37 = .ok (.iconst 2, 1) := by decide +kernel
theorem d_MH_verdict_38 : decode b_MH_verdict 38 = .ok (.ireturn, 1) := by decide +kernel
theorem d_MH_verdict_33 : decode b_MH_verdict 33 = .ok (.iconst 1, 1) := by decide +kernel
theorem d_MH_verdict_34 : decode b_MH_verdict 34 = .ok (.goto 4, 3) := by decide +kernel
theorem d_MH_verdict_24 : decode b_MH_verdict 24 = .ok (.iconst 0, 1) := by decide +kernel
theorem d_MH_verdict_25 : decode b_MH_verdict 25 = .ok (.ireturn, 1) := by decide +kernel
theorem d_MH_intention_6 : decode b_MH_intention 6 = .ok (.aload_n 0, 1) := by decide +kernel
theorem d_MH_intention_7 : decode b_MH_intention 7 = .ok (.iload_n 1, 1) := by decide +kernel
theorem d_MH_intention_8 : decode b_MH_intention 8 = .ok (.invokevirtual 149, 3) := by decide +kernel
theorem d_MH_intention_11 : decode b_MH_intention 11 = .ok (.iload_n 2, 1) := by decide +kernel
theorem d_MH_intention_12 : decode b_MH_intention 12 = .ok (.invokevirtual 152, 3) := by decide +kernel
theorem d_MH_intention_15 : decode b_MH_intention 15 = .ok (.ireturn, 1) := by decide +kernel
theorem d_MH_count_5 : decode b_MH_count 5 = .ok (.iload_n 1, 1) := by decide +kernel
theorem d_MH_count_6 : decode b_MH_count 6 = .ok (.ifCond .ne 11, 3) := by decide +kernel
theorem d_MH_count_9 : decode b_MH_count 9 = .ok (.aload_n 0, 1) := by decide +kernel
theorem d_MH_count_10 : decode b_MH_count 10 = .ok (.getfield 10, 3) := by decide +kernel
theorem d_MH_count_13 : decode b_MH_count 13 = .ok (.invokevirtual 109, 3) := by decide +kernel
theorem d_MH_count_16 : decode b_MH_count 16 = .ok (.ireturn, 1) := by decide +kernel
theorem d_MH_count_17 : decode b_MH_count 17 = .ok (.iload_n 1, 1) := by decide +kernel
theorem d_MH_count_18 : decode b_MH_count 18 = .ok (.iconst 1, 1) := by decide +kernel
theorem d_MH_count_19 : decode b_MH_count 19 = .ok (.if_icmp .ne 8, 3) := by decide +kernel
theorem d_MH_count_22 : decode b_MH_count 22 = .ok (.aload_n 0, 1) := by decide +kernel
theorem d_MH_count_23 : decode b_MH_count 23 = .ok (.invokevirtual 155, 3) := by decide +kernel
theorem d_MH_count_26 : decode b_MH_count 26 = .ok (.ireturn, 1) := by decide +kernel
theorem d_MH_count_27 : decode b_MH_count 27 = .ok (.iload_n 2, 1) := by decide +kernel
theorem d_MH_count_28 : decode b_MH_count 28 = .ok (.iconst 4, 1) := by decide +kernel
theorem d_MH_count_29 : decode b_MH_count 29 = .ok (.invokestatic 40, 3) := by decide +kernel
theorem d_MH_count_32 : decode b_MH_count 32 = .ok (.iload_n 1, 1) := by decide +kernel
theorem d_MH_count_33 : decode b_MH_count 33 = .ok (.iconst 2, 1) := by decide +kernel
theorem d_MH_count_34 : decode b_MH_count 34 = .ok (.if_icmp .ne 13, 3) := by decide +kernel
theorem d_MH_count_37 : decode b_MH_count 37 = .ok (.aload_n 0, 1) := by decide +kernel
theorem d_MH_count_38 : decode b_MH_count 38 = .ok (.getfield 18, 3) := by decide +kernel
theorem d_MH_count_41 : decode b_MH_count 41 = .ok (.iload_n 2, 1) := by decide +kernel
theorem d_MH_count_42 : decode b_MH_count 42 = .ok (.aaload, 1) := by decide +kernel
theorem d_MH_count_43 : decode b_MH_count 43 = .ok (.getfield 51, 3) := by decide +kernel
theorem d_MH_count_46 : decode b_MH_count 46 = .ok (.ireturn, 1) := by decide +kernel
theorem d_MH_count_47 : decode b_MH_count 47 = .ok (.iload_n 1, 1) := by decide +kernel
theorem d_MH_count_48 : decode b_MH_count 48 = .ok (.iconst 3, 1) := by decide +kernel
theorem d_MH_count_49 : decode b_MH_count 49 = .ok (.if_icmp .ne 13, 3) := by decide +kernel
theorem d_MH_count_52 : decode b_MH_count 52 = .ok (.aload_n 0, 1) := by decide +kernel
theorem d_MH_count_53 : decode b_MH_count 53 = .ok (.getfield 18, 3) := by decide +kernel
theorem d_MH_count_56 : decode b_MH_count 56 = .ok (.iload_n 2, 1) := by decide +kernel
theorem d_MH_count_57 : decode b_MH_count 57 = .ok (.aaload, 1) := by decide +kernel
theorem d_MH_count_58 : decode b_MH_count 58 = .ok (.getfield 158, 3) := by decide +kernel
theorem d_MH_count_61 : decode b_MH_count 61 = .ok (.ireturn, 1) := by decide +kernel
theorem d_MH_count_62 : decode b_MH_count 62 = .ok (.iload_n 3, 1) := by decide +kernel
theorem d_MH_count_63 : decode b_MH_count 63 = .ok (.sipush 256, 3) := by decide +kernel
theorem d_MH_count_66 : decode b_MH_count 66 = .ok (.invokestatic 40, 3) := by decide +kernel
theorem d_MH_count_69 : decode b_MH_count 69 = .ok (.aload_n 0, 1) := by decide +kernel
theorem d_MH_count_70 : decode b_MH_count 70 = .ok (.getfield 18, 3) := by decide +kernel
theorem d_MH_count_73 : decode b_MH_count 73 = .ok (.iload_n 2, 1) := by decide +kernel
theorem d_MH_count_74 : decode b_MH_count 74 = .ok (.aaload, 1) := by decide +kernel
theorem d_MH_count_75 : decode b_MH_count 75 = .ok (.getfield 161, 3) := by decide +kernel
theorem d_MH_count_78 : decode b_MH_count 78 = .ok (.iload_n 3, 1) := by decide +kernel
theorem d_MH_count_79 : decode b_MH_count 79 = .ok (.iaload, 1) := by decide +kernel
theorem d_MH_count_80 : decode b_MH_count 80 = .ok (.ireturn, 1) := by decide +kernel
set_option maxHeartbeats 4000000 in
set_option maxRecDepth 100000 in
theorem c_MH_begin_1 {l : Launch} {b : Nat} {dC : Nat → ClassId} {dI : Nat → Nat → Nat} {dA : Nat → ClassId} {zs : Nat → Nat} {w : mh_w} (hl0 : l.stackTraces = false) {x0 : Nat} {g : st_G} (hR : rC dA zs w x0 g) (hG : sg_ok g) {t u lv : Int32} (h : (st_in t 16 && (st_in u 4 && st_in lv 2)) = false) : mh_Met l b dC dI dA zs y_MH_begin (mh_rm 8 20 1000) [.ref x0, .int t, .int u, .int lv] w (mh_T 8 (fun w' => rC dA zs w' x0 g ∧ mh_C w w')) := by
  have hR2 := hR
  obtain ⟨aL, aS, aD, aV, sv, dr, vw, lg, hP⟩ := hR
  have hP2 := hP
  obtain ⟨r0, rLg, r3, r10, r11, rs, rv, rd, rl⟩ := hP2
  obtain ⟨mc, ar, r1, rAr⟩ := rLg
  have hG2 := hG
  obtain ⟨gn, grs, gat, glo, gdr⟩ := hG2
  refine mh_ofW (cc := b_MH_begin) (n := 5) (ret := none) (hs := []) (by decide) k142 ?_
  intro p e s m below meth c hx hb hr hml hown hts hlocks hnm hT hOK hadm
  have K0 : mh_K0 p s m ([.ref x0, .int t, .int u, .int lv]).toArray c "MeldHost" b_MH_begin dC dI dA := ⟨hx, hb, hown, hts, hOK.1, hOK.2.1⟩
  have hX := hOK.2.2.2.2
  have hb0 := hOK.2.2.2.1
  have hS : va_S (mh_A b) s.heap s.heap [] := va_S.rf
  have hl := lv_entry ([.ref x0, .int t, .int u, .int lv]) (n := 5) (Nat.le_of_ble_eq_true rfl)
  rw [lg_entry_eq]
  generalize (lg_sl ([.ref x0, .int t, .int u, .int lv]) ++ List.replicate (5 - (lg_sl ([.ref x0, .int t, .int u, .int lv])).length) Slot.unset).toArray = ls at hl ⊢
  have hl : lv_has ls 5 [(0, .ref x0), (1, .int t), (2, .int u), (3, .int lv)] := hl
  refine lv_iload_n hx hb d_MH_begin_0 rfl (lv_at hl 1 rfl) ?_
  refine lv_bipush (v := nI 16) hx hb d_MH_begin_1 (by decide) ?_
  by_cases c1 : st_in t 16 = true
  · skip
    obtain ⟨j1, i1, e1⟩ := st_in_of (by decide) c1
    subst e1
    refine mh_callR (mh_sS (rest := []) (av := [.int (nI j1), .int (nI 16)]) K0 e_MH_needBelow l_MH_40 k144 rfl rfl d_MH_begin_3) (c_MH_needBelow i1 (by decide)) K0 hOK hml hl.1 e_MH_needBelow hX hS d_MH_begin_3 (Nat.le_of_ble_eq_true rfl) (Nat.le_of_ble_eq_true rfl) (Nat.le_of_ble_eq_true rfl) (Nat.le_of_ble_eq_true rfl) (Nat.le_of_ble_eq_true rfl) (fun H locs hX hS => ?_)
    refine W.eq (g2 := F0 m 6 ls []) rfl ?_
    refine lv_iload_n hx hb d_MH_begin_6 rfl (lv_at hl 2 rfl) ?_
    refine lv_iconst (v := nI 4) hx hb d_MH_begin_7 (by decide) ?_
    by_cases c2 : st_in u 4 = true
    · skip
      obtain ⟨j2, i2, e2⟩ := st_in_of (by decide) c2
      subst e2
      refine mh_callR (mh_sS (rest := []) (av := [.int (nI j2), .int (nI 4)]) K0 e_MH_needBelow l_MH_40 k144 rfl rfl d_MH_begin_8) (c_MH_needBelow i2 (by decide)) K0 hOK hml hl.1 e_MH_needBelow hX hS d_MH_begin_8 (Nat.le_of_ble_eq_true rfl) (Nat.le_of_ble_eq_true rfl) (Nat.le_of_ble_eq_true rfl) (Nat.le_of_ble_eq_true rfl) (Nat.le_of_ble_eq_true rfl) (fun H locs hX hS => ?_)
      refine W.eq (g2 := F0 m 11 ls []) rfl ?_
      refine lv_iload_n hx hb d_MH_begin_11 rfl (lv_at hl 3 rfl) ?_
      refine lv_iconst (v := nI 2) hx hb d_MH_begin_12 (by decide) ?_
      by_cases c3 : st_in lv 2 = true
      · skip
        obtain ⟨j3, i3, e3⟩ := st_in_of (by decide) c3
        subst e3
        exact absurd h (by simp [c1, c2, c3])
      · skip
        refine mh_callT (mh_sS (rest := []) (av := [.int lv, .int (nI 2)]) K0 e_MH_needBelow l_MH_40 k144 rfl rfl d_MH_begin_13) (c_MH_needBelow_no hl0 (Bool.eq_false_iff.mpr c3)) K0 hOK hml hl.1 e_MH_needBelow hX hS d_MH_begin_13 (Nat.le_of_ble_eq_true rfl) (Nat.le_of_ble_eq_true rfl) (Nat.le_of_ble_eq_true rfl) (Nat.le_of_ble_eq_true rfl) (Nat.le_of_ble_eq_true rfl) (fun q w1 H locs hq hw hX hS => ?_)
        exact mh_leave hlocks hT hX hS (⟨q, rfl, hq, hR2.x hw, hw.C⟩) (Nat.le_of_ble_eq_true rfl) (Nat.le_of_ble_eq_true rfl)
    · skip
      refine mh_callT (mh_sS (rest := []) (av := [.int u, .int (nI 4)]) K0 e_MH_needBelow l_MH_40 k144 rfl rfl d_MH_begin_8) (c_MH_needBelow_no hl0 (Bool.eq_false_iff.mpr c2)) K0 hOK hml hl.1 e_MH_needBelow hX hS d_MH_begin_8 (Nat.le_of_ble_eq_true rfl) (Nat.le_of_ble_eq_true rfl) (Nat.le_of_ble_eq_true rfl) (Nat.le_of_ble_eq_true rfl) (Nat.le_of_ble_eq_true rfl) (fun q w1 H locs hq hw hX hS => ?_)
      exact mh_leave hlocks hT hX hS (⟨q, rfl, hq, hR2.x hw, hw.C⟩) (Nat.le_of_ble_eq_true rfl) (Nat.le_of_ble_eq_true rfl)
  · skip
    refine mh_callT (mh_sS (rest := []) (av := [.int t, .int (nI 16)]) K0 e_MH_needBelow l_MH_40 k144 rfl rfl d_MH_begin_3) (c_MH_needBelow_no hl0 (Bool.eq_false_iff.mpr c1)) K0 hOK hml hl.1 e_MH_needBelow hX hS d_MH_begin_3 (Nat.le_of_ble_eq_true rfl) (Nat.le_of_ble_eq_true rfl) (Nat.le_of_ble_eq_true rfl) (Nat.le_of_ble_eq_true rfl) (Nat.le_of_ble_eq_true rfl) (fun q w1 H locs hq hw hX hS => ?_)
    exact mh_leave hlocks hT hX hS (⟨q, rfl, hq, hR2.x hw, hw.C⟩) (Nat.le_of_ble_eq_true rfl) (Nat.le_of_ble_eq_true rfl)
set_option maxHeartbeats 4000000 in
set_option maxRecDepth 100000 in
theorem c_MH_get_1 {l : Launch} {b : Nat} {dC : Nat → ClassId} {dI : Nat → Nat → Nat} {dA : Nat → ClassId} {zs : Nat → Nat} {w : mh_w} (hl0 : l.stackTraces = false) {x0 : Nat} {g : st_G} (hR : rC dA zs w x0 g) (hG : sg_ok g) {t key : Int32} (h : (st_in t 16 && st_in key 256) = false) : mh_Met l b dC dI dA zs y_MH_get (mh_rm 8 20 1000) [.ref x0, .int t, .int key] w (mh_T 8 (fun w' => rC dA zs w' x0 g ∧ mh_C w w')) := by
  have hR2 := hR
  obtain ⟨aL, aS, aD, aV, sv, dr, vw, lg, hP⟩ := hR
  have hP2 := hP
  obtain ⟨r0, rLg, r3, r10, r11, rs, rv, rd, rl⟩ := hP2
  obtain ⟨mc, ar, r1, rAr⟩ := rLg
  have hG2 := hG
  obtain ⟨gn, grs, gat, glo, gdr⟩ := hG2
  refine mh_ofW (cc := b_MH_get) (n := 3) (ret := (some .long)) (hs := []) (by decide) k300 ?_
  intro p e s m below meth c hx hb hr hml hown hts hlocks hnm hT hOK hadm
  have K0 : mh_K0 p s m ([.ref x0, .int t, .int key]).toArray c "MeldHost" b_MH_get dC dI dA := ⟨hx, hb, hown, hts, hOK.1, hOK.2.1⟩
  have hX := hOK.2.2.2.2
  have hb0 := hOK.2.2.2.1
  have hS : va_S (mh_A b) s.heap s.heap [] := va_S.rf
  have hl := lv_entry ([.ref x0, .int t, .int key]) (n := 3) (Nat.le_of_ble_eq_true rfl)
  rw [lg_entry_eq]
  generalize (lg_sl ([.ref x0, .int t, .int key]) ++ List.replicate (3 - (lg_sl ([.ref x0, .int t, .int key])).length) Slot.unset).toArray = ls at hl ⊢
  have hl : lv_has ls 3 [(0, .ref x0), (1, .int t), (2, .int key)] := hl
  refine lv_iload_n hx hb d_MH_get_0 rfl (lv_at hl 1 rfl) ?_
  refine lv_bipush (v := nI 16) hx hb d_MH_get_1 (by decide) ?_
  by_cases c1 : st_in t 16 = true
  · skip
    obtain ⟨j1, i1, e1⟩ := st_in_of (by decide) c1
    subst e1
    refine mh_callR (mh_sS (rest := []) (av := [.int (nI j1), .int (nI 16)]) K0 e_MH_needBelow l_MH_40 k144 rfl rfl d_MH_get_3) (c_MH_needBelow i1 (by decide)) K0 hOK hml hl.1 e_MH_needBelow hX hS d_MH_get_3 (Nat.le_of_ble_eq_true rfl) (Nat.le_of_ble_eq_true rfl) (Nat.le_of_ble_eq_true rfl) (Nat.le_of_ble_eq_true rfl) (Nat.le_of_ble_eq_true rfl) (fun H locs hX hS => ?_)
    refine W.eq (g2 := F0 m 6 ls []) rfl ?_
    refine lv_iload_n hx hb d_MH_get_6 rfl (lv_at hl 2 rfl) ?_
    refine lv_sipush (v := nI 256) hx hb d_MH_get_7 (by decide) ?_
    by_cases c2 : st_in key 256 = true
    · skip
      obtain ⟨j2, i2, e2⟩ := st_in_of (by decide) c2
      subst e2
      exact absurd h (by simp [c1, c2])
    · skip
      refine mh_callT (mh_sS (rest := []) (av := [.int key, .int (nI 256)]) K0 e_MH_needBelow l_MH_40 k144 rfl rfl d_MH_get_10) (c_MH_needBelow_no hl0 (Bool.eq_false_iff.mpr c2)) K0 hOK hml hl.1 e_MH_needBelow hX hS d_MH_get_10 (Nat.le_of_ble_eq_true rfl) (Nat.le_of_ble_eq_true rfl) (Nat.le_of_ble_eq_true rfl) (Nat.le_of_ble_eq_true rfl) (Nat.le_of_ble_eq_true rfl) (fun q w1 H locs hq hw hX hS => ?_)
      exact mh_leave hlocks hT hX hS (⟨q, rfl, hq, hR2.x hw, hw.C⟩) (Nat.le_of_ble_eq_true rfl) (Nat.le_of_ble_eq_true rfl)
  · skip
    refine mh_callT (mh_sS (rest := []) (av := [.int t, .int (nI 16)]) K0 e_MH_needBelow l_MH_40 k144 rfl rfl d_MH_get_3) (c_MH_needBelow_no hl0 (Bool.eq_false_iff.mpr c1)) K0 hOK hml hl.1 e_MH_needBelow hX hS d_MH_get_3 (Nat.le_of_ble_eq_true rfl) (Nat.le_of_ble_eq_true rfl) (Nat.le_of_ble_eq_true rfl) (Nat.le_of_ble_eq_true rfl) (Nat.le_of_ble_eq_true rfl) (fun q w1 H locs hq hw hX hS => ?_)
    exact mh_leave hlocks hT hX hS (⟨q, rfl, hq, hR2.x hw, hw.C⟩) (Nat.le_of_ble_eq_true rfl) (Nat.le_of_ble_eq_true rfl)
set_option maxHeartbeats 4000000 in
set_option maxRecDepth 100000 in
theorem c_MH_delete_1 {l : Launch} {b : Nat} {dC : Nat → ClassId} {dI : Nat → Nat → Nat} {dA : Nat → ClassId} {zs : Nat → Nat} {w : mh_w} (hl0 : l.stackTraces = false) {x0 : Nat} {g : st_G} (hR : rC dA zs w x0 g) (hG : sg_ok g) {t key : Int32} (h : (st_in t 16 && st_in key 256) = false) : mh_Met l b dC dI dA zs y_MH_delete (mh_rm 8 20 1000) [.ref x0, .int t, .int key] w (mh_T 8 (fun w' => rC dA zs w' x0 g ∧ mh_C w w')) := by
  have hR2 := hR
  obtain ⟨aL, aS, aD, aV, sv, dr, vw, lg, hP⟩ := hR
  have hP2 := hP
  obtain ⟨r0, rLg, r3, r10, r11, rs, rv, rd, rl⟩ := hP2
  obtain ⟨mc, ar, r1, rAr⟩ := rLg
  have hG2 := hG
  obtain ⟨gn, grs, gat, glo, gdr⟩ := hG2
  refine mh_ofW (cc := b_MH_delete) (n := 4) (ret := (some .int)) (hs := []) (by decide) k394 ?_
  intro p e s m below meth c hx hb hr hml hown hts hlocks hnm hT hOK hadm
  have K0 : mh_K0 p s m ([.ref x0, .int t, .int key]).toArray c "MeldHost" b_MH_delete dC dI dA := ⟨hx, hb, hown, hts, hOK.1, hOK.2.1⟩
  have hX := hOK.2.2.2.2
  have hb0 := hOK.2.2.2.1
  have hS : va_S (mh_A b) s.heap s.heap [] := va_S.rf
  have hl := lv_entry ([.ref x0, .int t, .int key]) (n := 4) (Nat.le_of_ble_eq_true rfl)
  rw [lg_entry_eq]
  generalize (lg_sl ([.ref x0, .int t, .int key]) ++ List.replicate (4 - (lg_sl ([.ref x0, .int t, .int key])).length) Slot.unset).toArray = ls at hl ⊢
  have hl : lv_has ls 4 [(0, .ref x0), (1, .int t), (2, .int key)] := hl
  refine lv_iload_n hx hb d_MH_delete_0 rfl (lv_at hl 1 rfl) ?_
  refine lv_bipush (v := nI 16) hx hb d_MH_delete_1 (by decide) ?_
  by_cases c1 : st_in t 16 = true
  · skip
    obtain ⟨j1, i1, e1⟩ := st_in_of (by decide) c1
    subst e1
    refine mh_callR (mh_sS (rest := []) (av := [.int (nI j1), .int (nI 16)]) K0 e_MH_needBelow l_MH_40 k144 rfl rfl d_MH_delete_3) (c_MH_needBelow i1 (by decide)) K0 hOK hml hl.1 e_MH_needBelow hX hS d_MH_delete_3 (Nat.le_of_ble_eq_true rfl) (Nat.le_of_ble_eq_true rfl) (Nat.le_of_ble_eq_true rfl) (Nat.le_of_ble_eq_true rfl) (Nat.le_of_ble_eq_true rfl) (fun H locs hX hS => ?_)
    refine W.eq (g2 := F0 m 6 ls []) rfl ?_
    refine lv_iload_n hx hb d_MH_delete_6 rfl (lv_at hl 2 rfl) ?_
    refine lv_sipush (v := nI 256) hx hb d_MH_delete_7 (by decide) ?_
    by_cases c2 : st_in key 256 = true
    · skip
      obtain ⟨j2, i2, e2⟩ := st_in_of (by decide) c2
      subst e2
      exact absurd h (by simp [c1, c2])
    · skip
      refine mh_callT (mh_sS (rest := []) (av := [.int key, .int (nI 256)]) K0 e_MH_needBelow l_MH_40 k144 rfl rfl d_MH_delete_10) (c_MH_needBelow_no hl0 (Bool.eq_false_iff.mpr c2)) K0 hOK hml hl.1 e_MH_needBelow hX hS d_MH_delete_10 (Nat.le_of_ble_eq_true rfl) (Nat.le_of_ble_eq_true rfl) (Nat.le_of_ble_eq_true rfl) (Nat.le_of_ble_eq_true rfl) (Nat.le_of_ble_eq_true rfl) (fun q w1 H locs hq hw hX hS => ?_)
      exact mh_leave hlocks hT hX hS (⟨q, rfl, hq, hR2.x hw, hw.C⟩) (Nat.le_of_ble_eq_true rfl) (Nat.le_of_ble_eq_true rfl)
  · skip
    refine mh_callT (mh_sS (rest := []) (av := [.int t, .int (nI 16)]) K0 e_MH_needBelow l_MH_40 k144 rfl rfl d_MH_delete_3) (c_MH_needBelow_no hl0 (Bool.eq_false_iff.mpr c1)) K0 hOK hml hl.1 e_MH_needBelow hX hS d_MH_delete_3 (Nat.le_of_ble_eq_true rfl) (Nat.le_of_ble_eq_true rfl) (Nat.le_of_ble_eq_true rfl) (Nat.le_of_ble_eq_true rfl) (Nat.le_of_ble_eq_true rfl) (fun q w1 H locs hq hw hX hS => ?_)
    exact mh_leave hlocks hT hX hS (⟨q, rfl, hq, hR2.x hw, hw.C⟩) (Nat.le_of_ble_eq_true rfl) (Nat.le_of_ble_eq_true rfl)
set_option maxHeartbeats 4000000 in
set_option maxRecDepth 100000 in
theorem c_MH_put_1 {l : Launch} {b : Nat} {dC : Nat → ClassId} {dI : Nat → Nat → Nat} {dA : Nat → ClassId} {zs : Nat → Nat} {w : mh_w} (hl0 : l.stackTraces = false) {x0 : Nat} {g : st_G} (hR : rC dA zs w x0 g) (hG : sg_ok g) {t key : Int32} {v : Int64} (h : (st_in t 16 && st_in key 256) = false) : mh_Met l b dC dI dA zs y_MH_put (mh_rm 8 20 1000) [.ref x0, .int t, .int key, .long v] w (mh_T 8 (fun w' => rC dA zs w' x0 g ∧ mh_C w w')) := by
  have hR2 := hR
  obtain ⟨aL, aS, aD, aV, sv, dr, vw, lg, hP⟩ := hR
  have hP2 := hP
  obtain ⟨r0, rLg, r3, r10, r11, rs, rv, rd, rl⟩ := hP2
  obtain ⟨mc, ar, r1, rAr⟩ := rLg
  have hG2 := hG
  obtain ⟨gn, grs, gat, glo, gdr⟩ := hG2
  refine mh_ofW (cc := b_MH_put) (n := 6) (ret := (some .int)) (hs := []) (by decide) k352 ?_
  intro p e s m below meth c hx hb hr hml hown hts hlocks hnm hT hOK hadm
  have K0 : mh_K0 p s m ([.ref x0, .int t, .int key, .long v]).toArray c "MeldHost" b_MH_put dC dI dA := ⟨hx, hb, hown, hts, hOK.1, hOK.2.1⟩
  have hX := hOK.2.2.2.2
  have hb0 := hOK.2.2.2.1
  have hS : va_S (mh_A b) s.heap s.heap [] := va_S.rf
  have hl := lv_entry ([.ref x0, .int t, .int key, .long v]) (n := 6) (Nat.le_of_ble_eq_true rfl)
  rw [lg_entry_eq]
  generalize (lg_sl ([.ref x0, .int t, .int key, .long v]) ++ List.replicate (6 - (lg_sl ([.ref x0, .int t, .int key, .long v])).length) Slot.unset).toArray = ls at hl ⊢
  have hl : lv_has ls 6 [(0, .ref x0), (1, .int t), (2, .int key), (3, .long v)] := hl
  refine lv_iload_n hx hb d_MH_put_0 rfl (lv_at hl 1 rfl) ?_
  refine lv_bipush (v := nI 16) hx hb d_MH_put_1 (by decide) ?_
  by_cases c1 : st_in t 16 = true
  · skip
    obtain ⟨j1, i1, e1⟩ := st_in_of (by decide) c1
    subst e1
    refine mh_callR (mh_sS (rest := []) (av := [.int (nI j1), .int (nI 16)]) K0 e_MH_needBelow l_MH_40 k144 rfl rfl d_MH_put_3) (c_MH_needBelow i1 (by decide)) K0 hOK hml hl.1 e_MH_needBelow hX hS d_MH_put_3 (Nat.le_of_ble_eq_true rfl) (Nat.le_of_ble_eq_true rfl) (Nat.le_of_ble_eq_true rfl) (Nat.le_of_ble_eq_true rfl) (Nat.le_of_ble_eq_true rfl) (fun H locs hX hS => ?_)
    refine W.eq (g2 := F0 m 6 ls []) rfl ?_
    refine lv_iload_n hx hb d_MH_put_6 rfl (lv_at hl 2 rfl) ?_
    refine lv_sipush (v := nI 256) hx hb d_MH_put_7 (by decide) ?_
    by_cases c2 : st_in key 256 = true
    · skip
      obtain ⟨j2, i2, e2⟩ := st_in_of (by decide) c2
      subst e2
      exact absurd h (by simp [c1, c2])
    · skip
      refine mh_callT (mh_sS (rest := []) (av := [.int key, .int (nI 256)]) K0 e_MH_needBelow l_MH_40 k144 rfl rfl d_MH_put_10) (c_MH_needBelow_no hl0 (Bool.eq_false_iff.mpr c2)) K0 hOK hml hl.1 e_MH_needBelow hX hS d_MH_put_10 (Nat.le_of_ble_eq_true rfl) (Nat.le_of_ble_eq_true rfl) (Nat.le_of_ble_eq_true rfl) (Nat.le_of_ble_eq_true rfl) (Nat.le_of_ble_eq_true rfl) (fun q w1 H locs hq hw hX hS => ?_)
      exact mh_leave hlocks hT hX hS (⟨q, rfl, hq, hR2.x hw, hw.C⟩) (Nat.le_of_ble_eq_true rfl) (Nat.le_of_ble_eq_true rfl)
  · skip
    refine mh_callT (mh_sS (rest := []) (av := [.int t, .int (nI 16)]) K0 e_MH_needBelow l_MH_40 k144 rfl rfl d_MH_put_3) (c_MH_needBelow_no hl0 (Bool.eq_false_iff.mpr c1)) K0 hOK hml hl.1 e_MH_needBelow hX hS d_MH_put_3 (Nat.le_of_ble_eq_true rfl) (Nat.le_of_ble_eq_true rfl) (Nat.le_of_ble_eq_true rfl) (Nat.le_of_ble_eq_true rfl) (Nat.le_of_ble_eq_true rfl) (fun q w1 H locs hq hw hX hS => ?_)
    exact mh_leave hlocks hT hX hS (⟨q, rfl, hq, hR2.x hw, hw.C⟩) (Nat.le_of_ble_eq_true rfl) (Nat.le_of_ble_eq_true rfl)
set_option maxHeartbeats 4000000 in
set_option maxRecDepth 100000 in
theorem c_MH_part_1 {l : Launch} {b : Nat} {dC : Nat → ClassId} {dI : Nat → Nat → Nat} {dA : Nat → ClassId} {zs : Nat → Nat} {w : mh_w} (hl0 : l.stackTraces = false) {x0 : Nat} {g : st_G} (hR : rC dA zs w x0 g) (hG : sg_ok g) {t low high what : Int32} (h : (st_in t 16 && sp_pt low high what) = false) : mh_Met l b dC dI dA zs y_MH_part (mh_rm 8 20 1000) [.ref x0, .int t, .int low, .int high, .int what] w (mh_T 8 (fun w' => rC dA zs w' x0 g ∧ mh_C w w')) := by
  have hR2 := hR
  obtain ⟨aL, aS, aD, aV, sv, dr, vw, lg, hP⟩ := hR
  have hP2 := hP
  obtain ⟨r0, rLg, r3, r10, r11, rs, rv, rd, rl⟩ := hP2
  obtain ⟨mc, ar, r1, rAr⟩ := rLg
  have hG2 := hG
  obtain ⟨gn, grs, gat, glo, gdr⟩ := hG2
  refine mh_ofW (cc := b_MH_part) (n := 6) (ret := (some .long)) (hs := []) (by decide) k410 ?_
  intro p e s m below meth c hx hb hr hml hown hts hlocks hnm hT hOK hadm
  have K0 : mh_K0 p s m ([.ref x0, .int t, .int low, .int high, .int what]).toArray c "MeldHost" b_MH_part dC dI dA := ⟨hx, hb, hown, hts, hOK.1, hOK.2.1⟩
  have hX := hOK.2.2.2.2
  have hb0 := hOK.2.2.2.1
  have hS : va_S (mh_A b) s.heap s.heap [] := va_S.rf
  have hl := lv_entry ([.ref x0, .int t, .int low, .int high, .int what]) (n := 6) (Nat.le_of_ble_eq_true rfl)
  rw [lg_entry_eq]
  generalize (lg_sl ([.ref x0, .int t, .int low, .int high, .int what]) ++ List.replicate (6 - (lg_sl ([.ref x0, .int t, .int low, .int high, .int what])).length) Slot.unset).toArray = ls at hl ⊢
  have hl : lv_has ls 6 [(0, .ref x0), (1, .int t), (2, .int low), (3, .int high), (4, .int what)] := hl
  refine lv_iload_n hx hb d_MH_part_0 rfl (lv_at hl 1 rfl) ?_
  refine lv_bipush (v := nI 16) hx hb d_MH_part_1 (by decide) ?_
  by_cases c1 : st_in t 16 = true
  · skip
    obtain ⟨j1, i1, e1⟩ := st_in_of (by decide) c1
    subst e1
    refine mh_callR (mh_sS (rest := []) (av := [.int (nI j1), .int (nI 16)]) K0 e_MH_needBelow l_MH_40 k144 rfl rfl d_MH_part_3) (c_MH_needBelow i1 (by decide)) K0 hOK hml hl.1 e_MH_needBelow hX hS d_MH_part_3 (Nat.le_of_ble_eq_true rfl) (Nat.le_of_ble_eq_true rfl) (Nat.le_of_ble_eq_true rfl) (Nat.le_of_ble_eq_true rfl) (Nat.le_of_ble_eq_true rfl) (fun H locs hX hS => ?_)
    refine W.eq (g2 := F0 m 6 ls []) rfl ?_
    refine lv_iload_n hx hb d_MH_part_6 rfl (lv_at hl 2 rfl) ?_
    refine lv_iload_n hx hb d_MH_part_7 rfl (lv_at hl 3 rfl) ?_
    refine lv_iload hx hb d_MH_part_8 (lv_at hl 4 rfl) ?_
    by_cases c2 : sp_pt low high what = true
    · skip
      exact absurd h (by simp [c1, c2])
    · skip
      refine mh_callT (mh_sS (rest := []) (av := [.int low, .int high, .int what]) K0 e_MH_needPart l_MH_88 k412 rfl rfl d_MH_part_10) (c_MH_needPart_no hl0 (Bool.eq_false_iff.mpr c2)) K0 hOK hml hl.1 e_MH_needPart hX hS d_MH_part_10 (Nat.le_of_ble_eq_true rfl) (Nat.le_of_ble_eq_true rfl) (Nat.le_of_ble_eq_true rfl) (Nat.le_of_ble_eq_true rfl) (Nat.le_of_ble_eq_true rfl) (fun q w1 H locs hq hw hX hS => ?_)
      exact mh_leave hlocks hT hX hS (⟨q, rfl, hq, hR2.x hw, hw.C⟩) (Nat.le_of_ble_eq_true rfl) (Nat.le_of_ble_eq_true rfl)
  · skip
    refine mh_callT (mh_sS (rest := []) (av := [.int t, .int (nI 16)]) K0 e_MH_needBelow l_MH_40 k144 rfl rfl d_MH_part_3) (c_MH_needBelow_no hl0 (Bool.eq_false_iff.mpr c1)) K0 hOK hml hl.1 e_MH_needBelow hX hS d_MH_part_3 (Nat.le_of_ble_eq_true rfl) (Nat.le_of_ble_eq_true rfl) (Nat.le_of_ble_eq_true rfl) (Nat.le_of_ble_eq_true rfl) (Nat.le_of_ble_eq_true rfl) (fun q w1 H locs hq hw hX hS => ?_)
    exact mh_leave hlocks hT hX hS (⟨q, rfl, hq, hR2.x hw, hw.C⟩) (Nat.le_of_ble_eq_true rfl) (Nat.le_of_ble_eq_true rfl)
set_option maxHeartbeats 4000000 in
set_option maxRecDepth 100000 in
theorem c_MH_look_1 {l : Launch} {b : Nat} {dC : Nat → ClassId} {dI : Nat → Nat → Nat} {dA : Nat → ClassId} {zs : Nat → Nat} {w : mh_w} (hl0 : l.stackTraces = false) {x0 : Nat} {g : st_G} (hR : rC dA zs w x0 g) (hG : sg_ok g) {u low high what : Int32} (h : (st_in u 4 && sp_pt low high what) = false) : mh_Met l b dC dI dA zs y_MH_look (mh_rm 8 20 1000) [.ref x0, .int u, .int low, .int high, .int what] w (mh_T 8 (fun w' => rC dA zs w' x0 g ∧ mh_C w w')) := by
  have hR2 := hR
  obtain ⟨aL, aS, aD, aV, sv, dr, vw, lg, hP⟩ := hR
  have hP2 := hP
  obtain ⟨r0, rLg, r3, r10, r11, rs, rv, rd, rl⟩ := hP2
  obtain ⟨mc, ar, r1, rAr⟩ := rLg
  have hG2 := hG
  obtain ⟨gn, grs, gat, glo, gdr⟩ := hG2
  refine mh_ofW (cc := b_MH_look) (n := 5) (ret := (some .long)) (hs := []) (by decide) k599 ?_
  intro p e s m below meth c hx hb hr hml hown hts hlocks hnm hT hOK hadm
  have K0 : mh_K0 p s m ([.ref x0, .int u, .int low, .int high, .int what]).toArray c "MeldHost" b_MH_look dC dI dA := ⟨hx, hb, hown, hts, hOK.1, hOK.2.1⟩
  have hX := hOK.2.2.2.2
  have hb0 := hOK.2.2.2.1
  have hS : va_S (mh_A b) s.heap s.heap [] := va_S.rf
  have hl := lv_entry ([.ref x0, .int u, .int low, .int high, .int what]) (n := 5) (Nat.le_of_ble_eq_true rfl)
  rw [lg_entry_eq]
  generalize (lg_sl ([.ref x0, .int u, .int low, .int high, .int what]) ++ List.replicate (5 - (lg_sl ([.ref x0, .int u, .int low, .int high, .int what])).length) Slot.unset).toArray = ls at hl ⊢
  have hl : lv_has ls 5 [(0, .ref x0), (1, .int u), (2, .int low), (3, .int high), (4, .int what)] := hl
  refine lv_iload_n hx hb d_MH_look_0 rfl (lv_at hl 1 rfl) ?_
  refine lv_iconst (v := nI 4) hx hb d_MH_look_1 (by decide) ?_
  by_cases c1 : st_in u 4 = true
  · skip
    obtain ⟨j1, i1, e1⟩ := st_in_of (by decide) c1
    subst e1
    refine mh_callR (mh_sS (rest := []) (av := [.int (nI j1), .int (nI 4)]) K0 e_MH_needBelow l_MH_40 k144 rfl rfl d_MH_look_2) (c_MH_needBelow i1 (by decide)) K0 hOK hml hl.1 e_MH_needBelow hX hS d_MH_look_2 (Nat.le_of_ble_eq_true rfl) (Nat.le_of_ble_eq_true rfl) (Nat.le_of_ble_eq_true rfl) (Nat.le_of_ble_eq_true rfl) (Nat.le_of_ble_eq_true rfl) (fun H locs hX hS => ?_)
    refine W.eq (g2 := F0 m 5 ls []) rfl ?_
    refine lv_iload_n hx hb d_MH_look_5 rfl (lv_at hl 2 rfl) ?_
    refine lv_iload_n hx hb d_MH_look_6 rfl (lv_at hl 3 rfl) ?_
    refine lv_iload hx hb d_MH_look_7 (lv_at hl 4 rfl) ?_
    by_cases c2 : sp_pt low high what = true
    · skip
      exact absurd h (by simp [c1, c2])
    · skip
      refine mh_callT (mh_sS (rest := []) (av := [.int low, .int high, .int what]) K0 e_MH_needPart l_MH_88 k412 rfl rfl d_MH_look_9) (c_MH_needPart_no hl0 (Bool.eq_false_iff.mpr c2)) K0 hOK hml hl.1 e_MH_needPart hX hS d_MH_look_9 (Nat.le_of_ble_eq_true rfl) (Nat.le_of_ble_eq_true rfl) (Nat.le_of_ble_eq_true rfl) (Nat.le_of_ble_eq_true rfl) (Nat.le_of_ble_eq_true rfl) (fun q w1 H locs hq hw hX hS => ?_)
      exact mh_leave hlocks hT hX hS (⟨q, rfl, hq, hR2.x hw, hw.C⟩) (Nat.le_of_ble_eq_true rfl) (Nat.le_of_ble_eq_true rfl)
  · skip
    refine mh_callT (mh_sS (rest := []) (av := [.int u, .int (nI 4)]) K0 e_MH_needBelow l_MH_40 k144 rfl rfl d_MH_look_2) (c_MH_needBelow_no hl0 (Bool.eq_false_iff.mpr c1)) K0 hOK hml hl.1 e_MH_needBelow hX hS d_MH_look_2 (Nat.le_of_ble_eq_true rfl) (Nat.le_of_ble_eq_true rfl) (Nat.le_of_ble_eq_true rfl) (Nat.le_of_ble_eq_true rfl) (Nat.le_of_ble_eq_true rfl) (fun q w1 H locs hq hw hX hS => ?_)
    exact mh_leave hlocks hT hX hS (⟨q, rfl, hq, hR2.x hw, hw.C⟩) (Nat.le_of_ble_eq_true rfl) (Nat.le_of_ble_eq_true rfl)
set_option maxHeartbeats 4000000 in
set_option maxRecDepth 100000 in
theorem c_MH_commit_1 {l : Launch} {b : Nat} {dC : Nat → ClassId} {dI : Nat → Nat → Nat} {dA : Nat → ClassId} {zs : Nat → Nat} {w : mh_w} (hl0 : l.stackTraces = false) {x0 : Nat} {g : st_G} (hR : rC dA zs w x0 g) (hG : sg_ok g) {t : Int32} (h : st_in t 16 = false) : mh_Met l b dC dI dA zs y_MH_commit (mh_rm 8 20 1000) [.ref x0, .int t] w (mh_T 8 (fun w' => rC dA zs w' x0 g ∧ mh_C w w')) := by
  have hR2 := hR
  obtain ⟨aL, aS, aD, aV, sv, dr, vw, lg, hP⟩ := hR
  have hP2 := hP
  obtain ⟨r0, rLg, r3, r10, r11, rs, rv, rd, rl⟩ := hP2
  obtain ⟨mc, ar, r1, rAr⟩ := rLg
  have hG2 := hG
  obtain ⟨gn, grs, gat, glo, gdr⟩ := hG2
  refine mh_ofW (cc := b_MH_commit) (n := 3) (ret := (some .int)) (hs := []) (by decide) k446 ?_
  intro p e s m below meth c hx hb hr hml hown hts hlocks hnm hT hOK hadm
  have K0 : mh_K0 p s m ([.ref x0, .int t]).toArray c "MeldHost" b_MH_commit dC dI dA := ⟨hx, hb, hown, hts, hOK.1, hOK.2.1⟩
  have hX := hOK.2.2.2.2
  have hb0 := hOK.2.2.2.1
  have hS : va_S (mh_A b) s.heap s.heap [] := va_S.rf
  have hl := lv_entry ([.ref x0, .int t]) (n := 3) (Nat.le_of_ble_eq_true rfl)
  rw [lg_entry_eq]
  generalize (lg_sl ([.ref x0, .int t]) ++ List.replicate (3 - (lg_sl ([.ref x0, .int t])).length) Slot.unset).toArray = ls at hl ⊢
  have hl : lv_has ls 3 [(0, .ref x0), (1, .int t)] := hl
  refine lv_iload_n hx hb d_MH_commit_0 rfl (lv_at hl 1 rfl) ?_
  refine lv_bipush (v := nI 16) hx hb d_MH_commit_1 (by decide) ?_
  by_cases c1 : st_in t 16 = true
  · skip
    obtain ⟨j1, i1, e1⟩ := st_in_of (by decide) c1
    subst e1
    exact absurd h (by simp [c1])
  · skip
    refine mh_callT (mh_sS (rest := []) (av := [.int t, .int (nI 16)]) K0 e_MH_needBelow l_MH_40 k144 rfl rfl d_MH_commit_3) (c_MH_needBelow_no hl0 (Bool.eq_false_iff.mpr c1)) K0 hOK hml hl.1 e_MH_needBelow hX hS d_MH_commit_3 (Nat.le_of_ble_eq_true rfl) (Nat.le_of_ble_eq_true rfl) (Nat.le_of_ble_eq_true rfl) (Nat.le_of_ble_eq_true rfl) (Nat.le_of_ble_eq_true rfl) (fun q w1 H locs hq hw hX hS => ?_)
    exact mh_leave hlocks hT hX hS (⟨q, rfl, hq, hR2.x hw, hw.C⟩) (Nat.le_of_ble_eq_true rfl) (Nat.le_of_ble_eq_true rfl)
set_option maxHeartbeats 4000000 in
set_option maxRecDepth 100000 in
theorem c_MH_abort_1 {l : Launch} {b : Nat} {dC : Nat → ClassId} {dI : Nat → Nat → Nat} {dA : Nat → ClassId} {zs : Nat → Nat} {w : mh_w} (hl0 : l.stackTraces = false) {x0 : Nat} {g : st_G} (hR : rC dA zs w x0 g) (hG : sg_ok g) {t : Int32} (h : st_in t 16 = false) : mh_Met l b dC dI dA zs y_MH_abort (mh_rm 8 20 1000) [.ref x0, .int t] w (mh_T 8 (fun w' => rC dA zs w' x0 g ∧ mh_C w w')) := by
  have hR2 := hR
  obtain ⟨aL, aS, aD, aV, sv, dr, vw, lg, hP⟩ := hR
  have hP2 := hP
  obtain ⟨r0, rLg, r3, r10, r11, rs, rv, rd, rl⟩ := hP2
  obtain ⟨mc, ar, r1, rAr⟩ := rLg
  have hG2 := hG
  obtain ⟨gn, grs, gat, glo, gdr⟩ := hG2
  refine mh_ofW (cc := b_MH_abort) (n := 2) (ret := none) (hs := []) (by decide) k540 ?_
  intro p e s m below meth c hx hb hr hml hown hts hlocks hnm hT hOK hadm
  have K0 : mh_K0 p s m ([.ref x0, .int t]).toArray c "MeldHost" b_MH_abort dC dI dA := ⟨hx, hb, hown, hts, hOK.1, hOK.2.1⟩
  have hX := hOK.2.2.2.2
  have hb0 := hOK.2.2.2.1
  have hS : va_S (mh_A b) s.heap s.heap [] := va_S.rf
  have hl := lv_entry ([.ref x0, .int t]) (n := 2) (Nat.le_of_ble_eq_true rfl)
  rw [lg_entry_eq]
  generalize (lg_sl ([.ref x0, .int t]) ++ List.replicate (2 - (lg_sl ([.ref x0, .int t])).length) Slot.unset).toArray = ls at hl ⊢
  have hl : lv_has ls 2 [(0, .ref x0), (1, .int t)] := hl
  refine lv_iload_n hx hb d_MH_abort_0 rfl (lv_at hl 1 rfl) ?_
  refine lv_bipush (v := nI 16) hx hb d_MH_abort_1 (by decide) ?_
  by_cases c1 : st_in t 16 = true
  · skip
    obtain ⟨j1, i1, e1⟩ := st_in_of (by decide) c1
    subst e1
    exact absurd h (by simp [c1])
  · skip
    refine mh_callT (mh_sS (rest := []) (av := [.int t, .int (nI 16)]) K0 e_MH_needBelow l_MH_40 k144 rfl rfl d_MH_abort_3) (c_MH_needBelow_no hl0 (Bool.eq_false_iff.mpr c1)) K0 hOK hml hl.1 e_MH_needBelow hX hS d_MH_abort_3 (Nat.le_of_ble_eq_true rfl) (Nat.le_of_ble_eq_true rfl) (Nat.le_of_ble_eq_true rfl) (Nat.le_of_ble_eq_true rfl) (Nat.le_of_ble_eq_true rfl) (fun q w1 H locs hq hw hX hS => ?_)
    exact mh_leave hlocks hT hX hS (⟨q, rfl, hq, hR2.x hw, hw.C⟩) (Nat.le_of_ble_eq_true rfl) (Nat.le_of_ble_eq_true rfl)
set_option maxHeartbeats 4000000 in
set_option maxRecDepth 100000 in
theorem c_MH_advance_1 {l : Launch} {b : Nat} {dC : Nat → ClassId} {dI : Nat → Nat → Nat} {dA : Nat → ClassId} {zs : Nat → Nat} {w : mh_w} (hl0 : l.stackTraces = false) {x0 : Nat} {g : st_G} (hR : rC dA zs w x0 g) (hG : sg_ok g) {u k : Int32} (h : (st_in u 4 && st_in k 401) = false) : mh_Met l b dC dI dA zs y_MH_advance (mh_rm 8 20 1000) [.ref x0, .int u, .int k] w (mh_T 8 (fun w' => rC dA zs w' x0 g ∧ mh_C w w')) := by
  have hR2 := hR
  obtain ⟨aL, aS, aD, aV, sv, dr, vw, lg, hP⟩ := hR
  have hP2 := hP
  obtain ⟨r0, rLg, r3, r10, r11, rs, rv, rd, rl⟩ := hP2
  obtain ⟨mc, ar, r1, rAr⟩ := rLg
  have hG2 := hG
  obtain ⟨gn, grs, gat, glo, gdr⟩ := hG2
  refine mh_ofW (cc := b_MH_advance) (n := 6) (ret := (some .int)) (hs := []) (by decide) k547 ?_
  intro p e s m below meth c hx hb hr hml hown hts hlocks hnm hT hOK hadm
  have K0 : mh_K0 p s m ([.ref x0, .int u, .int k]).toArray c "MeldHost" b_MH_advance dC dI dA := ⟨hx, hb, hown, hts, hOK.1, hOK.2.1⟩
  have hX := hOK.2.2.2.2
  have hb0 := hOK.2.2.2.1
  have hS : va_S (mh_A b) s.heap s.heap [] := va_S.rf
  have hl := lv_entry ([.ref x0, .int u, .int k]) (n := 6) (Nat.le_of_ble_eq_true rfl)
  rw [lg_entry_eq]
  generalize (lg_sl ([.ref x0, .int u, .int k]) ++ List.replicate (6 - (lg_sl ([.ref x0, .int u, .int k])).length) Slot.unset).toArray = ls at hl ⊢
  have hl : lv_has ls 6 [(0, .ref x0), (1, .int u), (2, .int k)] := hl
  refine lv_iload_n hx hb d_MH_advance_0 rfl (lv_at hl 1 rfl) ?_
  refine lv_iconst (v := nI 4) hx hb d_MH_advance_1 (by decide) ?_
  by_cases c1 : st_in u 4 = true
  · skip
    obtain ⟨j1, i1, e1⟩ := st_in_of (by decide) c1
    subst e1
    refine mh_callR (mh_sS (rest := []) (av := [.int (nI j1), .int (nI 4)]) K0 e_MH_needBelow l_MH_40 k144 rfl rfl d_MH_advance_2) (c_MH_needBelow i1 (by decide)) K0 hOK hml hl.1 e_MH_needBelow hX hS d_MH_advance_2 (Nat.le_of_ble_eq_true rfl) (Nat.le_of_ble_eq_true rfl) (Nat.le_of_ble_eq_true rfl) (Nat.le_of_ble_eq_true rfl) (Nat.le_of_ble_eq_true rfl) (fun H locs hX hS => ?_)
    refine W.eq (g2 := F0 m 5 ls []) rfl ?_
    refine lv_iload_n hx hb d_MH_advance_5 rfl (lv_at hl 2 rfl) ?_
    refine lv_sipush (v := nI 401) hx hb d_MH_advance_6 (by decide) ?_
    by_cases c2 : st_in k 401 = true
    · skip
      obtain ⟨j2, i2, e2⟩ := st_in_of (by decide) c2
      subst e2
      exact absurd h (by simp [c1, c2])
    · skip
      refine mh_callT (mh_sS (rest := []) (av := [.int k, .int (nI 401)]) K0 e_MH_needBelow l_MH_40 k144 rfl rfl d_MH_advance_9) (c_MH_needBelow_no hl0 (Bool.eq_false_iff.mpr c2)) K0 hOK hml hl.1 e_MH_needBelow hX hS d_MH_advance_9 (Nat.le_of_ble_eq_true rfl) (Nat.le_of_ble_eq_true rfl) (Nat.le_of_ble_eq_true rfl) (Nat.le_of_ble_eq_true rfl) (Nat.le_of_ble_eq_true rfl) (fun q w1 H locs hq hw hX hS => ?_)
      exact mh_leave hlocks hT hX hS (⟨q, rfl, hq, hR2.x hw, hw.C⟩) (Nat.le_of_ble_eq_true rfl) (Nat.le_of_ble_eq_true rfl)
  · skip
    refine mh_callT (mh_sS (rest := []) (av := [.int u, .int (nI 4)]) K0 e_MH_needBelow l_MH_40 k144 rfl rfl d_MH_advance_2) (c_MH_needBelow_no hl0 (Bool.eq_false_iff.mpr c1)) K0 hOK hml hl.1 e_MH_needBelow hX hS d_MH_advance_2 (Nat.le_of_ble_eq_true rfl) (Nat.le_of_ble_eq_true rfl) (Nat.le_of_ble_eq_true rfl) (Nat.le_of_ble_eq_true rfl) (Nat.le_of_ble_eq_true rfl) (fun q w1 H locs hq hw hX hS => ?_)
    exact mh_leave hlocks hT hX hS (⟨q, rfl, hq, hR2.x hw, hw.C⟩) (Nat.le_of_ble_eq_true rfl) (Nat.le_of_ble_eq_true rfl)
set_option maxHeartbeats 4000000 in
set_option maxRecDepth 100000 in
theorem c_MH_restart_1 {l : Launch} {b : Nat} {dC : Nat → ClassId} {dI : Nat → Nat → Nat} {dA : Nat → ClassId} {zs : Nat → Nat} {w : mh_w} (hl0 : l.stackTraces = false) {x0 : Nat} {g : st_G} (hR : rC dA zs w x0 g) (hG : sg_ok g) {u : Int32} (h : st_in u 4 = false) : mh_Met l b dC dI dA zs y_MH_restart (mh_rm 8 20 1000) [.ref x0, .int u] w (mh_T 8 (fun w' => rC dA zs w' x0 g ∧ mh_C w w')) := by
  have hR2 := hR
  obtain ⟨aL, aS, aD, aV, sv, dr, vw, lg, hP⟩ := hR
  have hP2 := hP
  obtain ⟨r0, rLg, r3, r10, r11, rs, rv, rd, rl⟩ := hP2
  obtain ⟨mc, ar, r1, rAr⟩ := rLg
  have hG2 := hG
  obtain ⟨gn, grs, gat, glo, gdr⟩ := hG2
  refine mh_ofW (cc := b_MH_restart) (n := 3) (ret := none) (hs := []) (by decide) k569 ?_
  intro p e s m below meth c hx hb hr hml hown hts hlocks hnm hT hOK hadm
  have K0 : mh_K0 p s m ([.ref x0, .int u]).toArray c "MeldHost" b_MH_restart dC dI dA := ⟨hx, hb, hown, hts, hOK.1, hOK.2.1⟩
  have hX := hOK.2.2.2.2
  have hb0 := hOK.2.2.2.1
  have hS : va_S (mh_A b) s.heap s.heap [] := va_S.rf
  have hl := lv_entry ([.ref x0, .int u]) (n := 3) (Nat.le_of_ble_eq_true rfl)
  rw [lg_entry_eq]
  generalize (lg_sl ([.ref x0, .int u]) ++ List.replicate (3 - (lg_sl ([.ref x0, .int u])).length) Slot.unset).toArray = ls at hl ⊢
  have hl : lv_has ls 3 [(0, .ref x0), (1, .int u)] := hl
  refine lv_iload_n hx hb d_MH_restart_0 rfl (lv_at hl 1 rfl) ?_
  refine lv_iconst (v := nI 4) hx hb d_MH_restart_1 (by decide) ?_
  by_cases c1 : st_in u 4 = true
  · skip
    obtain ⟨j1, i1, e1⟩ := st_in_of (by decide) c1
    subst e1
    exact absurd h (by simp [c1])
  · skip
    refine mh_callT (mh_sS (rest := []) (av := [.int u, .int (nI 4)]) K0 e_MH_needBelow l_MH_40 k144 rfl rfl d_MH_restart_2) (c_MH_needBelow_no hl0 (Bool.eq_false_iff.mpr c1)) K0 hOK hml hl.1 e_MH_needBelow hX hS d_MH_restart_2 (Nat.le_of_ble_eq_true rfl) (Nat.le_of_ble_eq_true rfl) (Nat.le_of_ble_eq_true rfl) (Nat.le_of_ble_eq_true rfl) (Nat.le_of_ble_eq_true rfl) (fun q w1 H locs hq hw hX hS => ?_)
    exact mh_leave hlocks hT hX hS (⟨q, rfl, hq, hR2.x hw, hw.C⟩) (Nat.le_of_ble_eq_true rfl) (Nat.le_of_ble_eq_true rfl)
set_option maxHeartbeats 4000000 in
set_option maxRecDepth 100000 in
theorem c_MH_state_1 {l : Launch} {b : Nat} {dC : Nat → ClassId} {dI : Nat → Nat → Nat} {dA : Nat → ClassId} {zs : Nat → Nat} {w : mh_w} (hl0 : l.stackTraces = false) {x0 : Nat} {g : st_G} (hR : rC dA zs w x0 g) (hG : sg_ok g) {u key : Int32} (h : (st_in u 4 && st_in key 256) = false) : mh_Met l b dC dI dA zs y_MH_state (mh_rm 8 20 1000) [.ref x0, .int u, .int key] w (mh_T 8 (fun w' => rC dA zs w' x0 g ∧ mh_C w w')) := by
  have hR2 := hR
  obtain ⟨aL, aS, aD, aV, sv, dr, vw, lg, hP⟩ := hR
  have hP2 := hP
  obtain ⟨r0, rLg, r3, r10, r11, rs, rv, rd, rl⟩ := hP2
  obtain ⟨mc, ar, r1, rAr⟩ := rLg
  have hG2 := hG
  obtain ⟨gn, grs, gat, glo, gdr⟩ := hG2
  refine mh_ofW (cc := b_MH_state) (n := 3) (ret := (some .long)) (hs := []) (by decide) k592 ?_
  intro p e s m below meth c hx hb hr hml hown hts hlocks hnm hT hOK hadm
  have K0 : mh_K0 p s m ([.ref x0, .int u, .int key]).toArray c "MeldHost" b_MH_state dC dI dA := ⟨hx, hb, hown, hts, hOK.1, hOK.2.1⟩
  have hX := hOK.2.2.2.2
  have hb0 := hOK.2.2.2.1
  have hS : va_S (mh_A b) s.heap s.heap [] := va_S.rf
  have hl := lv_entry ([.ref x0, .int u, .int key]) (n := 3) (Nat.le_of_ble_eq_true rfl)
  rw [lg_entry_eq]
  generalize (lg_sl ([.ref x0, .int u, .int key]) ++ List.replicate (3 - (lg_sl ([.ref x0, .int u, .int key])).length) Slot.unset).toArray = ls at hl ⊢
  have hl : lv_has ls 3 [(0, .ref x0), (1, .int u), (2, .int key)] := hl
  refine lv_iload_n hx hb d_MH_state_0 rfl (lv_at hl 1 rfl) ?_
  refine lv_iconst (v := nI 4) hx hb d_MH_state_1 (by decide) ?_
  by_cases c1 : st_in u 4 = true
  · skip
    obtain ⟨j1, i1, e1⟩ := st_in_of (by decide) c1
    subst e1
    refine mh_callR (mh_sS (rest := []) (av := [.int (nI j1), .int (nI 4)]) K0 e_MH_needBelow l_MH_40 k144 rfl rfl d_MH_state_2) (c_MH_needBelow i1 (by decide)) K0 hOK hml hl.1 e_MH_needBelow hX hS d_MH_state_2 (Nat.le_of_ble_eq_true rfl) (Nat.le_of_ble_eq_true rfl) (Nat.le_of_ble_eq_true rfl) (Nat.le_of_ble_eq_true rfl) (Nat.le_of_ble_eq_true rfl) (fun H locs hX hS => ?_)
    refine W.eq (g2 := F0 m 5 ls []) rfl ?_
    refine lv_iload_n hx hb d_MH_state_5 rfl (lv_at hl 2 rfl) ?_
    refine lv_sipush (v := nI 256) hx hb d_MH_state_6 (by decide) ?_
    by_cases c2 : st_in key 256 = true
    · skip
      obtain ⟨j2, i2, e2⟩ := st_in_of (by decide) c2
      subst e2
      exact absurd h (by simp [c1, c2])
    · skip
      refine mh_callT (mh_sS (rest := []) (av := [.int key, .int (nI 256)]) K0 e_MH_needBelow l_MH_40 k144 rfl rfl d_MH_state_9) (c_MH_needBelow_no hl0 (Bool.eq_false_iff.mpr c2)) K0 hOK hml hl.1 e_MH_needBelow hX hS d_MH_state_9 (Nat.le_of_ble_eq_true rfl) (Nat.le_of_ble_eq_true rfl) (Nat.le_of_ble_eq_true rfl) (Nat.le_of_ble_eq_true rfl) (Nat.le_of_ble_eq_true rfl) (fun q w1 H locs hq hw hX hS => ?_)
      exact mh_leave hlocks hT hX hS (⟨q, rfl, hq, hR2.x hw, hw.C⟩) (Nat.le_of_ble_eq_true rfl) (Nat.le_of_ble_eq_true rfl)
  · skip
    refine mh_callT (mh_sS (rest := []) (av := [.int u, .int (nI 4)]) K0 e_MH_needBelow l_MH_40 k144 rfl rfl d_MH_state_2) (c_MH_needBelow_no hl0 (Bool.eq_false_iff.mpr c1)) K0 hOK hml hl.1 e_MH_needBelow hX hS d_MH_state_2 (Nat.le_of_ble_eq_true rfl) (Nat.le_of_ble_eq_true rfl) (Nat.le_of_ble_eq_true rfl) (Nat.le_of_ble_eq_true rfl) (Nat.le_of_ble_eq_true rfl) (fun q w1 H locs hq hw hX hS => ?_)
    exact mh_leave hlocks hT hX hS (⟨q, rfl, hq, hR2.x hw, hw.C⟩) (Nat.le_of_ble_eq_true rfl) (Nat.le_of_ble_eq_true rfl)
set_option maxHeartbeats 4000000 in
set_option maxRecDepth 100000 in
theorem c_MH_verdict_1 {l : Launch} {b : Nat} {dC : Nat → ClassId} {dI : Nat → Nat → Nat} {dA : Nat → ClassId} {zs : Nat → Nat} {w : mh_w} (hl0 : l.stackTraces = false) {x0 : Nat} {g : st_G} (hR : rC dA zs w x0 g) (hG : sg_ok g) {u k : Int32} (h : st_in u 4 = false) : mh_Met l b dC dI dA zs y_MH_verdict (mh_rm 8 20 1000) [.ref x0, .int u, .int k] w (mh_T 8 (fun w' => rC dA zs w' x0 g ∧ mh_C w w')) := by
  have hR2 := hR
  obtain ⟨aL, aS, aD, aV, sv, dr, vw, lg, hP⟩ := hR
  have hP2 := hP
  obtain ⟨r0, rLg, r3, r10, r11, rs, rv, rd, rl⟩ := hP2
  obtain ⟨mc, ar, r1, rAr⟩ := rLg
  have hG2 := hG
  obtain ⟨gn, grs, gat, glo, gdr⟩ := hG2
  refine mh_ofW (cc := b_MH_verdict) (n := 4) (ret := (some .int)) (hs := []) (by decide) k606 ?_
  intro p e s m below meth c hx hb hr hml hown hts hlocks hnm hT hOK hadm
  have K0 : mh_K0 p s m ([.ref x0, .int u, .int k]).toArray c "MeldHost" b_MH_verdict dC dI dA := ⟨hx, hb, hown, hts, hOK.1, hOK.2.1⟩
  have hX := hOK.2.2.2.2
  have hb0 := hOK.2.2.2.1
  have hS : va_S (mh_A b) s.heap s.heap [] := va_S.rf
  have hl := lv_entry ([.ref x0, .int u, .int k]) (n := 4) (Nat.le_of_ble_eq_true rfl)
  rw [lg_entry_eq]
  generalize (lg_sl ([.ref x0, .int u, .int k]) ++ List.replicate (4 - (lg_sl ([.ref x0, .int u, .int k])).length) Slot.unset).toArray = ls at hl ⊢
  have hl : lv_has ls 4 [(0, .ref x0), (1, .int u), (2, .int k)] := hl
  refine lv_iload_n hx hb d_MH_verdict_0 rfl (lv_at hl 1 rfl) ?_
  refine lv_iconst (v := nI 4) hx hb d_MH_verdict_1 (by decide) ?_
  refine mh_callT (mh_sS (rest := []) (av := [.int u, .int (nI 4)]) K0 e_MH_needBelow l_MH_40 k144 rfl rfl d_MH_verdict_2) (c_MH_needBelow_no hl0 h) K0 hOK hml hl.1 e_MH_needBelow hX hS d_MH_verdict_2 (Nat.le_of_ble_eq_true rfl) (Nat.le_of_ble_eq_true rfl) (Nat.le_of_ble_eq_true rfl) (Nat.le_of_ble_eq_true rfl) (Nat.le_of_ble_eq_true rfl) (fun q w1 H locs hq hw hX hS => ?_)
  exact mh_leave hlocks hT hX hS (⟨q, rfl, hq, hR2.x hw, hw.C⟩) (Nat.le_of_ble_eq_true rfl) (Nat.le_of_ble_eq_true rfl)
set_option maxHeartbeats 4000000 in
set_option maxRecDepth 100000 in
theorem c_MH_intention_1 {l : Launch} {b : Nat} {dC : Nat → ClassId} {dI : Nat → Nat → Nat} {dA : Nat → ClassId} {zs : Nat → Nat} {w : mh_w} (hl0 : l.stackTraces = false) {x0 : Nat} {g : st_G} (hR : rC dA zs w x0 g) (hG : sg_ok g) {k what : Int32} (h : st_in what 6 = false) : mh_Met l b dC dI dA zs y_MH_intention (mh_rm 8 20 1000) [.ref x0, .int k, .int what] w (mh_T 8 (fun w' => rC dA zs w' x0 g ∧ mh_C w w')) := by
  have hR2 := hR
  obtain ⟨aL, aS, aD, aV, sv, dr, vw, lg, hP⟩ := hR
  have hP2 := hP
  obtain ⟨r0, rLg, r3, r10, r11, rs, rv, rd, rl⟩ := hP2
  obtain ⟨mc, ar, r1, rAr⟩ := rLg
  have hG2 := hG
  obtain ⟨gn, grs, gat, glo, gdr⟩ := hG2
  refine mh_ofW (cc := b_MH_intention) (n := 3) (ret := (some .int)) (hs := []) (by decide) k618 ?_
  intro p e s m below meth c hx hb hr hml hown hts hlocks hnm hT hOK hadm
  have K0 : mh_K0 p s m ([.ref x0, .int k, .int what]).toArray c "MeldHost" b_MH_intention dC dI dA := ⟨hx, hb, hown, hts, hOK.1, hOK.2.1⟩
  have hX := hOK.2.2.2.2
  have hb0 := hOK.2.2.2.1
  have hS : va_S (mh_A b) s.heap s.heap [] := va_S.rf
  have hl := lv_entry ([.ref x0, .int k, .int what]) (n := 3) (Nat.le_of_ble_eq_true rfl)
  rw [lg_entry_eq]
  generalize (lg_sl ([.ref x0, .int k, .int what]) ++ List.replicate (3 - (lg_sl ([.ref x0, .int k, .int what])).length) Slot.unset).toArray = ls at hl ⊢
  have hl : lv_has ls 3 [(0, .ref x0), (1, .int k), (2, .int what)] := hl
  refine lv_iload_n hx hb d_MH_intention_0 rfl (lv_at hl 2 rfl) ?_
  refine lv_bipush (v := nI 6) hx hb d_MH_intention_1 (by decide) ?_
  refine mh_callT (mh_sS (rest := []) (av := [.int what, .int (nI 6)]) K0 e_MH_needBelow l_MH_40 k144 rfl rfl d_MH_intention_3) (c_MH_needBelow_no hl0 h) K0 hOK hml hl.1 e_MH_needBelow hX hS d_MH_intention_3 (Nat.le_of_ble_eq_true rfl) (Nat.le_of_ble_eq_true rfl) (Nat.le_of_ble_eq_true rfl) (Nat.le_of_ble_eq_true rfl) (Nat.le_of_ble_eq_true rfl) (fun q w1 H locs hq hw hX hS => ?_)
  exact mh_leave hlocks hT hX hS (⟨q, rfl, hq, hR2.x hw, hw.C⟩) (Nat.le_of_ble_eq_true rfl) (Nat.le_of_ble_eq_true rfl)
set_option maxHeartbeats 4000000 in
set_option maxRecDepth 100000 in
theorem c_MH_count_1 {l : Launch} {b : Nat} {dC : Nat → ClassId} {dI : Nat → Nat → Nat} {dA : Nat → ClassId} {zs : Nat → Nat} {w : mh_w} (hl0 : l.stackTraces = false) {x0 : Nat} {g : st_G} (hR : rC dA zs w x0 g) (hG : sg_ok g) {what k j : Int32} (h : st_in what 5 = false) : mh_Met l b dC dI dA zs y_MH_count (mh_rm 8 20 1000) [.ref x0, .int what, .int k, .int j] w (mh_T 8 (fun w' => rC dA zs w' x0 g ∧ mh_C w w')) := by
  have hR2 := hR
  obtain ⟨aL, aS, aD, aV, sv, dr, vw, lg, hP⟩ := hR
  have hP2 := hP
  obtain ⟨r0, rLg, r3, r10, r11, rs, rv, rd, rl⟩ := hP2
  obtain ⟨mc, ar, r1, rAr⟩ := rLg
  have hG2 := hG
  obtain ⟨gn, grs, gat, glo, gdr⟩ := hG2
  refine mh_ofW (cc := b_MH_count) (n := 4) (ret := (some .int)) (hs := []) (by decide) k639 ?_
  intro p e s m below meth c hx hb hr hml hown hts hlocks hnm hT hOK hadm
  have K0 : mh_K0 p s m ([.ref x0, .int what, .int k, .int j]).toArray c "MeldHost" b_MH_count dC dI dA := ⟨hx, hb, hown, hts, hOK.1, hOK.2.1⟩
  have hX := hOK.2.2.2.2
  have hb0 := hOK.2.2.2.1
  have hS : va_S (mh_A b) s.heap s.heap [] := va_S.rf
  have hl := lv_entry ([.ref x0, .int what, .int k, .int j]) (n := 4) (Nat.le_of_ble_eq_true rfl)
  rw [lg_entry_eq]
  generalize (lg_sl ([.ref x0, .int what, .int k, .int j]) ++ List.replicate (4 - (lg_sl ([.ref x0, .int what, .int k, .int j])).length) Slot.unset).toArray = ls at hl ⊢
  have hl : lv_has ls 4 [(0, .ref x0), (1, .int what), (2, .int k), (3, .int j)] := hl
  refine lv_iload_n hx hb d_MH_count_0 rfl (lv_at hl 1 rfl) ?_
  refine lv_iconst (v := nI 5) hx hb d_MH_count_1 (by decide) ?_
  refine mh_callT (mh_sS (rest := []) (av := [.int what, .int (nI 5)]) K0 e_MH_needBelow l_MH_40 k144 rfl rfl d_MH_count_2) (c_MH_needBelow_no hl0 h) K0 hOK hml hl.1 e_MH_needBelow hX hS d_MH_count_2 (Nat.le_of_ble_eq_true rfl) (Nat.le_of_ble_eq_true rfl) (Nat.le_of_ble_eq_true rfl) (Nat.le_of_ble_eq_true rfl) (Nat.le_of_ble_eq_true rfl) (fun q w1 H locs hq hw hX hS => ?_)
  exact mh_leave hlocks hT hX hS (⟨q, rfl, hq, hR2.x hw, hw.C⟩) (Nat.le_of_ble_eq_true rfl) (Nat.le_of_ble_eq_true rfl)
set_option maxHeartbeats 4000000 in
set_option maxRecDepth 100000 in
theorem c_MH_get_2 {l : Launch} {b : Nat} {dC : Nat → ClassId} {dI : Nat → Nat → Nat} {dA : Nat → ClassId} {zs : Nat → Nat} {w : mh_w} (hl0 : l.stackTraces = false) {x0 : Nat} {g : st_G} (hR : rC dA zs w x0 g) (hG : sg_ok g) {t : Nat} (ht : t < 16) {key : Nat} (hk : key < 256) (hd : sg_dr g t = none) : mh_Met l b dC dI dA zs y_MH_get (mh_rm 8 20 1000) [.ref x0, .int (nI t), .int (nI key)] w (mh_T 9 (fun w' => rC dA zs w' x0 g ∧ mh_C w w')) := by
  have hR2 := hR
  obtain ⟨aL, aS, aD, aV, sv, dr, vw, lg, hP⟩ := hR
  have hP2 := hP
  obtain ⟨r0, rLg, r3, r10, r11, rs, rv, rd, rl⟩ := hP2
  obtain ⟨mc, ar, r1, rAr⟩ := rLg
  have hG2 := hG
  obtain ⟨gn, grs, gat, glo, gdr⟩ := hG2
  refine mh_ofW (cc := b_MH_get) (n := 3) (ret := (some .long)) (hs := []) (by decide) k300 ?_
  intro p e s m below meth c hx hb hr hml hown hts hlocks hnm hT hOK hadm
  have K0 : mh_K0 p s m ([.ref x0, .int (nI t), .int (nI key)]).toArray c "MeldHost" b_MH_get dC dI dA := ⟨hx, hb, hown, hts, hOK.1, hOK.2.1⟩
  have hX := hOK.2.2.2.2
  have hb0 := hOK.2.2.2.1
  have hS : va_S (mh_A b) s.heap s.heap [] := va_S.rf
  have hl := lv_entry ([.ref x0, .int (nI t), .int (nI key)]) (n := 3) (Nat.le_of_ble_eq_true rfl)
  rw [lg_entry_eq]
  generalize (lg_sl ([.ref x0, .int (nI t), .int (nI key)]) ++ List.replicate (3 - (lg_sl ([.ref x0, .int (nI t), .int (nI key)])).length) Slot.unset).toArray = ls at hl ⊢
  have hl : lv_has ls 3 [(0, .ref x0), (1, .int (nI t)), (2, .int (nI key))] := hl
  refine lv_iload_n hx hb d_MH_get_0 rfl (lv_at hl 1 rfl) ?_
  refine lv_bipush (v := nI 16) hx hb d_MH_get_1 (by decide) ?_
  refine mh_callR (mh_sS (rest := []) (av := [.int (nI t), .int (nI 16)]) K0 e_MH_needBelow l_MH_40 k144 rfl rfl d_MH_get_3) (c_MH_needBelow ht (by decide)) K0 hOK hml hl.1 e_MH_needBelow hX hS d_MH_get_3 (Nat.le_of_ble_eq_true rfl) (Nat.le_of_ble_eq_true rfl) (Nat.le_of_ble_eq_true rfl) (Nat.le_of_ble_eq_true rfl) (Nat.le_of_ble_eq_true rfl) (fun H locs hX hS => ?_)
  refine W.eq (g2 := F0 m 6 ls []) rfl ?_
  refine lv_iload_n hx hb d_MH_get_6 rfl (lv_at hl 2 rfl) ?_
  refine lv_sipush (v := nI 256) hx hb d_MH_get_7 (by decide) ?_
  refine mh_callR (mh_sS (rest := []) (av := [.int (nI key), .int (nI 256)]) K0 e_MH_needBelow l_MH_40 k144 rfl rfl d_MH_get_10) (c_MH_needBelow hk (by decide)) K0 hOK hml hl.1 e_MH_needBelow hX hS d_MH_get_10 (Nat.le_of_ble_eq_true rfl) (Nat.le_of_ble_eq_true rfl) (Nat.le_of_ble_eq_true rfl) (Nat.le_of_ble_eq_true rfl) (Nat.le_of_ble_eq_true rfl) (fun H locs hX hS => ?_)
  refine W.eq (g2 := F0 m 13 ls []) rfl ?_
  refine lv_aload_n hx hb d_MH_get_13 rfl (lv_at hl 0 rfl) ?_
  refine lv_iload_n hx hb d_MH_get_14 rfl (lv_at hl 1 rfl) ?_
  refine mh_callT (mh_sV (rest := []) (av := [.int (nI t)]) K0 hX r0 rfl e_MH_openDraft l_MH_65 k303 kp1 rfl rfl d_MH_get_15) (c_MH_openDraft_no hl0 r0 r10 ht ((rd t ht).none hd)) K0 hOK hml hl.1 e_MH_openDraft hX hS d_MH_get_15 (Nat.le_of_ble_eq_true rfl) (Nat.le_of_ble_eq_true rfl) (Nat.le_of_ble_eq_true rfl) (Nat.le_of_ble_eq_true rfl) (Nat.le_of_ble_eq_true rfl) (fun q w1 H locs hq hw hX hS => ?_)
  exact mh_leave hlocks hT hX hS (⟨q, rfl, hq, hR2.x hw, hw.C⟩) (Nat.le_of_ble_eq_true rfl) (Nat.le_of_ble_eq_true rfl)
set_option maxHeartbeats 4000000 in
set_option maxRecDepth 100000 in
theorem c_MH_put_2 {l : Launch} {b : Nat} {dC : Nat → ClassId} {dI : Nat → Nat → Nat} {dA : Nat → ClassId} {zs : Nat → Nat} {w : mh_w} (hl0 : l.stackTraces = false) {x0 : Nat} {g : st_G} (hR : rC dA zs w x0 g) (hG : sg_ok g) {t : Nat} (ht : t < 16) {key : Nat} (hk : key < 256) {v : Int64} (hd : sg_dr g t = none) : mh_Met l b dC dI dA zs y_MH_put (mh_rm 8 20 1000) [.ref x0, .int (nI t), .int (nI key), .long v] w (mh_T 9 (fun w' => rC dA zs w' x0 g ∧ mh_C w w')) := by
  have hR2 := hR
  obtain ⟨aL, aS, aD, aV, sv, dr, vw, lg, hP⟩ := hR
  have hP2 := hP
  obtain ⟨r0, rLg, r3, r10, r11, rs, rv, rd, rl⟩ := hP2
  obtain ⟨mc, ar, r1, rAr⟩ := rLg
  have hG2 := hG
  obtain ⟨gn, grs, gat, glo, gdr⟩ := hG2
  refine mh_ofW (cc := b_MH_put) (n := 6) (ret := (some .int)) (hs := []) (by decide) k352 ?_
  intro p e s m below meth c hx hb hr hml hown hts hlocks hnm hT hOK hadm
  have K0 : mh_K0 p s m ([.ref x0, .int (nI t), .int (nI key), .long v]).toArray c "MeldHost" b_MH_put dC dI dA := ⟨hx, hb, hown, hts, hOK.1, hOK.2.1⟩
  have hX := hOK.2.2.2.2
  have hb0 := hOK.2.2.2.1
  have hS : va_S (mh_A b) s.heap s.heap [] := va_S.rf
  have hl := lv_entry ([.ref x0, .int (nI t), .int (nI key), .long v]) (n := 6) (Nat.le_of_ble_eq_true rfl)
  rw [lg_entry_eq]
  generalize (lg_sl ([.ref x0, .int (nI t), .int (nI key), .long v]) ++ List.replicate (6 - (lg_sl ([.ref x0, .int (nI t), .int (nI key), .long v])).length) Slot.unset).toArray = ls at hl ⊢
  have hl : lv_has ls 6 [(0, .ref x0), (1, .int (nI t)), (2, .int (nI key)), (3, .long v)] := hl
  refine lv_iload_n hx hb d_MH_put_0 rfl (lv_at hl 1 rfl) ?_
  refine lv_bipush (v := nI 16) hx hb d_MH_put_1 (by decide) ?_
  refine mh_callR (mh_sS (rest := []) (av := [.int (nI t), .int (nI 16)]) K0 e_MH_needBelow l_MH_40 k144 rfl rfl d_MH_put_3) (c_MH_needBelow ht (by decide)) K0 hOK hml hl.1 e_MH_needBelow hX hS d_MH_put_3 (Nat.le_of_ble_eq_true rfl) (Nat.le_of_ble_eq_true rfl) (Nat.le_of_ble_eq_true rfl) (Nat.le_of_ble_eq_true rfl) (Nat.le_of_ble_eq_true rfl) (fun H locs hX hS => ?_)
  refine W.eq (g2 := F0 m 6 ls []) rfl ?_
  refine lv_iload_n hx hb d_MH_put_6 rfl (lv_at hl 2 rfl) ?_
  refine lv_sipush (v := nI 256) hx hb d_MH_put_7 (by decide) ?_
  refine mh_callR (mh_sS (rest := []) (av := [.int (nI key), .int (nI 256)]) K0 e_MH_needBelow l_MH_40 k144 rfl rfl d_MH_put_10) (c_MH_needBelow hk (by decide)) K0 hOK hml hl.1 e_MH_needBelow hX hS d_MH_put_10 (Nat.le_of_ble_eq_true rfl) (Nat.le_of_ble_eq_true rfl) (Nat.le_of_ble_eq_true rfl) (Nat.le_of_ble_eq_true rfl) (Nat.le_of_ble_eq_true rfl) (fun H locs hX hS => ?_)
  refine W.eq (g2 := F0 m 13 ls []) rfl ?_
  refine lv_aload_n hx hb d_MH_put_13 rfl (lv_at hl 0 rfl) ?_
  refine lv_iload_n hx hb d_MH_put_14 rfl (lv_at hl 1 rfl) ?_
  refine mh_callT (mh_sV (rest := []) (av := [.int (nI t)]) K0 hX r0 rfl e_MH_openDraft l_MH_65 k303 kp1 rfl rfl d_MH_put_15) (c_MH_openDraft_no hl0 r0 r10 ht ((rd t ht).none hd)) K0 hOK hml hl.1 e_MH_openDraft hX hS d_MH_put_15 (Nat.le_of_ble_eq_true rfl) (Nat.le_of_ble_eq_true rfl) (Nat.le_of_ble_eq_true rfl) (Nat.le_of_ble_eq_true rfl) (Nat.le_of_ble_eq_true rfl) (fun q w1 H locs hq hw hX hS => ?_)
  exact mh_leave hlocks hT hX hS (⟨q, rfl, hq, hR2.x hw, hw.C⟩) (Nat.le_of_ble_eq_true rfl) (Nat.le_of_ble_eq_true rfl)
set_option maxHeartbeats 4000000 in
set_option maxRecDepth 100000 in
theorem c_MH_delete_2 {l : Launch} {b : Nat} {dC : Nat → ClassId} {dI : Nat → Nat → Nat} {dA : Nat → ClassId} {zs : Nat → Nat} {w : mh_w} (hl0 : l.stackTraces = false) {x0 : Nat} {g : st_G} (hR : rC dA zs w x0 g) (hG : sg_ok g) {t : Nat} (ht : t < 16) {key : Nat} (hk : key < 256) (hd : sg_dr g t = none) : mh_Met l b dC dI dA zs y_MH_delete (mh_rm 8 20 1000) [.ref x0, .int (nI t), .int (nI key)] w (mh_T 9 (fun w' => rC dA zs w' x0 g ∧ mh_C w w')) := by
  have hR2 := hR
  obtain ⟨aL, aS, aD, aV, sv, dr, vw, lg, hP⟩ := hR
  have hP2 := hP
  obtain ⟨r0, rLg, r3, r10, r11, rs, rv, rd, rl⟩ := hP2
  obtain ⟨mc, ar, r1, rAr⟩ := rLg
  have hG2 := hG
  obtain ⟨gn, grs, gat, glo, gdr⟩ := hG2
  refine mh_ofW (cc := b_MH_delete) (n := 4) (ret := (some .int)) (hs := []) (by decide) k394 ?_
  intro p e s m below meth c hx hb hr hml hown hts hlocks hnm hT hOK hadm
  have K0 : mh_K0 p s m ([.ref x0, .int (nI t), .int (nI key)]).toArray c "MeldHost" b_MH_delete dC dI dA := ⟨hx, hb, hown, hts, hOK.1, hOK.2.1⟩
  have hX := hOK.2.2.2.2
  have hb0 := hOK.2.2.2.1
  have hS : va_S (mh_A b) s.heap s.heap [] := va_S.rf
  have hl := lv_entry ([.ref x0, .int (nI t), .int (nI key)]) (n := 4) (Nat.le_of_ble_eq_true rfl)
  rw [lg_entry_eq]
  generalize (lg_sl ([.ref x0, .int (nI t), .int (nI key)]) ++ List.replicate (4 - (lg_sl ([.ref x0, .int (nI t), .int (nI key)])).length) Slot.unset).toArray = ls at hl ⊢
  have hl : lv_has ls 4 [(0, .ref x0), (1, .int (nI t)), (2, .int (nI key))] := hl
  refine lv_iload_n hx hb d_MH_delete_0 rfl (lv_at hl 1 rfl) ?_
  refine lv_bipush (v := nI 16) hx hb d_MH_delete_1 (by decide) ?_
  refine mh_callR (mh_sS (rest := []) (av := [.int (nI t), .int (nI 16)]) K0 e_MH_needBelow l_MH_40 k144 rfl rfl d_MH_delete_3) (c_MH_needBelow ht (by decide)) K0 hOK hml hl.1 e_MH_needBelow hX hS d_MH_delete_3 (Nat.le_of_ble_eq_true rfl) (Nat.le_of_ble_eq_true rfl) (Nat.le_of_ble_eq_true rfl) (Nat.le_of_ble_eq_true rfl) (Nat.le_of_ble_eq_true rfl) (fun H locs hX hS => ?_)
  refine W.eq (g2 := F0 m 6 ls []) rfl ?_
  refine lv_iload_n hx hb d_MH_delete_6 rfl (lv_at hl 2 rfl) ?_
  refine lv_sipush (v := nI 256) hx hb d_MH_delete_7 (by decide) ?_
  refine mh_callR (mh_sS (rest := []) (av := [.int (nI key), .int (nI 256)]) K0 e_MH_needBelow l_MH_40 k144 rfl rfl d_MH_delete_10) (c_MH_needBelow hk (by decide)) K0 hOK hml hl.1 e_MH_needBelow hX hS d_MH_delete_10 (Nat.le_of_ble_eq_true rfl) (Nat.le_of_ble_eq_true rfl) (Nat.le_of_ble_eq_true rfl) (Nat.le_of_ble_eq_true rfl) (Nat.le_of_ble_eq_true rfl) (fun H locs hX hS => ?_)
  refine W.eq (g2 := F0 m 13 ls []) rfl ?_
  refine lv_aload_n hx hb d_MH_delete_13 rfl (lv_at hl 0 rfl) ?_
  refine lv_iload_n hx hb d_MH_delete_14 rfl (lv_at hl 1 rfl) ?_
  refine mh_callT (mh_sV (rest := []) (av := [.int (nI t)]) K0 hX r0 rfl e_MH_openDraft l_MH_65 k303 kp1 rfl rfl d_MH_delete_15) (c_MH_openDraft_no hl0 r0 r10 ht ((rd t ht).none hd)) K0 hOK hml hl.1 e_MH_openDraft hX hS d_MH_delete_15 (Nat.le_of_ble_eq_true rfl) (Nat.le_of_ble_eq_true rfl) (Nat.le_of_ble_eq_true rfl) (Nat.le_of_ble_eq_true rfl) (Nat.le_of_ble_eq_true rfl) (fun q w1 H locs hq hw hX hS => ?_)
  exact mh_leave hlocks hT hX hS (⟨q, rfl, hq, hR2.x hw, hw.C⟩) (Nat.le_of_ble_eq_true rfl) (Nat.le_of_ble_eq_true rfl)
set_option maxHeartbeats 4000000 in
set_option maxRecDepth 100000 in
theorem c_MH_part_2 {l : Launch} {b : Nat} {dC : Nat → ClassId} {dI : Nat → Nat → Nat} {dA : Nat → ClassId} {zs : Nat → Nat} {w : mh_w} (hl0 : l.stackTraces = false) {x0 : Nat} {g : st_G} (hR : rC dA zs w x0 g) (hG : sg_ok g) {t : Nat} (ht : t < 16) {low high q9 : Nat} (h1 : low ≤ high) (h2 : high < 256) (h3 : q9 < 4) (hd : sg_dr g t = none) : mh_Met l b dC dI dA zs y_MH_part (mh_rm 8 20 1000) [.ref x0, .int (nI t), .int (nI low), .int (nI high), .int (nI q9)] w (mh_T 9 (fun w' => rC dA zs w' x0 g ∧ mh_C w w')) := by
  have hR2 := hR
  obtain ⟨aL, aS, aD, aV, sv, dr, vw, lg, hP⟩ := hR
  have hP2 := hP
  obtain ⟨r0, rLg, r3, r10, r11, rs, rv, rd, rl⟩ := hP2
  obtain ⟨mc, ar, r1, rAr⟩ := rLg
  have hG2 := hG
  obtain ⟨gn, grs, gat, glo, gdr⟩ := hG2
  refine mh_ofW (cc := b_MH_part) (n := 6) (ret := (some .long)) (hs := []) (by decide) k410 ?_
  intro p e s m below meth c hx hb hr hml hown hts hlocks hnm hT hOK hadm
  have K0 : mh_K0 p s m ([.ref x0, .int (nI t), .int (nI low), .int (nI high), .int (nI q9)]).toArray c "MeldHost" b_MH_part dC dI dA := ⟨hx, hb, hown, hts, hOK.1, hOK.2.1⟩
  have hX := hOK.2.2.2.2
  have hb0 := hOK.2.2.2.1
  have hS : va_S (mh_A b) s.heap s.heap [] := va_S.rf
  have hl := lv_entry ([.ref x0, .int (nI t), .int (nI low), .int (nI high), .int (nI q9)]) (n := 6) (Nat.le_of_ble_eq_true rfl)
  rw [lg_entry_eq]
  generalize (lg_sl ([.ref x0, .int (nI t), .int (nI low), .int (nI high), .int (nI q9)]) ++ List.replicate (6 - (lg_sl ([.ref x0, .int (nI t), .int (nI low), .int (nI high), .int (nI q9)])).length) Slot.unset).toArray = ls at hl ⊢
  have hl : lv_has ls 6 [(0, .ref x0), (1, .int (nI t)), (2, .int (nI low)), (3, .int (nI high)), (4, .int (nI q9))] := hl
  refine lv_iload_n hx hb d_MH_part_0 rfl (lv_at hl 1 rfl) ?_
  refine lv_bipush (v := nI 16) hx hb d_MH_part_1 (by decide) ?_
  refine mh_callR (mh_sS (rest := []) (av := [.int (nI t), .int (nI 16)]) K0 e_MH_needBelow l_MH_40 k144 rfl rfl d_MH_part_3) (c_MH_needBelow ht (by decide)) K0 hOK hml hl.1 e_MH_needBelow hX hS d_MH_part_3 (Nat.le_of_ble_eq_true rfl) (Nat.le_of_ble_eq_true rfl) (Nat.le_of_ble_eq_true rfl) (Nat.le_of_ble_eq_true rfl) (Nat.le_of_ble_eq_true rfl) (fun H locs hX hS => ?_)
  refine W.eq (g2 := F0 m 6 ls []) rfl ?_
  refine lv_iload_n hx hb d_MH_part_6 rfl (lv_at hl 2 rfl) ?_
  refine lv_iload_n hx hb d_MH_part_7 rfl (lv_at hl 3 rfl) ?_
  refine lv_iload hx hb d_MH_part_8 (lv_at hl 4 rfl) ?_
  refine mh_callR (mh_sS (rest := []) (av := [.int (nI low), .int (nI high), .int (nI q9)]) K0 e_MH_needPart l_MH_88 k412 rfl rfl d_MH_part_10) (c_MH_needPart h1 h2 h3) K0 hOK hml hl.1 e_MH_needPart hX hS d_MH_part_10 (Nat.le_of_ble_eq_true rfl) (Nat.le_of_ble_eq_true rfl) (Nat.le_of_ble_eq_true rfl) (Nat.le_of_ble_eq_true rfl) (Nat.le_of_ble_eq_true rfl) (fun H locs hX hS => ?_)
  refine W.eq (g2 := F0 m 13 ls []) rfl ?_
  refine lv_aload_n hx hb d_MH_part_13 rfl (lv_at hl 0 rfl) ?_
  refine lv_iload_n hx hb d_MH_part_14 rfl (lv_at hl 1 rfl) ?_
  refine mh_callT (mh_sV (rest := []) (av := [.int (nI t)]) K0 hX r0 rfl e_MH_openDraft l_MH_65 k303 kp1 rfl rfl d_MH_part_15) (c_MH_openDraft_no hl0 r0 r10 ht ((rd t ht).none hd)) K0 hOK hml hl.1 e_MH_openDraft hX hS d_MH_part_15 (Nat.le_of_ble_eq_true rfl) (Nat.le_of_ble_eq_true rfl) (Nat.le_of_ble_eq_true rfl) (Nat.le_of_ble_eq_true rfl) (Nat.le_of_ble_eq_true rfl) (fun q w1 H locs hq hw hX hS => ?_)
  exact mh_leave hlocks hT hX hS (⟨q, rfl, hq, hR2.x hw, hw.C⟩) (Nat.le_of_ble_eq_true rfl) (Nat.le_of_ble_eq_true rfl)
set_option maxHeartbeats 4000000 in
set_option maxRecDepth 100000 in
theorem c_MH_commit_2 {l : Launch} {b : Nat} {dC : Nat → ClassId} {dI : Nat → Nat → Nat} {dA : Nat → ClassId} {zs : Nat → Nat} {w : mh_w} (hl0 : l.stackTraces = false) {x0 : Nat} {g : st_G} (hR : rC dA zs w x0 g) (hG : sg_ok g) {t : Nat} (ht : t < 16) (hd : sg_dr g t = none) : mh_Met l b dC dI dA zs y_MH_commit (mh_rm 8 20 1000) [.ref x0, .int (nI t)] w (mh_T 9 (fun w' => rC dA zs w' x0 g ∧ mh_C w w')) := by
  have hR2 := hR
  obtain ⟨aL, aS, aD, aV, sv, dr, vw, lg, hP⟩ := hR
  have hP2 := hP
  obtain ⟨r0, rLg, r3, r10, r11, rs, rv, rd, rl⟩ := hP2
  obtain ⟨mc, ar, r1, rAr⟩ := rLg
  have hG2 := hG
  obtain ⟨gn, grs, gat, glo, gdr⟩ := hG2
  refine mh_ofW (cc := b_MH_commit) (n := 3) (ret := (some .int)) (hs := []) (by decide) k446 ?_
  intro p e s m below meth c hx hb hr hml hown hts hlocks hnm hT hOK hadm
  have K0 : mh_K0 p s m ([.ref x0, .int (nI t)]).toArray c "MeldHost" b_MH_commit dC dI dA := ⟨hx, hb, hown, hts, hOK.1, hOK.2.1⟩
  have hX := hOK.2.2.2.2
  have hb0 := hOK.2.2.2.1
  have hS : va_S (mh_A b) s.heap s.heap [] := va_S.rf
  have hl := lv_entry ([.ref x0, .int (nI t)]) (n := 3) (Nat.le_of_ble_eq_true rfl)
  rw [lg_entry_eq]
  generalize (lg_sl ([.ref x0, .int (nI t)]) ++ List.replicate (3 - (lg_sl ([.ref x0, .int (nI t)])).length) Slot.unset).toArray = ls at hl ⊢
  have hl : lv_has ls 3 [(0, .ref x0), (1, .int (nI t))] := hl
  refine lv_iload_n hx hb d_MH_commit_0 rfl (lv_at hl 1 rfl) ?_
  refine lv_bipush (v := nI 16) hx hb d_MH_commit_1 (by decide) ?_
  refine mh_callR (mh_sS (rest := []) (av := [.int (nI t), .int (nI 16)]) K0 e_MH_needBelow l_MH_40 k144 rfl rfl d_MH_commit_3) (c_MH_needBelow ht (by decide)) K0 hOK hml hl.1 e_MH_needBelow hX hS d_MH_commit_3 (Nat.le_of_ble_eq_true rfl) (Nat.le_of_ble_eq_true rfl) (Nat.le_of_ble_eq_true rfl) (Nat.le_of_ble_eq_true rfl) (Nat.le_of_ble_eq_true rfl) (fun H locs hX hS => ?_)
  refine W.eq (g2 := F0 m 6 ls []) rfl ?_
  refine lv_aload_n hx hb d_MH_commit_6 rfl (lv_at hl 0 rfl) ?_
  refine lv_iload_n hx hb d_MH_commit_7 rfl (lv_at hl 1 rfl) ?_
  refine mh_callT (mh_sV (rest := []) (av := [.int (nI t)]) K0 hX r0 rfl e_MH_openDraft l_MH_65 k303 kp1 rfl rfl d_MH_commit_8) (c_MH_openDraft_no hl0 r0 r10 ht ((rd t ht).none hd)) K0 hOK hml hl.1 e_MH_openDraft hX hS d_MH_commit_8 (Nat.le_of_ble_eq_true rfl) (Nat.le_of_ble_eq_true rfl) (Nat.le_of_ble_eq_true rfl) (Nat.le_of_ble_eq_true rfl) (Nat.le_of_ble_eq_true rfl) (fun q w1 H locs hq hw hX hS => ?_)
  exact mh_leave hlocks hT hX hS (⟨q, rfl, hq, hR2.x hw, hw.C⟩) (Nat.le_of_ble_eq_true rfl) (Nat.le_of_ble_eq_true rfl)
set_option maxHeartbeats 4000000 in
set_option maxRecDepth 100000 in
theorem c_MH_abort_2 {l : Launch} {b : Nat} {dC : Nat → ClassId} {dI : Nat → Nat → Nat} {dA : Nat → ClassId} {zs : Nat → Nat} {w : mh_w} (hl0 : l.stackTraces = false) {x0 : Nat} {g : st_G} (hR : rC dA zs w x0 g) (hG : sg_ok g) {t : Nat} (ht : t < 16) (hd : sg_dr g t = none) : mh_Met l b dC dI dA zs y_MH_abort (mh_rm 8 20 1000) [.ref x0, .int (nI t)] w (mh_T 9 (fun w' => rC dA zs w' x0 g ∧ mh_C w w')) := by
  have hR2 := hR
  obtain ⟨aL, aS, aD, aV, sv, dr, vw, lg, hP⟩ := hR
  have hP2 := hP
  obtain ⟨r0, rLg, r3, r10, r11, rs, rv, rd, rl⟩ := hP2
  obtain ⟨mc, ar, r1, rAr⟩ := rLg
  have hG2 := hG
  obtain ⟨gn, grs, gat, glo, gdr⟩ := hG2
  refine mh_ofW (cc := b_MH_abort) (n := 2) (ret := none) (hs := []) (by decide) k540 ?_
  intro p e s m below meth c hx hb hr hml hown hts hlocks hnm hT hOK hadm
  have K0 : mh_K0 p s m ([.ref x0, .int (nI t)]).toArray c "MeldHost" b_MH_abort dC dI dA := ⟨hx, hb, hown, hts, hOK.1, hOK.2.1⟩
  have hX := hOK.2.2.2.2
  have hb0 := hOK.2.2.2.1
  have hS : va_S (mh_A b) s.heap s.heap [] := va_S.rf
  have hl := lv_entry ([.ref x0, .int (nI t)]) (n := 2) (Nat.le_of_ble_eq_true rfl)
  rw [lg_entry_eq]
  generalize (lg_sl ([.ref x0, .int (nI t)]) ++ List.replicate (2 - (lg_sl ([.ref x0, .int (nI t)])).length) Slot.unset).toArray = ls at hl ⊢
  have hl : lv_has ls 2 [(0, .ref x0), (1, .int (nI t))] := hl
  refine lv_iload_n hx hb d_MH_abort_0 rfl (lv_at hl 1 rfl) ?_
  refine lv_bipush (v := nI 16) hx hb d_MH_abort_1 (by decide) ?_
  refine mh_callR (mh_sS (rest := []) (av := [.int (nI t), .int (nI 16)]) K0 e_MH_needBelow l_MH_40 k144 rfl rfl d_MH_abort_3) (c_MH_needBelow ht (by decide)) K0 hOK hml hl.1 e_MH_needBelow hX hS d_MH_abort_3 (Nat.le_of_ble_eq_true rfl) (Nat.le_of_ble_eq_true rfl) (Nat.le_of_ble_eq_true rfl) (Nat.le_of_ble_eq_true rfl) (Nat.le_of_ble_eq_true rfl) (fun H locs hX hS => ?_)
  refine W.eq (g2 := F0 m 6 ls []) rfl ?_
  refine lv_aload_n hx hb d_MH_abort_6 rfl (lv_at hl 0 rfl) ?_
  refine lv_iload_n hx hb d_MH_abort_7 rfl (lv_at hl 1 rfl) ?_
  refine mh_callT (mh_sV (rest := []) (av := [.int (nI t)]) K0 hX r0 rfl e_MH_openDraft l_MH_65 k303 kp1 rfl rfl d_MH_abort_8) (c_MH_openDraft_no hl0 r0 r10 ht ((rd t ht).none hd)) K0 hOK hml hl.1 e_MH_openDraft hX hS d_MH_abort_8 (Nat.le_of_ble_eq_true rfl) (Nat.le_of_ble_eq_true rfl) (Nat.le_of_ble_eq_true rfl) (Nat.le_of_ble_eq_true rfl) (Nat.le_of_ble_eq_true rfl) (fun q w1 H locs hq hw hX hS => ?_)
  exact mh_leave hlocks hT hX hS (⟨q, rfl, hq, hR2.x hw, hw.C⟩) (Nat.le_of_ble_eq_true rfl) (Nat.le_of_ble_eq_true rfl)
set_option maxHeartbeats 4000000 in
set_option maxRecDepth 100000 in
theorem c_MH_begin_2 {l : Launch} {b : Nat} {dC : Nat → ClassId} {dI : Nat → Nat → Nat} {dA : Nat → ClassId} {zs : Nat → Nat} {w : mh_w} (hl0 : l.stackTraces = false) {x0 : Nat} {g : st_G} (hR : rC dA zs w x0 g) (hG : sg_ok g) {t : Nat} (ht : t < 16) {u : Nat} (hu : u < 4) {lv : Nat} (hlv : lv < 2) {x : st_I} (hd : sg_dr g t = some x) : mh_Met l b dC dI dA zs y_MH_begin (mh_rm 8 20 1000) [.ref x0, .int (nI t), .int (nI u), .int (nI lv)] w (mh_T 9 (fun w' => rC dA zs w' x0 g ∧ mh_C w w')) := by
  have hR2 := hR
  obtain ⟨aL, aS, aD, aV, sv, dr, vw, lg, hP⟩ := hR
  have hP2 := hP
  obtain ⟨r0, rLg, r3, r10, r11, rs, rv, rd, rl⟩ := hP2
  obtain ⟨mc, ar, r1, rAr⟩ := rLg
  have hG2 := hG
  obtain ⟨gn, grs, gat, glo, gdr⟩ := hG2
  refine mh_ofW (cc := b_MH_begin) (n := 5) (ret := none) (hs := []) (by decide) k142 ?_
  intro p e s m below meth c hx hb hr hml hown hts hlocks hnm hT hOK hadm
  have K0 : mh_K0 p s m ([.ref x0, .int (nI t), .int (nI u), .int (nI lv)]).toArray c "MeldHost" b_MH_begin dC dI dA := ⟨hx, hb, hown, hts, hOK.1, hOK.2.1⟩
  have hX := hOK.2.2.2.2
  have hb0 := hOK.2.2.2.1
  have hS : va_S (mh_A b) s.heap s.heap [] := va_S.rf
  have hl := lv_entry ([.ref x0, .int (nI t), .int (nI u), .int (nI lv)]) (n := 5) (Nat.le_of_ble_eq_true rfl)
  rw [lg_entry_eq]
  generalize (lg_sl ([.ref x0, .int (nI t), .int (nI u), .int (nI lv)]) ++ List.replicate (5 - (lg_sl ([.ref x0, .int (nI t), .int (nI u), .int (nI lv)])).length) Slot.unset).toArray = ls at hl ⊢
  have hl : lv_has ls 5 [(0, .ref x0), (1, .int (nI t)), (2, .int (nI u)), (3, .int (nI lv))] := hl
  obtain ⟨y, hy1, hy2⟩ := (rd t ht).some hd
  obtain ⟨d1, d3, d4, d5, d6, d7, j0⟩ := hy2.fst
  have ho := gdr t x ht hd
  have ho2 := ho
  obtain ⟨o1, o2, o3, o4, o5, o6, o7, o8⟩ := ho2
  refine lv_iload_n hx hb d_MH_begin_0 rfl (lv_at hl 1 rfl) ?_
  refine lv_bipush (v := nI 16) hx hb d_MH_begin_1 (by decide) ?_
  refine mh_callR (mh_sS (rest := []) (av := [.int (nI t), .int (nI 16)]) K0 e_MH_needBelow l_MH_40 k144 rfl rfl d_MH_begin_3) (c_MH_needBelow ht (by decide)) K0 hOK hml hl.1 e_MH_needBelow hX hS d_MH_begin_3 (Nat.le_of_ble_eq_true rfl) (Nat.le_of_ble_eq_true rfl) (Nat.le_of_ble_eq_true rfl) (Nat.le_of_ble_eq_true rfl) (Nat.le_of_ble_eq_true rfl) (fun H locs hX hS => ?_)
  refine W.eq (g2 := F0 m 6 ls []) rfl ?_
  refine lv_iload_n hx hb d_MH_begin_6 rfl (lv_at hl 2 rfl) ?_
  refine lv_iconst (v := nI 4) hx hb d_MH_begin_7 (by decide) ?_
  refine mh_callR (mh_sS (rest := []) (av := [.int (nI u), .int (nI 4)]) K0 e_MH_needBelow l_MH_40 k144 rfl rfl d_MH_begin_8) (c_MH_needBelow hu (by decide)) K0 hOK hml hl.1 e_MH_needBelow hX hS d_MH_begin_8 (Nat.le_of_ble_eq_true rfl) (Nat.le_of_ble_eq_true rfl) (Nat.le_of_ble_eq_true rfl) (Nat.le_of_ble_eq_true rfl) (Nat.le_of_ble_eq_true rfl) (fun H locs hX hS => ?_)
  refine W.eq (g2 := F0 m 11 ls []) rfl ?_
  refine lv_iload_n hx hb d_MH_begin_11 rfl (lv_at hl 3 rfl) ?_
  refine lv_iconst (v := nI 2) hx hb d_MH_begin_12 (by decide) ?_
  refine mh_callR (mh_sS (rest := []) (av := [.int (nI lv), .int (nI 2)]) K0 e_MH_needBelow l_MH_40 k144 rfl rfl d_MH_begin_13) (c_MH_needBelow hlv (by decide)) K0 hOK hml hl.1 e_MH_needBelow hX hS d_MH_begin_13 (Nat.le_of_ble_eq_true rfl) (Nat.le_of_ble_eq_true rfl) (Nat.le_of_ble_eq_true rfl) (Nat.le_of_ble_eq_true rfl) (Nat.le_of_ble_eq_true rfl) (fun H locs hX hS => ?_)
  refine W.eq (g2 := F0 m 16 ls []) rfl ?_
  refine lv_aload_n hx hb d_MH_begin_16 rfl (lv_at hl 0 rfl) ?_
  refine mh_get K0 hX r0 f_MH_25 rfl d_MH_begin_17 ?_
  refine lv_iload_n hx hb d_MH_begin_20 rfl (lv_at hl 1 rfl) ?_
  refine mh_aaldN 5 rfl K0 hX r10 (by omega) (by omega) (r := (some y)) (hy1) d_MH_begin_21 ?_
  refine W.eq (g2 := F0 m 22 ls [.ref y]) rfl ?_
  refine lv_ifnull hx hb d_MH_begin_22 ?_
  exact mh_throw hl0 K0 hOK ex_IS (is := 46) (tx := "the transaction is open") (by decide) k215 hlocks hT hml hl.1 hX hS (fun q => ⟨q, rfl, mh_set_eq _ _ _ _, hR2.x mh_x.of, mh_x.of.C⟩) (Nat.le_of_ble_eq_true rfl) (Nat.le_of_ble_eq_true rfl) (Nat.le_of_ble_eq_true rfl) (Nat.le_of_ble_eq_true rfl) (Nat.le_of_ble_eq_true rfl) (Nat.le_of_ble_eq_true rfl) d_MH_begin_25 d_MH_begin_28 d_MH_begin_29 d_MH_begin_31 d_MH_begin_34
set_option maxHeartbeats 4000000 in
set_option maxRecDepth 100000 in
theorem c_MH_begin_0 {l : Launch} {b : Nat} {dC : Nat → ClassId} {dI : Nat → Nat → Nat} {dA : Nat → ClassId} {zs : Nat → Nat} {w : mh_w} {x0 : Nat} {g : st_G} (hR : rC dA zs w x0 g) (hG : sg_ok g) {t : Nat} (ht : t < 16) {u : Nat} (hu : u < 4) {lv : Nat} (hlv : lv < 2) (hd : sg_dr g t = none) : mh_Met l b dC dI dA zs y_MH_begin (mh_rm 8 20 1000) [.ref x0, .int (nI t), .int (nI u), .int (nI lv)] w (mh_V none (fun w' => rC dA zs w' x0 (g.1, g.2.1, va_up (sg_dr g) t (some (st_new u (sg_at g u) lv)), g.2.2.2) ∧ mh_C w w')) := by
  have hR2 := hR
  obtain ⟨aL, aS, aD, aV, sv, dr, vw, lg, hP⟩ := hR
  have hP2 := hP
  obtain ⟨r0, rLg, r3, r10, r11, rs, rv, rd, rl⟩ := hP2
  obtain ⟨mc, ar, r1, rAr⟩ := rLg
  have hG2 := hG
  obtain ⟨gn, grs, gat, glo, gdr⟩ := hG2
  refine mh_ofW (cc := b_MH_begin) (n := 5) (ret := none) (hs := []) (by decide) k142 ?_
  intro p e s m below meth c hx hb hr hml hown hts hlocks hnm hT hOK hadm
  have K0 : mh_K0 p s m ([.ref x0, .int (nI t), .int (nI u), .int (nI lv)]).toArray c "MeldHost" b_MH_begin dC dI dA := ⟨hx, hb, hown, hts, hOK.1, hOK.2.1⟩
  have hX := hOK.2.2.2.2
  have hb0 := hOK.2.2.2.1
  have hS : va_S (mh_A b) s.heap s.heap [] := va_S.rf
  have hl := lv_entry ([.ref x0, .int (nI t), .int (nI u), .int (nI lv)]) (n := 5) (Nat.le_of_ble_eq_true rfl)
  rw [lg_entry_eq]
  generalize (lg_sl ([.ref x0, .int (nI t), .int (nI u), .int (nI lv)]) ++ List.replicate (5 - (lg_sl ([.ref x0, .int (nI t), .int (nI u), .int (nI lv)])).length) Slot.unset).toArray = ls at hl ⊢
  have hl : lv_has ls 5 [(0, .ref x0), (1, .int (nI t)), (2, .int (nI u)), (3, .int (nI lv))] := hl
  obtain ⟨au, hs1, hs2⟩ := rs u hu
  have hs3 := hs2
  obtain ⟨a5, a9, f9, s0, sN, s9, sf⟩ := hs2
  obtain ⟨n1, n3, sn0⟩ := sN.fst
  obtain ⟨av, hv1, st, hv2, hv3⟩ := rv t ht
  obtain ⟨v1, v3, vn0⟩ := hv2.fst
  refine lv_iload_n hx hb d_MH_begin_0 rfl (lv_at hl 1 rfl) ?_
  refine lv_bipush (v := nI 16) hx hb d_MH_begin_1 (by decide) ?_
  refine mh_callR (mh_sS (rest := []) (av := [.int (nI t), .int (nI 16)]) K0 e_MH_needBelow l_MH_40 k144 rfl rfl d_MH_begin_3) (c_MH_needBelow ht (by decide)) K0 hOK hml hl.1 e_MH_needBelow hX hS d_MH_begin_3 (Nat.le_of_ble_eq_true rfl) (Nat.le_of_ble_eq_true rfl) (Nat.le_of_ble_eq_true rfl) (Nat.le_of_ble_eq_true rfl) (Nat.le_of_ble_eq_true rfl) (fun H locs hX hS => ?_)
  refine W.eq (g2 := F0 m 6 ls []) rfl ?_
  refine lv_iload_n hx hb d_MH_begin_6 rfl (lv_at hl 2 rfl) ?_
  refine lv_iconst (v := nI 4) hx hb d_MH_begin_7 (by decide) ?_
  refine mh_callR (mh_sS (rest := []) (av := [.int (nI u), .int (nI 4)]) K0 e_MH_needBelow l_MH_40 k144 rfl rfl d_MH_begin_8) (c_MH_needBelow hu (by decide)) K0 hOK hml hl.1 e_MH_needBelow hX hS d_MH_begin_8 (Nat.le_of_ble_eq_true rfl) (Nat.le_of_ble_eq_true rfl) (Nat.le_of_ble_eq_true rfl) (Nat.le_of_ble_eq_true rfl) (Nat.le_of_ble_eq_true rfl) (fun H locs hX hS => ?_)
  refine W.eq (g2 := F0 m 11 ls []) rfl ?_
  refine lv_iload_n hx hb d_MH_begin_11 rfl (lv_at hl 3 rfl) ?_
  refine lv_iconst (v := nI 2) hx hb d_MH_begin_12 (by decide) ?_
  refine mh_callR (mh_sS (rest := []) (av := [.int (nI lv), .int (nI 2)]) K0 e_MH_needBelow l_MH_40 k144 rfl rfl d_MH_begin_13) (c_MH_needBelow hlv (by decide)) K0 hOK hml hl.1 e_MH_needBelow hX hS d_MH_begin_13 (Nat.le_of_ble_eq_true rfl) (Nat.le_of_ble_eq_true rfl) (Nat.le_of_ble_eq_true rfl) (Nat.le_of_ble_eq_true rfl) (Nat.le_of_ble_eq_true rfl) (fun H locs hX hS => ?_)
  refine W.eq (g2 := F0 m 16 ls []) rfl ?_
  refine lv_aload_n hx hb d_MH_begin_16 rfl (lv_at hl 0 rfl) ?_
  refine mh_get K0 hX r0 f_MH_25 rfl d_MH_begin_17 ?_
  refine lv_iload_n hx hb d_MH_begin_20 rfl (lv_at hl 1 rfl) ?_
  refine mh_aaldN 5 rfl K0 hX r10 (by omega) (by omega) (r := none) ((rd t ht).none hd) d_MH_begin_21 ?_
  refine W.eq (g2 := F0 m 22 ls [.null]) rfl ?_
  refine lv_ifnullN (tgt := 35) hx hb d_MH_begin_22 (by decide) ?_
  refine lv_aload_n hx hb d_MH_begin_35 rfl (lv_at hl 0 rfl) ?_
  refine mh_get K0 hX r0 f_MH_18 rfl d_MH_begin_36 ?_
  refine lv_iload_n hx hb d_MH_begin_39 rfl (lv_at hl 2 rfl) ?_
  refine mh_aaldN 4 rfl K0 hX r3 (by omega) (by omega) (r := (some au)) (hs1) d_MH_begin_40 ?_
  refine W.eq (g2 := F0 m 41 ls [.ref au]) rfl ?_
  refine lv_astore (lv' := [(4, .ref au), (0, .ref x0), (1, .int (nI t)), (2, .int (nI u)), (3, .int (nI lv))]) hx hb d_MH_begin_41 hl (by decide) rfl (fun ls hl => ?_)
  refine lv_aload_n hx hb d_MH_begin_43 rfl (lv_at hl 1 rfl) ?_
  refine mh_get K0 hX r0 f_MH_25 rfl d_MH_begin_44 ?_
  refine lv_iload_n hx hb d_MH_begin_47 rfl (lv_at hl 2 rfl) ?_
  refine mh_new 16 t K0 hX hS hb0 (ci := 2) rfl i_IN ty_IN ty_IN_ok k113 k231 k16 (fs := [.int (nI 0), .int (nI 0), .int (nI 0), .null, .null, .null, .null, .null, .null, .int (nI 0), .int (nI 0), .int (nI 0)]) (by decide) (Nat.le_of_ble_eq_true rfl) (Nat.le_of_ble_eq_true rfl) d_MH_begin_48 (fun q H hX hS => ?_)
  have fs60 := mh_self hX
  refine lv_dup hx hb d_MH_begin_51 rfl ?_
  refine lv_iload_n hx hb d_MH_begin_52 rfl (lv_at hl 3 rfl) ?_
  refine lv_aload hx hb d_MH_begin_53 (lv_at hl 0 rfl) ?_
  refine mh_get K0 hX (mh_kp s0 (by omega)) f_MH_51 rfl d_MH_begin_55 ?_
  refine lv_iload_n hx hb d_MH_begin_58 rfl (lv_at hl 4 rfl) ?_
  refine mh_callV (mh_sI (rest := [.ref q, .int (nI t), .ref aD]) (av := [.int (nI u), .int (nI (sg_at g u)), .int (nI lv)]) K0 e_IN_init l_MH_54 k233 rfl rfl rfl d_MH_begin_59) (c_IN_init (mh_set_eq _ _ _ _)) K0 hOK hml hl.1 e_IN_init hX hS d_MH_begin_59 (Nat.le_of_ble_eq_true rfl) (Nat.le_of_ble_eq_true rfl) (Nat.le_of_ble_eq_true rfl) (Nat.le_of_ble_eq_true rfl) (Nat.le_of_ble_eq_true rfl) (fun w1 H locs ⟨hI, hF⟩ hX hS => ?_)
  refine W.eq (g2 := F0 m 62 ls [.ref q, .int (nI t), .ref aD]) rfl ?_
  obtain ⟨d1, d3, d4, d5, d6, d7, j0⟩ := hI.fst
  refine mh_aastX 5 rfl rfl K0 hX hS ((hF 10 0 (by omega)).trans (mh_kp r10 (by omega))) j0 (by omega) (by omega) d_MH_begin_62 (fun H locs hX hS => ?_)
  have fs61 := mh_self hX
  refine lv_aload_n hx hb d_MH_begin_63 rfl (lv_at hl 1 rfl) ?_
  refine mh_get K0 hX (mh_kp ((hF 0 0 (by omega)).trans (mh_kp r0 (by omega))) (by omega)) f_MH_31 rfl d_MH_begin_64 ?_
  refine lv_iload_n hx hb d_MH_begin_67 rfl (lv_at hl 2 rfl) ?_
  refine mh_aaldN 6 rfl K0 hX (mh_kp ((hF 11 0 (by omega)).trans (mh_kp r11 (by omega))) (by omega)) (by omega) (by omega) (r := (some av)) (hv1) d_MH_begin_68 ?_
  refine W.eq (g2 := F0 m 69 ls [.ref av]) rfl ?_
  refine lv_aload hx hb d_MH_begin_69 (lv_at hl 0 rfl) ?_
  refine mh_get K0 hX (mh_kp ((hF 4 u (by omega)).trans (mh_kp s0 (by omega))) (by omega)) f_MH_57 rfl d_MH_begin_71 ?_
  refine mh_callV (mh_sV (rest := []) (av := [.ref a5]) K0 hX (mh_kp ((hF 12 t (by omega)).trans (mh_kp vn0 (by omega))) (by omega)) rfl e_NU_copyFrom l_MH_61 k282 k283 rfl rfl d_MH_begin_74) (c_NU_copyFrom (hv2.to (fun z hz => by rw [mh_set_ne _ _ _ _ (by omega), hF _ _ (by omega), mh_set_ne _ _ _ _ (by omega)]) (fun _ _ => rfl)) (sN.to (fun z hz => by rw [mh_set_ne _ _ _ _ (by omega), hF _ _ (by omega), mh_set_ne _ _ _ _ (by omega)]) (fun _ _ => rfl)) (by omega)) K0 hOK hml hl.1 e_NU_copyFrom hX hS d_MH_begin_74 (Nat.le_of_ble_eq_true rfl) (Nat.le_of_ble_eq_true rfl) (Nat.le_of_ble_eq_true rfl) (Nat.le_of_ble_eq_true rfl) (Nat.le_of_ble_eq_true rfl) (fun w2 H locs ⟨hN2, hF2⟩ hX hS => ?_)
  refine W.eq (g2 := F0 m 77 ls []) rfl ?_
  exact mh_vret K0 hr hlocks hX hS (⟨rfl, ⟨aL, aS, aD, aV, sv, _, vw, lg, hP.tx (fun k i h0 h1 h2 => by rw [hF2 _ _ (by omega), mh_set_ne _ _ _ _ (by omega), hF _ _ (by omega), mh_set_ne _ _ _ _ (by omega)]) (((hF2 10 0 (by omega)).trans fs61)) (fun z hz => va_up_ne _ _ hz) ⟨q, va_up_self _ _ _, hI.to (fun z hz => by rw [hF2 _ _ (by omega), mh_set_ne _ _ _ _ (by omega)])⟩ ⟨av, hv1, _, hN2, fun x hx j hj => by cases hx; rfl⟩⟩, fun k i h1 h2 => by rw [hF2 _ _ (by omega), mh_set_ne _ _ _ _ (by omega), hF _ _ (by omega), mh_set_ne _ _ _ _ (by omega)]⟩) (Nat.le_of_ble_eq_true rfl) (Nat.le_of_ble_eq_true rfl) d_MH_begin_77
set_option maxHeartbeats 4000000 in
set_option maxRecDepth 100000 in
theorem c_MH_get_0 {l : Launch} {b : Nat} {dC : Nat → ClassId} {dI : Nat → Nat → Nat} {dA : Nat → ClassId} {zs : Nat → Nat} {w : mh_w} {x0 : Nat} {g : st_G} (hR : rC dA zs w x0 g) (hG : sg_ok g) {t : Nat} (ht : t < 16) {key : Nat} (hk : key < 256) {x : st_I} (hd : sg_dr g t = some x) {v : Int64} (hv : st_vw (sg_lg g) x key = some v) : mh_Met l b dC dI dA zs y_MH_get (mh_rm 8 20 1000) [.ref x0, .int (nI t), .int (nI key)] w (mh_V (some (.long v)) (fun w' => rC dA zs w' x0 (g.1, g.2.1, va_up (sg_dr g) t (some (st_get x key)), g.2.2.2) ∧ mh_C w w')) := by
  have hR2 := hR
  obtain ⟨aL, aS, aD, aV, sv, dr, vw, lg, hP⟩ := hR
  have hP2 := hP
  obtain ⟨r0, rLg, r3, r10, r11, rs, rv, rd, rl⟩ := hP2
  obtain ⟨mc, ar, r1, rAr⟩ := rLg
  have hG2 := hG
  obtain ⟨gn, grs, gat, glo, gdr⟩ := hG2
  refine mh_ofW (cc := b_MH_get) (n := 3) (ret := (some .long)) (hs := []) (by decide) k300 ?_
  intro p e s m below meth c hx hb hr hml hown hts hlocks hnm hT hOK hadm
  have K0 : mh_K0 p s m ([.ref x0, .int (nI t), .int (nI key)]).toArray c "MeldHost" b_MH_get dC dI dA := ⟨hx, hb, hown, hts, hOK.1, hOK.2.1⟩
  have hX := hOK.2.2.2.2
  have hb0 := hOK.2.2.2.1
  have hS : va_S (mh_A b) s.heap s.heap [] := va_S.rf
  have hl := lv_entry ([.ref x0, .int (nI t), .int (nI key)]) (n := 3) (Nat.le_of_ble_eq_true rfl)
  rw [lg_entry_eq]
  generalize (lg_sl ([.ref x0, .int (nI t), .int (nI key)]) ++ List.replicate (3 - (lg_sl ([.ref x0, .int (nI t), .int (nI key)])).length) Slot.unset).toArray = ls at hl ⊢
  have hl : lv_has ls 3 [(0, .ref x0), (1, .int (nI t)), (2, .int (nI key))] := hl
  obtain ⟨y, hy1, hy2⟩ := (rd t ht).some hd
  obtain ⟨d1, d3, d4, d5, d6, d7, j0⟩ := hy2.fst
  have ho := gdr t x ht hd
  have ho2 := ho
  obtain ⟨o1, o2, o3, o4, o5, o6, o7, o8⟩ := ho2
  obtain ⟨av, hv1, st, hv2, hv3⟩ := rv t ht
  obtain ⟨v1, v3, vn0⟩ := hv2.fst
  refine lv_iload_n hx hb d_MH_get_0 rfl (lv_at hl 1 rfl) ?_
  refine lv_bipush (v := nI 16) hx hb d_MH_get_1 (by decide) ?_
  refine mh_callR (mh_sS (rest := []) (av := [.int (nI t), .int (nI 16)]) K0 e_MH_needBelow l_MH_40 k144 rfl rfl d_MH_get_3) (c_MH_needBelow ht (by decide)) K0 hOK hml hl.1 e_MH_needBelow hX hS d_MH_get_3 (Nat.le_of_ble_eq_true rfl) (Nat.le_of_ble_eq_true rfl) (Nat.le_of_ble_eq_true rfl) (Nat.le_of_ble_eq_true rfl) (Nat.le_of_ble_eq_true rfl) (fun H locs hX hS => ?_)
  refine W.eq (g2 := F0 m 6 ls []) rfl ?_
  refine lv_iload_n hx hb d_MH_get_6 rfl (lv_at hl 2 rfl) ?_
  refine lv_sipush (v := nI 256) hx hb d_MH_get_7 (by decide) ?_
  refine mh_callR (mh_sS (rest := []) (av := [.int (nI key), .int (nI 256)]) K0 e_MH_needBelow l_MH_40 k144 rfl rfl d_MH_get_10) (c_MH_needBelow hk (by decide)) K0 hOK hml hl.1 e_MH_needBelow hX hS d_MH_get_10 (Nat.le_of_ble_eq_true rfl) (Nat.le_of_ble_eq_true rfl) (Nat.le_of_ble_eq_true rfl) (Nat.le_of_ble_eq_true rfl) (Nat.le_of_ble_eq_true rfl) (fun H locs hX hS => ?_)
  refine W.eq (g2 := F0 m 13 ls []) rfl ?_
  refine lv_aload_n hx hb d_MH_get_13 rfl (lv_at hl 0 rfl) ?_
  refine lv_iload_n hx hb d_MH_get_14 rfl (lv_at hl 1 rfl) ?_
  refine mh_callR (mh_sV (rest := []) (av := [.int (nI t)]) K0 hX r0 rfl e_MH_openDraft l_MH_65 k303 kp1 rfl rfl d_MH_get_15) (c_MH_openDraft r0 r10 ht hy1) K0 hOK hml hl.1 e_MH_openDraft hX hS d_MH_get_15 (Nat.le_of_ble_eq_true rfl) (Nat.le_of_ble_eq_true rfl) (Nat.le_of_ble_eq_true rfl) (Nat.le_of_ble_eq_true rfl) (Nat.le_of_ble_eq_true rfl) (fun H locs hX hS => ?_)
  refine W.eq (g2 := F0 m 18 ls [.ref y]) rfl ?_
  refine lv_iload_n hx hb d_MH_get_18 rfl (lv_at hl 2 rfl) ?_
  refine mh_callV (mh_sV (rest := []) (av := [.int (nI key)]) K0 hX j0 rfl e_IN_readKey l_MH_69 k307 k308 rfl rfl d_MH_get_19) (c_IN_readKey hy2 ho hk) K0 hOK hml hl.1 e_IN_readKey hX hS d_MH_get_19 (Nat.le_of_ble_eq_true rfl) (Nat.le_of_ble_eq_true rfl) (Nat.le_of_ble_eq_true rfl) (Nat.le_of_ble_eq_true rfl) (Nat.le_of_ble_eq_true rfl) (fun w1 H locs ⟨hI, hF⟩ hX hS => ?_)
  refine W.eq (g2 := F0 m 22 ls []) rfl ?_
  refine lv_aload_n hx hb d_MH_get_22 rfl (lv_at hl 0 rfl) ?_
  refine mh_get K0 hX ((hF 0 0 (by omega)).trans r0) f_MH_31 rfl d_MH_get_23 ?_
  refine lv_iload_n hx hb d_MH_get_26 rfl (lv_at hl 1 rfl) ?_
  refine mh_aaldN 6 rfl K0 hX ((hF 11 0 (by omega)).trans r11) (by omega) (by omega) (r := (some av)) (hv1) d_MH_get_27 ?_
  refine W.eq (g2 := F0 m 28 ls [.ref av]) rfl ?_
  refine lv_iload_n hx hb d_MH_get_28 rfl (lv_at hl 2 rfl) ?_
  have hC : rC dA zs w1 x0 (g.1, g.2.1, va_up (sg_dr g) t (some (st_get x key)), g.2.2.2) := ⟨aL, aS, aD, aV, sv, dr, vw, lg, hP.tx (fun k i h0 h1 h2 => by rw [hF _ _ (by omega)]) (((hF 10 0 (by omega)).trans r10)) (fun _ _ => rfl) ⟨y, hy1, hI⟩ ⟨av, hv1, st, hv2.to (fun z hz => by rw [hF _ _ (by omega)]) (fun _ _ => rfl), fun x2 hx2 j hj => by cases hx2; rw [st_get_vw]; exact hv3 x hd j hj⟩⟩
  refine mh_callR (mh_sS (rest := []) (av := [.ref av, .int (nI key)]) K0 e_MH_numberIn l_MH_73 k323 rfl rfl d_MH_get_29) (c_MH_numberIn (hv2.to (fun z hz => by rw [hF _ _ (by omega)]) (fun _ _ => rfl)) hk ((hv3 x hd key hk).trans hv)) K0 hOK hml hl.1 e_MH_numberIn hX hS d_MH_get_29 (Nat.le_of_ble_eq_true rfl) (Nat.le_of_ble_eq_true rfl) (Nat.le_of_ble_eq_true rfl) (Nat.le_of_ble_eq_true rfl) (Nat.le_of_ble_eq_true rfl) (fun H locs hX hS => ?_)
  refine W.eq (g2 := F0 m 32 ls [.long v]) rfl ?_
  exact mh_lret K0 hr hlocks hX hS (⟨rfl, hC, fun k i h1 h2 => by rw [hF _ _ (by omega)]⟩) (Nat.le_of_ble_eq_true rfl) (Nat.le_of_ble_eq_true rfl) d_MH_get_32
set_option maxHeartbeats 4000000 in
set_option maxRecDepth 100000 in
theorem c_MH_get_3 {l : Launch} {b : Nat} {dC : Nat → ClassId} {dI : Nat → Nat → Nat} {dA : Nat → ClassId} {zs : Nat → Nat} {w : mh_w} (hl0 : l.stackTraces = false) {x0 : Nat} {g : st_G} (hR : rC dA zs w x0 g) (hG : sg_ok g) {t : Nat} (ht : t < 16) {key : Nat} (hk : key < 256) {x : st_I} (hd : sg_dr g t = some x) (hv : st_vw (sg_lg g) x key = none) : mh_Met l b dC dI dA zs y_MH_get (mh_rm 8 20 1000) [.ref x0, .int (nI t), .int (nI key)] w (mh_T 11 (fun w' => rC dA zs w' x0 (g.1, g.2.1, va_up (sg_dr g) t (some (st_get x key)), g.2.2.2) ∧ mh_C w w')) := by
  have hR2 := hR
  obtain ⟨aL, aS, aD, aV, sv, dr, vw, lg, hP⟩ := hR
  have hP2 := hP
  obtain ⟨r0, rLg, r3, r10, r11, rs, rv, rd, rl⟩ := hP2
  obtain ⟨mc, ar, r1, rAr⟩ := rLg
  have hG2 := hG
  obtain ⟨gn, grs, gat, glo, gdr⟩ := hG2
  refine mh_ofW (cc := b_MH_get) (n := 3) (ret := (some .long)) (hs := []) (by decide) k300 ?_
  intro p e s m below meth c hx hb hr hml hown hts hlocks hnm hT hOK hadm
  have K0 : mh_K0 p s m ([.ref x0, .int (nI t), .int (nI key)]).toArray c "MeldHost" b_MH_get dC dI dA := ⟨hx, hb, hown, hts, hOK.1, hOK.2.1⟩
  have hX := hOK.2.2.2.2
  have hb0 := hOK.2.2.2.1
  have hS : va_S (mh_A b) s.heap s.heap [] := va_S.rf
  have hl := lv_entry ([.ref x0, .int (nI t), .int (nI key)]) (n := 3) (Nat.le_of_ble_eq_true rfl)
  rw [lg_entry_eq]
  generalize (lg_sl ([.ref x0, .int (nI t), .int (nI key)]) ++ List.replicate (3 - (lg_sl ([.ref x0, .int (nI t), .int (nI key)])).length) Slot.unset).toArray = ls at hl ⊢
  have hl : lv_has ls 3 [(0, .ref x0), (1, .int (nI t)), (2, .int (nI key))] := hl
  obtain ⟨y, hy1, hy2⟩ := (rd t ht).some hd
  obtain ⟨d1, d3, d4, d5, d6, d7, j0⟩ := hy2.fst
  have ho := gdr t x ht hd
  have ho2 := ho
  obtain ⟨o1, o2, o3, o4, o5, o6, o7, o8⟩ := ho2
  obtain ⟨av, hv1, st, hv2, hv3⟩ := rv t ht
  obtain ⟨v1, v3, vn0⟩ := hv2.fst
  refine lv_iload_n hx hb d_MH_get_0 rfl (lv_at hl 1 rfl) ?_
  refine lv_bipush (v := nI 16) hx hb d_MH_get_1 (by decide) ?_
  refine mh_callR (mh_sS (rest := []) (av := [.int (nI t), .int (nI 16)]) K0 e_MH_needBelow l_MH_40 k144 rfl rfl d_MH_get_3) (c_MH_needBelow ht (by decide)) K0 hOK hml hl.1 e_MH_needBelow hX hS d_MH_get_3 (Nat.le_of_ble_eq_true rfl) (Nat.le_of_ble_eq_true rfl) (Nat.le_of_ble_eq_true rfl) (Nat.le_of_ble_eq_true rfl) (Nat.le_of_ble_eq_true rfl) (fun H locs hX hS => ?_)
  refine W.eq (g2 := F0 m 6 ls []) rfl ?_
  refine lv_iload_n hx hb d_MH_get_6 rfl (lv_at hl 2 rfl) ?_
  refine lv_sipush (v := nI 256) hx hb d_MH_get_7 (by decide) ?_
  refine mh_callR (mh_sS (rest := []) (av := [.int (nI key), .int (nI 256)]) K0 e_MH_needBelow l_MH_40 k144 rfl rfl d_MH_get_10) (c_MH_needBelow hk (by decide)) K0 hOK hml hl.1 e_MH_needBelow hX hS d_MH_get_10 (Nat.le_of_ble_eq_true rfl) (Nat.le_of_ble_eq_true rfl) (Nat.le_of_ble_eq_true rfl) (Nat.le_of_ble_eq_true rfl) (Nat.le_of_ble_eq_true rfl) (fun H locs hX hS => ?_)
  refine W.eq (g2 := F0 m 13 ls []) rfl ?_
  refine lv_aload_n hx hb d_MH_get_13 rfl (lv_at hl 0 rfl) ?_
  refine lv_iload_n hx hb d_MH_get_14 rfl (lv_at hl 1 rfl) ?_
  refine mh_callR (mh_sV (rest := []) (av := [.int (nI t)]) K0 hX r0 rfl e_MH_openDraft l_MH_65 k303 kp1 rfl rfl d_MH_get_15) (c_MH_openDraft r0 r10 ht hy1) K0 hOK hml hl.1 e_MH_openDraft hX hS d_MH_get_15 (Nat.le_of_ble_eq_true rfl) (Nat.le_of_ble_eq_true rfl) (Nat.le_of_ble_eq_true rfl) (Nat.le_of_ble_eq_true rfl) (Nat.le_of_ble_eq_true rfl) (fun H locs hX hS => ?_)
  refine W.eq (g2 := F0 m 18 ls [.ref y]) rfl ?_
  refine lv_iload_n hx hb d_MH_get_18 rfl (lv_at hl 2 rfl) ?_
  refine mh_callV (mh_sV (rest := []) (av := [.int (nI key)]) K0 hX j0 rfl e_IN_readKey l_MH_69 k307 k308 rfl rfl d_MH_get_19) (c_IN_readKey hy2 ho hk) K0 hOK hml hl.1 e_IN_readKey hX hS d_MH_get_19 (Nat.le_of_ble_eq_true rfl) (Nat.le_of_ble_eq_true rfl) (Nat.le_of_ble_eq_true rfl) (Nat.le_of_ble_eq_true rfl) (Nat.le_of_ble_eq_true rfl) (fun w1 H locs ⟨hI, hF⟩ hX hS => ?_)
  refine W.eq (g2 := F0 m 22 ls []) rfl ?_
  refine lv_aload_n hx hb d_MH_get_22 rfl (lv_at hl 0 rfl) ?_
  refine mh_get K0 hX ((hF 0 0 (by omega)).trans r0) f_MH_31 rfl d_MH_get_23 ?_
  refine lv_iload_n hx hb d_MH_get_26 rfl (lv_at hl 1 rfl) ?_
  refine mh_aaldN 6 rfl K0 hX ((hF 11 0 (by omega)).trans r11) (by omega) (by omega) (r := (some av)) (hv1) d_MH_get_27 ?_
  refine W.eq (g2 := F0 m 28 ls [.ref av]) rfl ?_
  refine lv_iload_n hx hb d_MH_get_28 rfl (lv_at hl 2 rfl) ?_
  have hC : rC dA zs w1 x0 (g.1, g.2.1, va_up (sg_dr g) t (some (st_get x key)), g.2.2.2) := ⟨aL, aS, aD, aV, sv, dr, vw, lg, hP.tx (fun k i h0 h1 h2 => by rw [hF _ _ (by omega)]) (((hF 10 0 (by omega)).trans r10)) (fun _ _ => rfl) ⟨y, hy1, hI⟩ ⟨av, hv1, st, hv2.to (fun z hz => by rw [hF _ _ (by omega)]) (fun _ _ => rfl), fun x2 hx2 j hj => by cases hx2; rw [st_get_vw]; exact hv3 x hd j hj⟩⟩
  refine mh_callT (mh_sS (rest := []) (av := [.ref av, .int (nI key)]) K0 e_MH_numberIn l_MH_73 k323 rfl rfl d_MH_get_29) (c_MH_numberIn_no hl0 (hv2.to (fun z hz => by rw [hF _ _ (by omega)]) (fun _ _ => rfl)) hk ((hv3 x hd key hk).trans hv)) K0 hOK hml hl.1 e_MH_numberIn hX hS d_MH_get_29 (Nat.le_of_ble_eq_true rfl) (Nat.le_of_ble_eq_true rfl) (Nat.le_of_ble_eq_true rfl) (Nat.le_of_ble_eq_true rfl) (Nat.le_of_ble_eq_true rfl) (fun q w2 H locs hq hw hX hS => ?_)
  exact mh_leave hlocks hT hX hS (⟨q, rfl, hq, hC.x hw, fun k i h1 h2 => (hw k i h2).trans (by rw [hF _ _ (by omega)])⟩) (Nat.le_of_ble_eq_true rfl) (Nat.le_of_ble_eq_true rfl)
set_option maxHeartbeats 4000000 in
set_option maxRecDepth 100000 in
theorem c_MH_put_0 {l : Launch} {b : Nat} {dC : Nat → ClassId} {dI : Nat → Nat → Nat} {dA : Nat → ClassId} {zs : Nat → Nat} {w : mh_w} {x0 : Nat} {g : st_G} (hR : rC dA zs w x0 g) (hG : sg_ok g) {t : Nat} (ht : t < 16) {key : Nat} (hk : key < 256) {x : st_I} (hd : sg_dr g t = some x) {v : Int64} (h8 : (st_pl (iv_wk x) key (iv_nw x)) < 8) : mh_Met l b dC dI dA zs y_MH_put (mh_rm 8 20 1000) [.ref x0, .int (nI t), .int (nI key), .long v] w (mh_V (some (.int (nI (iv_nw (st_wr x key (some v)))))) (fun w' => rC dA zs w' x0 (g.1, g.2.1, va_up (sg_dr g) t (some (st_wr x key (some v))), g.2.2.2) ∧ mh_C w w')) := by
  have hR2 := hR
  obtain ⟨aL, aS, aD, aV, sv, dr, vw, lg, hP⟩ := hR
  have hP2 := hP
  obtain ⟨r0, rLg, r3, r10, r11, rs, rv, rd, rl⟩ := hP2
  obtain ⟨mc, ar, r1, rAr⟩ := rLg
  have hG2 := hG
  obtain ⟨gn, grs, gat, glo, gdr⟩ := hG2
  refine mh_ofW (cc := b_MH_put) (n := 6) (ret := (some .int)) (hs := []) (by decide) k352 ?_
  intro p e s m below meth c hx hb hr hml hown hts hlocks hnm hT hOK hadm
  have K0 : mh_K0 p s m ([.ref x0, .int (nI t), .int (nI key), .long v]).toArray c "MeldHost" b_MH_put dC dI dA := ⟨hx, hb, hown, hts, hOK.1, hOK.2.1⟩
  have hX := hOK.2.2.2.2
  have hb0 := hOK.2.2.2.1
  have hS : va_S (mh_A b) s.heap s.heap [] := va_S.rf
  have hl := lv_entry ([.ref x0, .int (nI t), .int (nI key), .long v]) (n := 6) (Nat.le_of_ble_eq_true rfl)
  rw [lg_entry_eq]
  generalize (lg_sl ([.ref x0, .int (nI t), .int (nI key), .long v]) ++ List.replicate (6 - (lg_sl ([.ref x0, .int (nI t), .int (nI key), .long v])).length) Slot.unset).toArray = ls at hl ⊢
  have hl : lv_has ls 6 [(0, .ref x0), (1, .int (nI t)), (2, .int (nI key)), (3, .long v)] := hl
  obtain ⟨y, hy1, hy2⟩ := (rd t ht).some hd
  obtain ⟨d1, d3, d4, d5, d6, d7, j0⟩ := hy2.fst
  have ho := gdr t x ht hd
  have ho2 := ho
  obtain ⟨o1, o2, o3, o4, o5, o6, o7, o8⟩ := ho2
  obtain ⟨av, hv1, st, hv2, hv3⟩ := rv t ht
  obtain ⟨v1, v3, vn0⟩ := hv2.fst
  refine lv_iload_n hx hb d_MH_put_0 rfl (lv_at hl 1 rfl) ?_
  refine lv_bipush (v := nI 16) hx hb d_MH_put_1 (by decide) ?_
  refine mh_callR (mh_sS (rest := []) (av := [.int (nI t), .int (nI 16)]) K0 e_MH_needBelow l_MH_40 k144 rfl rfl d_MH_put_3) (c_MH_needBelow ht (by decide)) K0 hOK hml hl.1 e_MH_needBelow hX hS d_MH_put_3 (Nat.le_of_ble_eq_true rfl) (Nat.le_of_ble_eq_true rfl) (Nat.le_of_ble_eq_true rfl) (Nat.le_of_ble_eq_true rfl) (Nat.le_of_ble_eq_true rfl) (fun H locs hX hS => ?_)
  refine W.eq (g2 := F0 m 6 ls []) rfl ?_
  refine lv_iload_n hx hb d_MH_put_6 rfl (lv_at hl 2 rfl) ?_
  refine lv_sipush (v := nI 256) hx hb d_MH_put_7 (by decide) ?_
  refine mh_callR (mh_sS (rest := []) (av := [.int (nI key), .int (nI 256)]) K0 e_MH_needBelow l_MH_40 k144 rfl rfl d_MH_put_10) (c_MH_needBelow hk (by decide)) K0 hOK hml hl.1 e_MH_needBelow hX hS d_MH_put_10 (Nat.le_of_ble_eq_true rfl) (Nat.le_of_ble_eq_true rfl) (Nat.le_of_ble_eq_true rfl) (Nat.le_of_ble_eq_true rfl) (Nat.le_of_ble_eq_true rfl) (fun H locs hX hS => ?_)
  refine W.eq (g2 := F0 m 13 ls []) rfl ?_
  refine lv_aload_n hx hb d_MH_put_13 rfl (lv_at hl 0 rfl) ?_
  refine lv_iload_n hx hb d_MH_put_14 rfl (lv_at hl 1 rfl) ?_
  refine mh_callR (mh_sV (rest := []) (av := [.int (nI t)]) K0 hX r0 rfl e_MH_openDraft l_MH_65 k303 kp1 rfl rfl d_MH_put_15) (c_MH_openDraft r0 r10 ht hy1) K0 hOK hml hl.1 e_MH_openDraft hX hS d_MH_put_15 (Nat.le_of_ble_eq_true rfl) (Nat.le_of_ble_eq_true rfl) (Nat.le_of_ble_eq_true rfl) (Nat.le_of_ble_eq_true rfl) (Nat.le_of_ble_eq_true rfl) (fun H locs hX hS => ?_)
  refine W.eq (g2 := F0 m 18 ls [.ref y]) rfl ?_
  refine lv_iload_n hx hb d_MH_put_18 rfl (lv_at hl 2 rfl) ?_
  refine lv_iconst (v := nI 1) hx hb d_MH_put_19 (by decide) ?_
  refine mh_ti (y := mh_b ((some v).isSome)) (rfl) ?_
  refine lv_lload_n hx hb d_MH_put_20 rfl (lv_at hl 3 rfl) ?_
  refine mh_callV (mh_sS (rest := []) (av := [.ref y, .int (nI key), .int (mh_b ((some v).isSome)), .long v]) K0 e_MH_writeKey l_MH_77 k354 rfl rfl d_MH_put_21) (c_MH_writeKey hy2 ho hk (v := (some v)) (u := v) (fun z hz => by cases hz; rfl) h8) K0 hOK hml hl.1 e_MH_writeKey hX hS d_MH_put_21 (Nat.le_of_ble_eq_true rfl) (Nat.le_of_ble_eq_true rfl) (Nat.le_of_ble_eq_true rfl) (Nat.le_of_ble_eq_true rfl) (Nat.le_of_ble_eq_true rfl) (fun w1 H locs ⟨hI, hF⟩ hX hS => ?_)
  refine W.eq (g2 := F0 m 24 ls [.int (nI (iv_nw (st_wr x key (some v))))]) rfl ?_
  refine lv_istore (lv' := [(5, .int (nI (iv_nw (st_wr x key (some v))))), (0, .ref x0), (1, .int (nI t)), (2, .int (nI key)), (3, .long v)]) hx hb d_MH_put_24 hl (by decide) rfl (fun ls hl => ?_)
  refine lv_aload_n hx hb d_MH_put_26 rfl (lv_at hl 1 rfl) ?_
  refine mh_get K0 hX ((hF 0 0 (by omega)).trans r0) f_MH_31 rfl d_MH_put_27 ?_
  refine lv_iload_n hx hb d_MH_put_30 rfl (lv_at hl 2 rfl) ?_
  refine mh_aaldN 6 rfl K0 hX ((hF 11 0 (by omega)).trans r11) (by omega) (by omega) (r := (some av)) (hv1) d_MH_put_31 ?_
  refine W.eq (g2 := F0 m 32 ls [.ref av]) rfl ?_
  refine lv_iload_n hx hb d_MH_put_32 rfl (lv_at hl 3 rfl) ?_
  refine lv_lload_n hx hb d_MH_put_33 rfl (lv_at hl 4 rfl) ?_
  refine mh_callV (mh_sV (rest := []) (av := [.int (nI key), .long v]) K0 hX ((hF 12 t (by omega)).trans vn0) rfl e_NU_give l_MH_81 k384 k385 rfl rfl d_MH_put_34) (c_NU_give (hv2.to (fun z hz => by rw [hF _ _ (by omega)]) (fun _ _ => rfl)) hk) K0 hOK hml hl.1 e_NU_give hX hS d_MH_put_34 (Nat.le_of_ble_eq_true rfl) (Nat.le_of_ble_eq_true rfl) (Nat.le_of_ble_eq_true rfl) (Nat.le_of_ble_eq_true rfl) (Nat.le_of_ble_eq_true rfl) (fun w2 H locs ⟨hN2, hF2⟩ hX hS => ?_)
  refine W.eq (g2 := F0 m 37 ls []) rfl ?_
  refine lv_iload hx hb d_MH_put_37 (lv_at hl 0 rfl) ?_
  have hC : rC dA zs w2 x0 (g.1, g.2.1, va_up (sg_dr g) t (some (st_wr x key (some v))), g.2.2.2) := ⟨aL, aS, aD, aV, sv, dr, vw, lg, hP.tx (fun k i h0 h1 h2 => by rw [hF2 _ _ (by omega), hF _ _ (by omega)]) (((hF2 10 0 (by omega)).trans ((hF 10 0 (by omega)).trans r10))) (fun _ _ => rfl) ⟨y, hy1, hI.to (fun z hz => hF2 _ _ (by omega))⟩ ⟨av, hv1, _, hN2, fun x2 hx2 j hj => by
      cases hx2
      rw [st_wr_vw (sg_lg g) ho hk h8]
      by_cases e9 : j = key
      · rw [e9, va_up_self, va_up_self]
      · rw [va_up_ne _ _ e9, va_up_ne _ _ e9]; exact hv3 x hd j hj⟩⟩
  exact mh_iret K0 hr rfl hlocks hX hS (⟨rfl, hC, fun k i h1 h2 => by rw [hF2 _ _ (by omega), hF _ _ (by omega)]⟩) (Nat.le_of_ble_eq_true rfl) (Nat.le_of_ble_eq_true rfl) d_MH_put_39
set_option maxHeartbeats 4000000 in
set_option maxRecDepth 100000 in
theorem c_MH_put_3 {l : Launch} {b : Nat} {dC : Nat → ClassId} {dI : Nat → Nat → Nat} {dA : Nat → ClassId} {zs : Nat → Nat} {w : mh_w} (hl0 : l.stackTraces = false) {x0 : Nat} {g : st_G} (hR : rC dA zs w x0 g) (hG : sg_ok g) {t : Nat} (ht : t < 16) {key : Nat} (hk : key < 256) {x : st_I} (hd : sg_dr g t = some x) {v : Int64} (h8 : ¬ (st_pl (iv_wk x) key (iv_nw x)) < 8) : mh_Met l b dC dI dA zs y_MH_put (mh_rm 8 20 1000) [.ref x0, .int (nI t), .int (nI key), .long v] w (mh_T 10 (fun w' => rC dA zs w' x0 g ∧ mh_C w w')) := by
  have hR2 := hR
  obtain ⟨aL, aS, aD, aV, sv, dr, vw, lg, hP⟩ := hR
  have hP2 := hP
  obtain ⟨r0, rLg, r3, r10, r11, rs, rv, rd, rl⟩ := hP2
  obtain ⟨mc, ar, r1, rAr⟩ := rLg
  have hG2 := hG
  obtain ⟨gn, grs, gat, glo, gdr⟩ := hG2
  refine mh_ofW (cc := b_MH_put) (n := 6) (ret := (some .int)) (hs := []) (by decide) k352 ?_
  intro p e s m below meth c hx hb hr hml hown hts hlocks hnm hT hOK hadm
  have K0 : mh_K0 p s m ([.ref x0, .int (nI t), .int (nI key), .long v]).toArray c "MeldHost" b_MH_put dC dI dA := ⟨hx, hb, hown, hts, hOK.1, hOK.2.1⟩
  have hX := hOK.2.2.2.2
  have hb0 := hOK.2.2.2.1
  have hS : va_S (mh_A b) s.heap s.heap [] := va_S.rf
  have hl := lv_entry ([.ref x0, .int (nI t), .int (nI key), .long v]) (n := 6) (Nat.le_of_ble_eq_true rfl)
  rw [lg_entry_eq]
  generalize (lg_sl ([.ref x0, .int (nI t), .int (nI key), .long v]) ++ List.replicate (6 - (lg_sl ([.ref x0, .int (nI t), .int (nI key), .long v])).length) Slot.unset).toArray = ls at hl ⊢
  have hl : lv_has ls 6 [(0, .ref x0), (1, .int (nI t)), (2, .int (nI key)), (3, .long v)] := hl
  obtain ⟨y, hy1, hy2⟩ := (rd t ht).some hd
  obtain ⟨d1, d3, d4, d5, d6, d7, j0⟩ := hy2.fst
  have ho := gdr t x ht hd
  have ho2 := ho
  obtain ⟨o1, o2, o3, o4, o5, o6, o7, o8⟩ := ho2
  refine lv_iload_n hx hb d_MH_put_0 rfl (lv_at hl 1 rfl) ?_
  refine lv_bipush (v := nI 16) hx hb d_MH_put_1 (by decide) ?_
  refine mh_callR (mh_sS (rest := []) (av := [.int (nI t), .int (nI 16)]) K0 e_MH_needBelow l_MH_40 k144 rfl rfl d_MH_put_3) (c_MH_needBelow ht (by decide)) K0 hOK hml hl.1 e_MH_needBelow hX hS d_MH_put_3 (Nat.le_of_ble_eq_true rfl) (Nat.le_of_ble_eq_true rfl) (Nat.le_of_ble_eq_true rfl) (Nat.le_of_ble_eq_true rfl) (Nat.le_of_ble_eq_true rfl) (fun H locs hX hS => ?_)
  refine W.eq (g2 := F0 m 6 ls []) rfl ?_
  refine lv_iload_n hx hb d_MH_put_6 rfl (lv_at hl 2 rfl) ?_
  refine lv_sipush (v := nI 256) hx hb d_MH_put_7 (by decide) ?_
  refine mh_callR (mh_sS (rest := []) (av := [.int (nI key), .int (nI 256)]) K0 e_MH_needBelow l_MH_40 k144 rfl rfl d_MH_put_10) (c_MH_needBelow hk (by decide)) K0 hOK hml hl.1 e_MH_needBelow hX hS d_MH_put_10 (Nat.le_of_ble_eq_true rfl) (Nat.le_of_ble_eq_true rfl) (Nat.le_of_ble_eq_true rfl) (Nat.le_of_ble_eq_true rfl) (Nat.le_of_ble_eq_true rfl) (fun H locs hX hS => ?_)
  refine W.eq (g2 := F0 m 13 ls []) rfl ?_
  refine lv_aload_n hx hb d_MH_put_13 rfl (lv_at hl 0 rfl) ?_
  refine lv_iload_n hx hb d_MH_put_14 rfl (lv_at hl 1 rfl) ?_
  refine mh_callR (mh_sV (rest := []) (av := [.int (nI t)]) K0 hX r0 rfl e_MH_openDraft l_MH_65 k303 kp1 rfl rfl d_MH_put_15) (c_MH_openDraft r0 r10 ht hy1) K0 hOK hml hl.1 e_MH_openDraft hX hS d_MH_put_15 (Nat.le_of_ble_eq_true rfl) (Nat.le_of_ble_eq_true rfl) (Nat.le_of_ble_eq_true rfl) (Nat.le_of_ble_eq_true rfl) (Nat.le_of_ble_eq_true rfl) (fun H locs hX hS => ?_)
  refine W.eq (g2 := F0 m 18 ls [.ref y]) rfl ?_
  refine lv_iload_n hx hb d_MH_put_18 rfl (lv_at hl 2 rfl) ?_
  refine lv_iconst (v := nI 1) hx hb d_MH_put_19 (by decide) ?_
  refine lv_lload_n hx hb d_MH_put_20 rfl (lv_at hl 3 rfl) ?_
  refine mh_callT (mh_sS (rest := []) (av := [.ref y, .int (nI key), .int (nI 1), .long v]) K0 e_MH_writeKey l_MH_77 k354 rfl rfl d_MH_put_21) (c_MH_writeKey_no hl0 hy2 ho hk h8) K0 hOK hml hl.1 e_MH_writeKey hX hS d_MH_put_21 (Nat.le_of_ble_eq_true rfl) (Nat.le_of_ble_eq_true rfl) (Nat.le_of_ble_eq_true rfl) (Nat.le_of_ble_eq_true rfl) (Nat.le_of_ble_eq_true rfl) (fun q w1 H locs hq hw hX hS => ?_)
  exact mh_leave hlocks hT hX hS (⟨q, rfl, hq, hR2.x hw, hw.C⟩) (Nat.le_of_ble_eq_true rfl) (Nat.le_of_ble_eq_true rfl)
set_option maxHeartbeats 4000000 in
set_option maxRecDepth 100000 in
theorem c_MH_delete_0 {l : Launch} {b : Nat} {dC : Nat → ClassId} {dI : Nat → Nat → Nat} {dA : Nat → ClassId} {zs : Nat → Nat} {w : mh_w} {x0 : Nat} {g : st_G} (hR : rC dA zs w x0 g) (hG : sg_ok g) {t : Nat} (ht : t < 16) {key : Nat} (hk : key < 256) {x : st_I} (hd : sg_dr g t = some x) (h8 : (st_pl (iv_wk x) key (iv_nw x)) < 8) : mh_Met l b dC dI dA zs y_MH_delete (mh_rm 8 20 1000) [.ref x0, .int (nI t), .int (nI key)] w (mh_V (some (.int (nI (iv_nw (st_wr x key (none : Option Int64)))))) (fun w' => rC dA zs w' x0 (g.1, g.2.1, va_up (sg_dr g) t (some (st_wr x key (none : Option Int64))), g.2.2.2) ∧ mh_C w w')) := by
  have hR2 := hR
  obtain ⟨aL, aS, aD, aV, sv, dr, vw, lg, hP⟩ := hR
  have hP2 := hP
  obtain ⟨r0, rLg, r3, r10, r11, rs, rv, rd, rl⟩ := hP2
  obtain ⟨mc, ar, r1, rAr⟩ := rLg
  have hG2 := hG
  obtain ⟨gn, grs, gat, glo, gdr⟩ := hG2
  refine mh_ofW (cc := b_MH_delete) (n := 4) (ret := (some .int)) (hs := []) (by decide) k394 ?_
  intro p e s m below meth c hx hb hr hml hown hts hlocks hnm hT hOK hadm
  have K0 : mh_K0 p s m ([.ref x0, .int (nI t), .int (nI key)]).toArray c "MeldHost" b_MH_delete dC dI dA := ⟨hx, hb, hown, hts, hOK.1, hOK.2.1⟩
  have hX := hOK.2.2.2.2
  have hb0 := hOK.2.2.2.1
  have hS : va_S (mh_A b) s.heap s.heap [] := va_S.rf
  have hl := lv_entry ([.ref x0, .int (nI t), .int (nI key)]) (n := 4) (Nat.le_of_ble_eq_true rfl)
  rw [lg_entry_eq]
  generalize (lg_sl ([.ref x0, .int (nI t), .int (nI key)]) ++ List.replicate (4 - (lg_sl ([.ref x0, .int (nI t), .int (nI key)])).length) Slot.unset).toArray = ls at hl ⊢
  have hl : lv_has ls 4 [(0, .ref x0), (1, .int (nI t)), (2, .int (nI key))] := hl
  obtain ⟨y, hy1, hy2⟩ := (rd t ht).some hd
  obtain ⟨d1, d3, d4, d5, d6, d7, j0⟩ := hy2.fst
  have ho := gdr t x ht hd
  have ho2 := ho
  obtain ⟨o1, o2, o3, o4, o5, o6, o7, o8⟩ := ho2
  obtain ⟨av, hv1, st, hv2, hv3⟩ := rv t ht
  obtain ⟨v1, v3, vn0⟩ := hv2.fst
  refine lv_iload_n hx hb d_MH_delete_0 rfl (lv_at hl 1 rfl) ?_
  refine lv_bipush (v := nI 16) hx hb d_MH_delete_1 (by decide) ?_
  refine mh_callR (mh_sS (rest := []) (av := [.int (nI t), .int (nI 16)]) K0 e_MH_needBelow l_MH_40 k144 rfl rfl d_MH_delete_3) (c_MH_needBelow ht (by decide)) K0 hOK hml hl.1 e_MH_needBelow hX hS d_MH_delete_3 (Nat.le_of_ble_eq_true rfl) (Nat.le_of_ble_eq_true rfl) (Nat.le_of_ble_eq_true rfl) (Nat.le_of_ble_eq_true rfl) (Nat.le_of_ble_eq_true rfl) (fun H locs hX hS => ?_)
  refine W.eq (g2 := F0 m 6 ls []) rfl ?_
  refine lv_iload_n hx hb d_MH_delete_6 rfl (lv_at hl 2 rfl) ?_
  refine lv_sipush (v := nI 256) hx hb d_MH_delete_7 (by decide) ?_
  refine mh_callR (mh_sS (rest := []) (av := [.int (nI key), .int (nI 256)]) K0 e_MH_needBelow l_MH_40 k144 rfl rfl d_MH_delete_10) (c_MH_needBelow hk (by decide)) K0 hOK hml hl.1 e_MH_needBelow hX hS d_MH_delete_10 (Nat.le_of_ble_eq_true rfl) (Nat.le_of_ble_eq_true rfl) (Nat.le_of_ble_eq_true rfl) (Nat.le_of_ble_eq_true rfl) (Nat.le_of_ble_eq_true rfl) (fun H locs hX hS => ?_)
  refine W.eq (g2 := F0 m 13 ls []) rfl ?_
  refine lv_aload_n hx hb d_MH_delete_13 rfl (lv_at hl 0 rfl) ?_
  refine lv_iload_n hx hb d_MH_delete_14 rfl (lv_at hl 1 rfl) ?_
  refine mh_callR (mh_sV (rest := []) (av := [.int (nI t)]) K0 hX r0 rfl e_MH_openDraft l_MH_65 k303 kp1 rfl rfl d_MH_delete_15) (c_MH_openDraft r0 r10 ht hy1) K0 hOK hml hl.1 e_MH_openDraft hX hS d_MH_delete_15 (Nat.le_of_ble_eq_true rfl) (Nat.le_of_ble_eq_true rfl) (Nat.le_of_ble_eq_true rfl) (Nat.le_of_ble_eq_true rfl) (Nat.le_of_ble_eq_true rfl) (fun H locs hX hS => ?_)
  refine W.eq (g2 := F0 m 18 ls [.ref y]) rfl ?_
  refine lv_iload_n hx hb d_MH_delete_18 rfl (lv_at hl 2 rfl) ?_
  refine lv_iconst (v := nI 0) hx hb d_MH_delete_19 (by decide) ?_
  refine mh_ti (y := mh_b ((none : Option Int64).isSome)) (rfl) ?_
  refine lv_lconst (v := 0) hx hb d_MH_delete_20 rfl ?_
  refine mh_callV (mh_sS (rest := []) (av := [.ref y, .int (nI key), .int (mh_b ((none : Option Int64).isSome)), .long 0]) K0 e_MH_writeKey l_MH_77 k354 rfl rfl d_MH_delete_21) (c_MH_writeKey hy2 ho hk (v := (none : Option Int64)) (u := 0) (fun z hz => by cases hz) h8) K0 hOK hml hl.1 e_MH_writeKey hX hS d_MH_delete_21 (Nat.le_of_ble_eq_true rfl) (Nat.le_of_ble_eq_true rfl) (Nat.le_of_ble_eq_true rfl) (Nat.le_of_ble_eq_true rfl) (Nat.le_of_ble_eq_true rfl) (fun w1 H locs ⟨hI, hF⟩ hX hS => ?_)
  refine W.eq (g2 := F0 m 24 ls [.int (nI (iv_nw (st_wr x key (none : Option Int64))))]) rfl ?_
  refine lv_istore_n (lv' := [(3, .int (nI (iv_nw (st_wr x key (none : Option Int64))))), (0, .ref x0), (1, .int (nI t)), (2, .int (nI key))]) hx hb d_MH_delete_24 rfl hl (by decide) rfl (fun ls hl => ?_)
  refine lv_aload_n hx hb d_MH_delete_25 rfl (lv_at hl 1 rfl) ?_
  refine mh_get K0 hX ((hF 0 0 (by omega)).trans r0) f_MH_31 rfl d_MH_delete_26 ?_
  refine lv_iload_n hx hb d_MH_delete_29 rfl (lv_at hl 2 rfl) ?_
  refine mh_aaldN 6 rfl K0 hX ((hF 11 0 (by omega)).trans r11) (by omega) (by omega) (r := (some av)) (hv1) d_MH_delete_30 ?_
  refine W.eq (g2 := F0 m 31 ls [.ref av]) rfl ?_
  refine lv_iload_n hx hb d_MH_delete_31 rfl (lv_at hl 3 rfl) ?_
  refine mh_callV (mh_sV (rest := []) (av := [.int (nI key)]) K0 hX ((hF 12 t (by omega)).trans vn0) rfl e_NU_take l_MH_85 k396 k397 rfl rfl d_MH_delete_32) (c_NU_take (hv2.to (fun z hz => by rw [hF _ _ (by omega)]) (fun _ _ => rfl)) hk) K0 hOK hml hl.1 e_NU_take hX hS d_MH_delete_32 (Nat.le_of_ble_eq_true rfl) (Nat.le_of_ble_eq_true rfl) (Nat.le_of_ble_eq_true rfl) (Nat.le_of_ble_eq_true rfl) (Nat.le_of_ble_eq_true rfl) (fun w2 H locs ⟨hN2, hF2⟩ hX hS => ?_)
  refine W.eq (g2 := F0 m 35 ls []) rfl ?_
  refine lv_iload_n hx hb d_MH_delete_35 rfl (lv_at hl 0 rfl) ?_
  have hC : rC dA zs w2 x0 (g.1, g.2.1, va_up (sg_dr g) t (some (st_wr x key (none : Option Int64))), g.2.2.2) := ⟨aL, aS, aD, aV, sv, dr, vw, lg, hP.tx (fun k i h0 h1 h2 => by rw [hF2 _ _ (by omega), hF _ _ (by omega)]) (((hF2 10 0 (by omega)).trans ((hF 10 0 (by omega)).trans r10))) (fun _ _ => rfl) ⟨y, hy1, hI.to (fun z hz => hF2 _ _ (by omega))⟩ ⟨av, hv1, _, hN2, fun x2 hx2 j hj => by
      cases hx2
      rw [st_wr_vw (sg_lg g) ho hk h8]
      by_cases e9 : j = key
      · rw [e9, va_up_self, va_up_self]
      · rw [va_up_ne _ _ e9, va_up_ne _ _ e9]; exact hv3 x hd j hj⟩⟩
  exact mh_iret K0 hr rfl hlocks hX hS (⟨rfl, hC, fun k i h1 h2 => by rw [hF2 _ _ (by omega), hF _ _ (by omega)]⟩) (Nat.le_of_ble_eq_true rfl) (Nat.le_of_ble_eq_true rfl) d_MH_delete_36
set_option maxHeartbeats 4000000 in
set_option maxRecDepth 100000 in
theorem c_MH_delete_3 {l : Launch} {b : Nat} {dC : Nat → ClassId} {dI : Nat → Nat → Nat} {dA : Nat → ClassId} {zs : Nat → Nat} {w : mh_w} (hl0 : l.stackTraces = false) {x0 : Nat} {g : st_G} (hR : rC dA zs w x0 g) (hG : sg_ok g) {t : Nat} (ht : t < 16) {key : Nat} (hk : key < 256) {x : st_I} (hd : sg_dr g t = some x) (h8 : ¬ (st_pl (iv_wk x) key (iv_nw x)) < 8) : mh_Met l b dC dI dA zs y_MH_delete (mh_rm 8 20 1000) [.ref x0, .int (nI t), .int (nI key)] w (mh_T 10 (fun w' => rC dA zs w' x0 g ∧ mh_C w w')) := by
  have hR2 := hR
  obtain ⟨aL, aS, aD, aV, sv, dr, vw, lg, hP⟩ := hR
  have hP2 := hP
  obtain ⟨r0, rLg, r3, r10, r11, rs, rv, rd, rl⟩ := hP2
  obtain ⟨mc, ar, r1, rAr⟩ := rLg
  have hG2 := hG
  obtain ⟨gn, grs, gat, glo, gdr⟩ := hG2
  refine mh_ofW (cc := b_MH_delete) (n := 4) (ret := (some .int)) (hs := []) (by decide) k394 ?_
  intro p e s m below meth c hx hb hr hml hown hts hlocks hnm hT hOK hadm
  have K0 : mh_K0 p s m ([.ref x0, .int (nI t), .int (nI key)]).toArray c "MeldHost" b_MH_delete dC dI dA := ⟨hx, hb, hown, hts, hOK.1, hOK.2.1⟩
  have hX := hOK.2.2.2.2
  have hb0 := hOK.2.2.2.1
  have hS : va_S (mh_A b) s.heap s.heap [] := va_S.rf
  have hl := lv_entry ([.ref x0, .int (nI t), .int (nI key)]) (n := 4) (Nat.le_of_ble_eq_true rfl)
  rw [lg_entry_eq]
  generalize (lg_sl ([.ref x0, .int (nI t), .int (nI key)]) ++ List.replicate (4 - (lg_sl ([.ref x0, .int (nI t), .int (nI key)])).length) Slot.unset).toArray = ls at hl ⊢
  have hl : lv_has ls 4 [(0, .ref x0), (1, .int (nI t)), (2, .int (nI key))] := hl
  obtain ⟨y, hy1, hy2⟩ := (rd t ht).some hd
  obtain ⟨d1, d3, d4, d5, d6, d7, j0⟩ := hy2.fst
  have ho := gdr t x ht hd
  have ho2 := ho
  obtain ⟨o1, o2, o3, o4, o5, o6, o7, o8⟩ := ho2
  refine lv_iload_n hx hb d_MH_delete_0 rfl (lv_at hl 1 rfl) ?_
  refine lv_bipush (v := nI 16) hx hb d_MH_delete_1 (by decide) ?_
  refine mh_callR (mh_sS (rest := []) (av := [.int (nI t), .int (nI 16)]) K0 e_MH_needBelow l_MH_40 k144 rfl rfl d_MH_delete_3) (c_MH_needBelow ht (by decide)) K0 hOK hml hl.1 e_MH_needBelow hX hS d_MH_delete_3 (Nat.le_of_ble_eq_true rfl) (Nat.le_of_ble_eq_true rfl) (Nat.le_of_ble_eq_true rfl) (Nat.le_of_ble_eq_true rfl) (Nat.le_of_ble_eq_true rfl) (fun H locs hX hS => ?_)
  refine W.eq (g2 := F0 m 6 ls []) rfl ?_
  refine lv_iload_n hx hb d_MH_delete_6 rfl (lv_at hl 2 rfl) ?_
  refine lv_sipush (v := nI 256) hx hb d_MH_delete_7 (by decide) ?_
  refine mh_callR (mh_sS (rest := []) (av := [.int (nI key), .int (nI 256)]) K0 e_MH_needBelow l_MH_40 k144 rfl rfl d_MH_delete_10) (c_MH_needBelow hk (by decide)) K0 hOK hml hl.1 e_MH_needBelow hX hS d_MH_delete_10 (Nat.le_of_ble_eq_true rfl) (Nat.le_of_ble_eq_true rfl) (Nat.le_of_ble_eq_true rfl) (Nat.le_of_ble_eq_true rfl) (Nat.le_of_ble_eq_true rfl) (fun H locs hX hS => ?_)
  refine W.eq (g2 := F0 m 13 ls []) rfl ?_
  refine lv_aload_n hx hb d_MH_delete_13 rfl (lv_at hl 0 rfl) ?_
  refine lv_iload_n hx hb d_MH_delete_14 rfl (lv_at hl 1 rfl) ?_
  refine mh_callR (mh_sV (rest := []) (av := [.int (nI t)]) K0 hX r0 rfl e_MH_openDraft l_MH_65 k303 kp1 rfl rfl d_MH_delete_15) (c_MH_openDraft r0 r10 ht hy1) K0 hOK hml hl.1 e_MH_openDraft hX hS d_MH_delete_15 (Nat.le_of_ble_eq_true rfl) (Nat.le_of_ble_eq_true rfl) (Nat.le_of_ble_eq_true rfl) (Nat.le_of_ble_eq_true rfl) (Nat.le_of_ble_eq_true rfl) (fun H locs hX hS => ?_)
  refine W.eq (g2 := F0 m 18 ls [.ref y]) rfl ?_
  refine lv_iload_n hx hb d_MH_delete_18 rfl (lv_at hl 2 rfl) ?_
  refine lv_iconst (v := nI 0) hx hb d_MH_delete_19 (by decide) ?_
  refine lv_lconst (v := 0) hx hb d_MH_delete_20 rfl ?_
  refine mh_callT (mh_sS (rest := []) (av := [.ref y, .int (nI key), .int (nI 0), .long 0]) K0 e_MH_writeKey l_MH_77 k354 rfl rfl d_MH_delete_21) (c_MH_writeKey_no hl0 hy2 ho hk h8) K0 hOK hml hl.1 e_MH_writeKey hX hS d_MH_delete_21 (Nat.le_of_ble_eq_true rfl) (Nat.le_of_ble_eq_true rfl) (Nat.le_of_ble_eq_true rfl) (Nat.le_of_ble_eq_true rfl) (Nat.le_of_ble_eq_true rfl) (fun q w1 H locs hq hw hX hS => ?_)
  exact mh_leave hlocks hT hX hS (⟨q, rfl, hq, hR2.x hw, hw.C⟩) (Nat.le_of_ble_eq_true rfl) (Nat.le_of_ble_eq_true rfl)
set_option maxHeartbeats 4000000 in
set_option maxRecDepth 100000 in
theorem c_MH_part_0 {l : Launch} {b : Nat} {dC : Nat → ClassId} {dI : Nat → Nat → Nat} {dA : Nat → ClassId} {zs : Nat → Nat} {w : mh_w} {x0 : Nat} {g : st_G} (hR : rC dA zs w x0 g) (hG : sg_ok g) {t : Nat} (ht : t < 16) {low high q9 : Nat} (h1 : low ≤ high) (h2 : high < 256) (h3 : q9 < 4) {x : st_I} (hd : sg_dr g t = some x) (h8 : iv_np x < 8) : mh_Met l b dC dI dA zs y_MH_part (mh_rm 8 20 1000) [.ref x0, .int (nI t), .int (nI low), .int (nI high), .int (nI q9)] w (mh_V (some (.long (tl_a (st_vw (sg_lg g) x) low (high + 1 - low) (nI q9)))) (fun w' => rC dA zs w' x0 (g.1, g.2.1, va_up (sg_dr g) t (some (st_prt x low high)), g.2.2.2) ∧ mh_C w w')) := by
  have hR2 := hR
  obtain ⟨aL, aS, aD, aV, sv, dr, vw, lg, hP⟩ := hR
  have hP2 := hP
  obtain ⟨r0, rLg, r3, r10, r11, rs, rv, rd, rl⟩ := hP2
  obtain ⟨mc, ar, r1, rAr⟩ := rLg
  have hG2 := hG
  obtain ⟨gn, grs, gat, glo, gdr⟩ := hG2
  refine mh_ofW (cc := b_MH_part) (n := 6) (ret := (some .long)) (hs := []) (by decide) k410 ?_
  intro p e s m below meth c hx hb hr hml hown hts hlocks hnm hT hOK hadm
  have K0 : mh_K0 p s m ([.ref x0, .int (nI t), .int (nI low), .int (nI high), .int (nI q9)]).toArray c "MeldHost" b_MH_part dC dI dA := ⟨hx, hb, hown, hts, hOK.1, hOK.2.1⟩
  have hX := hOK.2.2.2.2
  have hb0 := hOK.2.2.2.1
  have hS : va_S (mh_A b) s.heap s.heap [] := va_S.rf
  have hl := lv_entry ([.ref x0, .int (nI t), .int (nI low), .int (nI high), .int (nI q9)]) (n := 6) (Nat.le_of_ble_eq_true rfl)
  rw [lg_entry_eq]
  generalize (lg_sl ([.ref x0, .int (nI t), .int (nI low), .int (nI high), .int (nI q9)]) ++ List.replicate (6 - (lg_sl ([.ref x0, .int (nI t), .int (nI low), .int (nI high), .int (nI q9)])).length) Slot.unset).toArray = ls at hl ⊢
  have hl : lv_has ls 6 [(0, .ref x0), (1, .int (nI t)), (2, .int (nI low)), (3, .int (nI high)), (4, .int (nI q9))] := hl
  obtain ⟨y, hy1, hy2⟩ := (rd t ht).some hd
  obtain ⟨d1, d3, d4, d5, d6, d7, j0⟩ := hy2.fst
  have ho := gdr t x ht hd
  have ho2 := ho
  obtain ⟨o1, o2, o3, o4, o5, o6, o7, o8⟩ := ho2
  obtain ⟨av, hv1, st, hv2, hv3⟩ := rv t ht
  obtain ⟨v1, v3, vn0⟩ := hv2.fst
  refine lv_iload_n hx hb d_MH_part_0 rfl (lv_at hl 1 rfl) ?_
  refine lv_bipush (v := nI 16) hx hb d_MH_part_1 (by decide) ?_
  refine mh_callR (mh_sS (rest := []) (av := [.int (nI t), .int (nI 16)]) K0 e_MH_needBelow l_MH_40 k144 rfl rfl d_MH_part_3) (c_MH_needBelow ht (by decide)) K0 hOK hml hl.1 e_MH_needBelow hX hS d_MH_part_3 (Nat.le_of_ble_eq_true rfl) (Nat.le_of_ble_eq_true rfl) (Nat.le_of_ble_eq_true rfl) (Nat.le_of_ble_eq_true rfl) (Nat.le_of_ble_eq_true rfl) (fun H locs hX hS => ?_)
  refine W.eq (g2 := F0 m 6 ls []) rfl ?_
  refine lv_iload_n hx hb d_MH_part_6 rfl (lv_at hl 2 rfl) ?_
  refine lv_iload_n hx hb d_MH_part_7 rfl (lv_at hl 3 rfl) ?_
  refine lv_iload hx hb d_MH_part_8 (lv_at hl 4 rfl) ?_
  refine mh_callR (mh_sS (rest := []) (av := [.int (nI low), .int (nI high), .int (nI q9)]) K0 e_MH_needPart l_MH_88 k412 rfl rfl d_MH_part_10) (c_MH_needPart h1 h2 h3) K0 hOK hml hl.1 e_MH_needPart hX hS d_MH_part_10 (Nat.le_of_ble_eq_true rfl) (Nat.le_of_ble_eq_true rfl) (Nat.le_of_ble_eq_true rfl) (Nat.le_of_ble_eq_true rfl) (Nat.le_of_ble_eq_true rfl) (fun H locs hX hS => ?_)
  refine W.eq (g2 := F0 m 13 ls []) rfl ?_
  refine lv_aload_n hx hb d_MH_part_13 rfl (lv_at hl 0 rfl) ?_
  refine lv_iload_n hx hb d_MH_part_14 rfl (lv_at hl 1 rfl) ?_
  refine mh_callR (mh_sV (rest := []) (av := [.int (nI t)]) K0 hX r0 rfl e_MH_openDraft l_MH_65 k303 kp1 rfl rfl d_MH_part_15) (c_MH_openDraft r0 r10 ht hy1) K0 hOK hml hl.1 e_MH_openDraft hX hS d_MH_part_15 (Nat.le_of_ble_eq_true rfl) (Nat.le_of_ble_eq_true rfl) (Nat.le_of_ble_eq_true rfl) (Nat.le_of_ble_eq_true rfl) (Nat.le_of_ble_eq_true rfl) (fun H locs hX hS => ?_)
  refine W.eq (g2 := F0 m 18 ls [.ref y]) rfl ?_
  refine lv_astore (lv' := [(5, .ref y), (0, .ref x0), (1, .int (nI t)), (2, .int (nI low)), (3, .int (nI high)), (4, .int (nI q9))]) hx hb d_MH_part_18 hl (by decide) rfl (fun ls hl => ?_)
  refine lv_aload hx hb d_MH_part_20 (lv_at hl 0 rfl) ?_
  refine mh_get K0 hX j0 f_MH_91 rfl d_MH_part_22 ?_
  refine lv_bipush (v := nI 8) hx hb d_MH_part_25 (by decide) ?_
  refine mh_icmp_lt (tgt := 40) hx hb (by omega) (by omega) d_MH_part_27 (by decide) (fun _ => ?_) (fun z => absurd z (by omega))
  refine lv_aload hx hb d_MH_part_40 (lv_at hl 0 rfl) ?_
  refine lv_iload_n hx hb d_MH_part_42 rfl (lv_at hl 3 rfl) ?_
  refine lv_iload_n hx hb d_MH_part_43 rfl (lv_at hl 4 rfl) ?_
  refine mh_callV (mh_sV (rest := []) (av := [.int (nI low), .int (nI high)]) K0 hX j0 rfl e_IN_readPart l_MH_99 k416 k417 rfl rfl d_MH_part_44) (c_IN_readPart hy2 ho h8 (low := low) (high := high)) K0 hOK hml hl.1 e_IN_readPart hX hS d_MH_part_44 (Nat.le_of_ble_eq_true rfl) (Nat.le_of_ble_eq_true rfl) (Nat.le_of_ble_eq_true rfl) (Nat.le_of_ble_eq_true rfl) (Nat.le_of_ble_eq_true rfl) (fun w1 H locs ⟨hI, hF⟩ hX hS => ?_)
  refine W.eq (g2 := F0 m 47 ls []) rfl ?_
  refine lv_aload_n hx hb d_MH_part_47 rfl (lv_at hl 1 rfl) ?_
  refine mh_get K0 hX ((hF 0 0 (by omega)).trans r0) f_MH_31 rfl d_MH_part_48 ?_
  refine lv_iload_n hx hb d_MH_part_51 rfl (lv_at hl 2 rfl) ?_
  refine mh_aaldN 6 rfl K0 hX ((hF 11 0 (by omega)).trans r11) (by omega) (by omega) (r := (some av)) (hv1) d_MH_part_52 ?_
  refine W.eq (g2 := F0 m 53 ls [.ref av]) rfl ?_
  refine lv_iload_n hx hb d_MH_part_53 rfl (lv_at hl 3 rfl) ?_
  refine lv_iload_n hx hb d_MH_part_54 rfl (lv_at hl 4 rfl) ?_
  refine lv_iload hx hb d_MH_part_55 (lv_at hl 5 rfl) ?_
  refine mh_callR (mh_sV (rest := []) (av := [.int (nI low), .int (nI high), .int (nI q9)]) K0 hX ((hF 12 t (by omega)).trans vn0) rfl e_NU_tell l_MH_102 k420 k421 rfl rfl d_MH_part_57) (c_NU_tell (st := st_vw (sg_lg g) x) (hv2.to (fun z hz => by rw [hF _ _ (by omega)]) (fun j hj => hv3 x hd j hj)) h1 h2 h3) K0 hOK hml hl.1 e_NU_tell hX hS d_MH_part_57 (Nat.le_of_ble_eq_true rfl) (Nat.le_of_ble_eq_true rfl) (Nat.le_of_ble_eq_true rfl) (Nat.le_of_ble_eq_true rfl) (Nat.le_of_ble_eq_true rfl) (fun H locs hX hS => ?_)
  refine W.eq (g2 := F0 m 60 ls [.long (tl_a (st_vw (sg_lg g) x) low (high + 1 - low) (nI q9))]) rfl ?_
  exact mh_lret K0 hr hlocks hX hS (⟨rfl, ⟨aL, aS, aD, aV, sv, dr, vw, lg, hP.tx (fun k i h0 h1 h2 => by rw [hF _ _ (by omega)]) (((hF 10 0 (by omega)).trans r10)) (fun _ _ => rfl) ⟨y, hy1, hI⟩ ⟨av, hv1, st, hv2.to (fun z hz => by rw [hF _ _ (by omega)]) (fun _ _ => rfl), fun x2 hx2 j hj => by cases hx2; exact hv3 x hd j hj⟩⟩, fun k i h1 h2 => by rw [hF _ _ (by omega)]⟩) (Nat.le_of_ble_eq_true rfl) (Nat.le_of_ble_eq_true rfl) d_MH_part_60
set_option maxHeartbeats 4000000 in
set_option maxRecDepth 100000 in
theorem c_MH_part_3 {l : Launch} {b : Nat} {dC : Nat → ClassId} {dI : Nat → Nat → Nat} {dA : Nat → ClassId} {zs : Nat → Nat} {w : mh_w} (hl0 : l.stackTraces = false) {x0 : Nat} {g : st_G} (hR : rC dA zs w x0 g) (hG : sg_ok g) {t : Nat} (ht : t < 16) {low high q9 : Nat} (h1 : low ≤ high) (h2 : high < 256) (h3 : q9 < 4) {x : st_I} (hd : sg_dr g t = some x) (h8 : ¬ iv_np x < 8) : mh_Met l b dC dI dA zs y_MH_part (mh_rm 8 20 1000) [.ref x0, .int (nI t), .int (nI low), .int (nI high), .int (nI q9)] w (mh_T 10 (fun w' => rC dA zs w' x0 g ∧ mh_C w w')) := by
  have hR2 := hR
  obtain ⟨aL, aS, aD, aV, sv, dr, vw, lg, hP⟩ := hR
  have hP2 := hP
  obtain ⟨r0, rLg, r3, r10, r11, rs, rv, rd, rl⟩ := hP2
  obtain ⟨mc, ar, r1, rAr⟩ := rLg
  have hG2 := hG
  obtain ⟨gn, grs, gat, glo, gdr⟩ := hG2
  refine mh_ofW (cc := b_MH_part) (n := 6) (ret := (some .long)) (hs := []) (by decide) k410 ?_
  intro p e s m below meth c hx hb hr hml hown hts hlocks hnm hT hOK hadm
  have K0 : mh_K0 p s m ([.ref x0, .int (nI t), .int (nI low), .int (nI high), .int (nI q9)]).toArray c "MeldHost" b_MH_part dC dI dA := ⟨hx, hb, hown, hts, hOK.1, hOK.2.1⟩
  have hX := hOK.2.2.2.2
  have hb0 := hOK.2.2.2.1
  have hS : va_S (mh_A b) s.heap s.heap [] := va_S.rf
  have hl := lv_entry ([.ref x0, .int (nI t), .int (nI low), .int (nI high), .int (nI q9)]) (n := 6) (Nat.le_of_ble_eq_true rfl)
  rw [lg_entry_eq]
  generalize (lg_sl ([.ref x0, .int (nI t), .int (nI low), .int (nI high), .int (nI q9)]) ++ List.replicate (6 - (lg_sl ([.ref x0, .int (nI t), .int (nI low), .int (nI high), .int (nI q9)])).length) Slot.unset).toArray = ls at hl ⊢
  have hl : lv_has ls 6 [(0, .ref x0), (1, .int (nI t)), (2, .int (nI low)), (3, .int (nI high)), (4, .int (nI q9))] := hl
  obtain ⟨y, hy1, hy2⟩ := (rd t ht).some hd
  obtain ⟨d1, d3, d4, d5, d6, d7, j0⟩ := hy2.fst
  have ho := gdr t x ht hd
  have ho2 := ho
  obtain ⟨o1, o2, o3, o4, o5, o6, o7, o8⟩ := ho2
  refine lv_iload_n hx hb d_MH_part_0 rfl (lv_at hl 1 rfl) ?_
  refine lv_bipush (v := nI 16) hx hb d_MH_part_1 (by decide) ?_
  refine mh_callR (mh_sS (rest := []) (av := [.int (nI t), .int (nI 16)]) K0 e_MH_needBelow l_MH_40 k144 rfl rfl d_MH_part_3) (c_MH_needBelow ht (by decide)) K0 hOK hml hl.1 e_MH_needBelow hX hS d_MH_part_3 (Nat.le_of_ble_eq_true rfl) (Nat.le_of_ble_eq_true rfl) (Nat.le_of_ble_eq_true rfl) (Nat.le_of_ble_eq_true rfl) (Nat.le_of_ble_eq_true rfl) (fun H locs hX hS => ?_)
  refine W.eq (g2 := F0 m 6 ls []) rfl ?_
  refine lv_iload_n hx hb d_MH_part_6 rfl (lv_at hl 2 rfl) ?_
  refine lv_iload_n hx hb d_MH_part_7 rfl (lv_at hl 3 rfl) ?_
  refine lv_iload hx hb d_MH_part_8 (lv_at hl 4 rfl) ?_
  refine mh_callR (mh_sS (rest := []) (av := [.int (nI low), .int (nI high), .int (nI q9)]) K0 e_MH_needPart l_MH_88 k412 rfl rfl d_MH_part_10) (c_MH_needPart h1 h2 h3) K0 hOK hml hl.1 e_MH_needPart hX hS d_MH_part_10 (Nat.le_of_ble_eq_true rfl) (Nat.le_of_ble_eq_true rfl) (Nat.le_of_ble_eq_true rfl) (Nat.le_of_ble_eq_true rfl) (Nat.le_of_ble_eq_true rfl) (fun H locs hX hS => ?_)
  refine W.eq (g2 := F0 m 13 ls []) rfl ?_
  refine lv_aload_n hx hb d_MH_part_13 rfl (lv_at hl 0 rfl) ?_
  refine lv_iload_n hx hb d_MH_part_14 rfl (lv_at hl 1 rfl) ?_
  refine mh_callR (mh_sV (rest := []) (av := [.int (nI t)]) K0 hX r0 rfl e_MH_openDraft l_MH_65 k303 kp1 rfl rfl d_MH_part_15) (c_MH_openDraft r0 r10 ht hy1) K0 hOK hml hl.1 e_MH_openDraft hX hS d_MH_part_15 (Nat.le_of_ble_eq_true rfl) (Nat.le_of_ble_eq_true rfl) (Nat.le_of_ble_eq_true rfl) (Nat.le_of_ble_eq_true rfl) (Nat.le_of_ble_eq_true rfl) (fun H locs hX hS => ?_)
  refine W.eq (g2 := F0 m 18 ls [.ref y]) rfl ?_
  refine lv_astore (lv' := [(5, .ref y), (0, .ref x0), (1, .int (nI t)), (2, .int (nI low)), (3, .int (nI high)), (4, .int (nI q9))]) hx hb d_MH_part_18 hl (by decide) rfl (fun ls hl => ?_)
  refine lv_aload hx hb d_MH_part_20 (lv_at hl 0 rfl) ?_
  refine mh_get K0 hX j0 f_MH_91 rfl d_MH_part_22 ?_
  refine lv_bipush (v := nI 8) hx hb d_MH_part_25 (by decide) ?_
  refine mh_icmp_lt (tgt := 40) hx hb (by omega) (by omega) d_MH_part_27 (by decide) (fun z => absurd z (by omega)) (fun _ => ?_)
  exact mh_throw hl0 K0 hOK ex_IO (is := 96) (tx := "there would be nine parts") (by decide) k360 hlocks hT hml hl.1 hX hS (fun q => ⟨q, rfl, mh_set_eq _ _ _ _, hR2.x mh_x.of, mh_x.of.C⟩) (Nat.le_of_ble_eq_true rfl) (Nat.le_of_ble_eq_true rfl) (Nat.le_of_ble_eq_true rfl) (Nat.le_of_ble_eq_true rfl) (Nat.le_of_ble_eq_true rfl) (Nat.le_of_ble_eq_true rfl) d_MH_part_30 d_MH_part_33 d_MH_part_34 d_MH_part_36 d_MH_part_39
set_option maxHeartbeats 4000000 in
set_option maxRecDepth 100000 in
theorem c_MH_abort_0 {l : Launch} {b : Nat} {dC : Nat → ClassId} {dI : Nat → Nat → Nat} {dA : Nat → ClassId} {zs : Nat → Nat} {w : mh_w} {x0 : Nat} {g : st_G} (hR : rC dA zs w x0 g) (hG : sg_ok g) {t : Nat} (ht : t < 16) {x : st_I} (hd : sg_dr g t = some x) : mh_Met l b dC dI dA zs y_MH_abort (mh_rm 8 20 1000) [.ref x0, .int (nI t)] w (mh_V none (fun w' => rC dA zs w' x0 (g.1, g.2.1, va_up (sg_dr g) t none, g.2.2.2) ∧ mh_C w w')) := by
  have hR2 := hR
  obtain ⟨aL, aS, aD, aV, sv, dr, vw, lg, hP⟩ := hR
  have hP2 := hP
  obtain ⟨r0, rLg, r3, r10, r11, rs, rv, rd, rl⟩ := hP2
  obtain ⟨mc, ar, r1, rAr⟩ := rLg
  have hG2 := hG
  obtain ⟨gn, grs, gat, glo, gdr⟩ := hG2
  refine mh_ofW (cc := b_MH_abort) (n := 2) (ret := none) (hs := []) (by decide) k540 ?_
  intro p e s m below meth c hx hb hr hml hown hts hlocks hnm hT hOK hadm
  have K0 : mh_K0 p s m ([.ref x0, .int (nI t)]).toArray c "MeldHost" b_MH_abort dC dI dA := ⟨hx, hb, hown, hts, hOK.1, hOK.2.1⟩
  have hX := hOK.2.2.2.2
  have hb0 := hOK.2.2.2.1
  have hS : va_S (mh_A b) s.heap s.heap [] := va_S.rf
  have hl := lv_entry ([.ref x0, .int (nI t)]) (n := 2) (Nat.le_of_ble_eq_true rfl)
  rw [lg_entry_eq]
  generalize (lg_sl ([.ref x0, .int (nI t)]) ++ List.replicate (2 - (lg_sl ([.ref x0, .int (nI t)])).length) Slot.unset).toArray = ls at hl ⊢
  have hl : lv_has ls 2 [(0, .ref x0), (1, .int (nI t))] := hl
  obtain ⟨y, hy1, hy2⟩ := (rd t ht).some hd
  obtain ⟨d1, d3, d4, d5, d6, d7, j0⟩ := hy2.fst
  have ho := gdr t x ht hd
  have ho2 := ho
  obtain ⟨o1, o2, o3, o4, o5, o6, o7, o8⟩ := ho2
  obtain ⟨av, hv1, st, hv2, hv3⟩ := rv t ht
  obtain ⟨v1, v3, vn0⟩ := hv2.fst
  refine lv_iload_n hx hb d_MH_abort_0 rfl (lv_at hl 1 rfl) ?_
  refine lv_bipush (v := nI 16) hx hb d_MH_abort_1 (by decide) ?_
  refine mh_callR (mh_sS (rest := []) (av := [.int (nI t), .int (nI 16)]) K0 e_MH_needBelow l_MH_40 k144 rfl rfl d_MH_abort_3) (c_MH_needBelow ht (by decide)) K0 hOK hml hl.1 e_MH_needBelow hX hS d_MH_abort_3 (Nat.le_of_ble_eq_true rfl) (Nat.le_of_ble_eq_true rfl) (Nat.le_of_ble_eq_true rfl) (Nat.le_of_ble_eq_true rfl) (Nat.le_of_ble_eq_true rfl) (fun H locs hX hS => ?_)
  refine W.eq (g2 := F0 m 6 ls []) rfl ?_
  refine lv_aload_n hx hb d_MH_abort_6 rfl (lv_at hl 0 rfl) ?_
  refine lv_iload_n hx hb d_MH_abort_7 rfl (lv_at hl 1 rfl) ?_
  refine mh_callR (mh_sV (rest := []) (av := [.int (nI t)]) K0 hX r0 rfl e_MH_openDraft l_MH_65 k303 kp1 rfl rfl d_MH_abort_8) (c_MH_openDraft r0 r10 ht hy1) K0 hOK hml hl.1 e_MH_openDraft hX hS d_MH_abort_8 (Nat.le_of_ble_eq_true rfl) (Nat.le_of_ble_eq_true rfl) (Nat.le_of_ble_eq_true rfl) (Nat.le_of_ble_eq_true rfl) (Nat.le_of_ble_eq_true rfl) (fun H locs hX hS => ?_)
  refine W.eq (g2 := F0 m 11 ls [.ref y]) rfl ?_
  refine lv_pop hx hb d_MH_abort_11 rfl ?_
  refine lv_aload_n hx hb d_MH_abort_12 rfl (lv_at hl 0 rfl) ?_
  refine mh_get K0 hX r0 f_MH_25 rfl d_MH_abort_13 ?_
  refine lv_iload_n hx hb d_MH_abort_16 rfl (lv_at hl 1 rfl) ?_
  refine lv_null hx hb d_MH_abort_17 ?_
  refine mh_aastNN 5 rfl K0 hX hS r10 (by omega) (by omega) d_MH_abort_18 (fun H locs hX hS => ?_)
  have fs62 := mh_self hX
  exact mh_vret K0 hr hlocks hX hS (⟨rfl, ⟨aL, aS, aD, aV, sv, _, vw, lg, hP.tx (fun k i h0 h1 h2 => by rw [mh_set_ne _ _ _ _ (by omega)]) (fs62) (fun z hz => va_up_ne _ _ hz) (va_up_self _ _ _) ⟨av, hv1, st, hv2.to (fun z hz => by rw [mh_set_ne _ _ _ _ (by omega)]) (fun _ _ => rfl), fun x2 hx2 => by cases hx2⟩⟩, fun k i h1 h2 => by rw [mh_set_ne _ _ _ _ (by omega)]⟩) (Nat.le_of_ble_eq_true rfl) (Nat.le_of_ble_eq_true rfl) d_MH_abort_19
set_option maxHeartbeats 4000000 in
set_option maxRecDepth 100000 in
theorem c_MH_commit_00 {l : Launch} {b : Nat} {dC : Nat → ClassId} {dI : Nat → Nat → Nat} {dA : Nat → ClassId} {zs : Nat → Nat} {w : mh_w} {x0 : Nat} {g : st_G} (hR : rC dA zs w x0 g) (hG : sg_ok g) {t : Nat} (ht : t < 16) {x : st_I} (hd : sg_dr g t = some x) (h0 : iv_nw x = 0) : mh_Met l b dC dI dA zs y_MH_commit (mh_rm 8 20 1000) [.ref x0, .int (nI t)] w (mh_V (some (.int (-1))) (fun w' => rC dA zs w' x0 (g.1, g.2.1, va_up (sg_dr g) t none, g.2.2.2) ∧ mh_C w w')) := by
  have hR2 := hR
  obtain ⟨aL, aS, aD, aV, sv, dr, vw, lg, hP⟩ := hR
  have hP2 := hP
  obtain ⟨r0, rLg, r3, r10, r11, rs, rv, rd, rl⟩ := hP2
  obtain ⟨mc, ar, r1, rAr⟩ := rLg
  have hG2 := hG
  obtain ⟨gn, grs, gat, glo, gdr⟩ := hG2
  refine mh_ofW (cc := b_MH_commit) (n := 3) (ret := (some .int)) (hs := []) (by decide) k446 ?_
  intro p e s m below meth c hx hb hr hml hown hts hlocks hnm hT hOK hadm
  have K0 : mh_K0 p s m ([.ref x0, .int (nI t)]).toArray c "MeldHost" b_MH_commit dC dI dA := ⟨hx, hb, hown, hts, hOK.1, hOK.2.1⟩
  have hX := hOK.2.2.2.2
  have hb0 := hOK.2.2.2.1
  have hS : va_S (mh_A b) s.heap s.heap [] := va_S.rf
  have hl := lv_entry ([.ref x0, .int (nI t)]) (n := 3) (Nat.le_of_ble_eq_true rfl)
  rw [lg_entry_eq]
  generalize (lg_sl ([.ref x0, .int (nI t)]) ++ List.replicate (3 - (lg_sl ([.ref x0, .int (nI t)])).length) Slot.unset).toArray = ls at hl ⊢
  have hl : lv_has ls 3 [(0, .ref x0), (1, .int (nI t))] := hl
  obtain ⟨y, hy1, hy2⟩ := (rd t ht).some hd
  obtain ⟨d1, d3, d4, d5, d6, d7, j0⟩ := hy2.fst
  have ho := gdr t x ht hd
  have ho2 := ho
  obtain ⟨o1, o2, o3, o4, o5, o6, o7, o8⟩ := ho2
  obtain ⟨av, hv1, st, hv2, hv3⟩ := rv t ht
  obtain ⟨v1, v3, vn0⟩ := hv2.fst
  refine lv_iload_n hx hb d_MH_commit_0 rfl (lv_at hl 1 rfl) ?_
  refine lv_bipush (v := nI 16) hx hb d_MH_commit_1 (by decide) ?_
  refine mh_callR (mh_sS (rest := []) (av := [.int (nI t), .int (nI 16)]) K0 e_MH_needBelow l_MH_40 k144 rfl rfl d_MH_commit_3) (c_MH_needBelow ht (by decide)) K0 hOK hml hl.1 e_MH_needBelow hX hS d_MH_commit_3 (Nat.le_of_ble_eq_true rfl) (Nat.le_of_ble_eq_true rfl) (Nat.le_of_ble_eq_true rfl) (Nat.le_of_ble_eq_true rfl) (Nat.le_of_ble_eq_true rfl) (fun H locs hX hS => ?_)
  refine W.eq (g2 := F0 m 6 ls []) rfl ?_
  refine lv_aload_n hx hb d_MH_commit_6 rfl (lv_at hl 0 rfl) ?_
  refine lv_iload_n hx hb d_MH_commit_7 rfl (lv_at hl 1 rfl) ?_
  refine mh_callR (mh_sV (rest := []) (av := [.int (nI t)]) K0 hX r0 rfl e_MH_openDraft l_MH_65 k303 kp1 rfl rfl d_MH_commit_8) (c_MH_openDraft r0 r10 ht hy1) K0 hOK hml hl.1 e_MH_openDraft hX hS d_MH_commit_8 (Nat.le_of_ble_eq_true rfl) (Nat.le_of_ble_eq_true rfl) (Nat.le_of_ble_eq_true rfl) (Nat.le_of_ble_eq_true rfl) (Nat.le_of_ble_eq_true rfl) (fun H locs hX hS => ?_)
  refine W.eq (g2 := F0 m 11 ls [.ref y]) rfl ?_
  refine lv_astore_n (lv' := [(2, .ref y), (0, .ref x0), (1, .int (nI t))]) hx hb d_MH_commit_11 rfl hl (by decide) rfl (fun ls hl => ?_)
  refine lv_aload_n hx hb d_MH_commit_12 rfl (lv_at hl 0 rfl) ?_
  refine mh_get K0 hX j0 f_MH_106 rfl d_MH_commit_13 ?_
  refine mh_if_ne (tgt := 28) hx hb (by omega) d_MH_commit_16 (by decide) (fun z => absurd z (by omega)) (fun _ => ?_)
  refine lv_aload_n hx hb d_MH_commit_19 rfl (lv_at hl 1 rfl) ?_
  refine mh_get K0 hX r0 f_MH_25 rfl d_MH_commit_20 ?_
  refine lv_iload_n hx hb d_MH_commit_23 rfl (lv_at hl 2 rfl) ?_
  refine lv_null hx hb d_MH_commit_24 ?_
  refine mh_aastNN 5 rfl K0 hX hS r10 (by omega) (by omega) d_MH_commit_25 (fun H locs hX hS => ?_)
  have fs63 := mh_self hX
  refine lv_iconst (v := (-1)) hx hb d_MH_commit_26 (by decide) ?_
  exact mh_iret K0 hr rfl hlocks hX hS (⟨rfl, ⟨aL, aS, aD, aV, sv, _, vw, lg, hP.tx (fun k i h0 h1 h2 => by rw [mh_set_ne _ _ _ _ (by omega)]) (fs63) (fun z hz => va_up_ne _ _ hz) (va_up_self _ _ _) ⟨av, hv1, st, hv2.to (fun z hz => by rw [mh_set_ne _ _ _ _ (by omega)]) (fun _ _ => rfl), fun x2 hx2 => by cases hx2⟩⟩, fun k i h1 h2 => by rw [mh_set_ne _ _ _ _ (by omega)]⟩) (Nat.le_of_ble_eq_true rfl) (Nat.le_of_ble_eq_true rfl) d_MH_commit_27
set_option maxHeartbeats 4000000 in
set_option maxRecDepth 100000 in
theorem c_MH_commit_3 {l : Launch} {b : Nat} {dC : Nat → ClassId} {dI : Nat → Nat → Nat} {dA : Nat → ClassId} {zs : Nat → Nat} {w : mh_w} (hl0 : l.stackTraces = false) {x0 : Nat} {g : st_G} (hR : rC dA zs w x0 g) (hG : sg_ok g) {t : Nat} (ht : t < 16) {x : st_I} (hd : sg_dr g t = some x) (h0 : ¬ iv_nw x = 0) (hn : ¬ sg_n g < 400) : mh_Met l b dC dI dA zs y_MH_commit (mh_rm 8 20 1000) [.ref x0, .int (nI t)] w (mh_T 10 (fun w' => rC dA zs w' x0 g ∧ mh_C w w')) := by
  have hR2 := hR
  obtain ⟨aL, aS, aD, aV, sv, dr, vw, lg, hP⟩ := hR
  have hP2 := hP
  obtain ⟨r0, rLg, r3, r10, r11, rs, rv, rd, rl⟩ := hP2
  obtain ⟨mc, ar, r1, rAr⟩ := rLg
  have hG2 := hG
  obtain ⟨gn, grs, gat, glo, gdr⟩ := hG2
  refine mh_ofW (cc := b_MH_commit) (n := 3) (ret := (some .int)) (hs := []) (by decide) k446 ?_
  intro p e s m below meth c hx hb hr hml hown hts hlocks hnm hT hOK hadm
  have K0 : mh_K0 p s m ([.ref x0, .int (nI t)]).toArray c "MeldHost" b_MH_commit dC dI dA := ⟨hx, hb, hown, hts, hOK.1, hOK.2.1⟩
  have hX := hOK.2.2.2.2
  have hb0 := hOK.2.2.2.1
  have hS : va_S (mh_A b) s.heap s.heap [] := va_S.rf
  have hl := lv_entry ([.ref x0, .int (nI t)]) (n := 3) (Nat.le_of_ble_eq_true rfl)
  rw [lg_entry_eq]
  generalize (lg_sl ([.ref x0, .int (nI t)]) ++ List.replicate (3 - (lg_sl ([.ref x0, .int (nI t)])).length) Slot.unset).toArray = ls at hl ⊢
  have hl : lv_has ls 3 [(0, .ref x0), (1, .int (nI t))] := hl
  obtain ⟨y, hy1, hy2⟩ := (rd t ht).some hd
  obtain ⟨d1, d3, d4, d5, d6, d7, j0⟩ := hy2.fst
  have ho := gdr t x ht hd
  have ho2 := ho
  obtain ⟨o1, o2, o3, o4, o5, o6, o7, o8⟩ := ho2
  refine lv_iload_n hx hb d_MH_commit_0 rfl (lv_at hl 1 rfl) ?_
  refine lv_bipush (v := nI 16) hx hb d_MH_commit_1 (by decide) ?_
  refine mh_callR (mh_sS (rest := []) (av := [.int (nI t), .int (nI 16)]) K0 e_MH_needBelow l_MH_40 k144 rfl rfl d_MH_commit_3) (c_MH_needBelow ht (by decide)) K0 hOK hml hl.1 e_MH_needBelow hX hS d_MH_commit_3 (Nat.le_of_ble_eq_true rfl) (Nat.le_of_ble_eq_true rfl) (Nat.le_of_ble_eq_true rfl) (Nat.le_of_ble_eq_true rfl) (Nat.le_of_ble_eq_true rfl) (fun H locs hX hS => ?_)
  refine W.eq (g2 := F0 m 6 ls []) rfl ?_
  refine lv_aload_n hx hb d_MH_commit_6 rfl (lv_at hl 0 rfl) ?_
  refine lv_iload_n hx hb d_MH_commit_7 rfl (lv_at hl 1 rfl) ?_
  refine mh_callR (mh_sV (rest := []) (av := [.int (nI t)]) K0 hX r0 rfl e_MH_openDraft l_MH_65 k303 kp1 rfl rfl d_MH_commit_8) (c_MH_openDraft r0 r10 ht hy1) K0 hOK hml hl.1 e_MH_openDraft hX hS d_MH_commit_8 (Nat.le_of_ble_eq_true rfl) (Nat.le_of_ble_eq_true rfl) (Nat.le_of_ble_eq_true rfl) (Nat.le_of_ble_eq_true rfl) (Nat.le_of_ble_eq_true rfl) (fun H locs hX hS => ?_)
  refine W.eq (g2 := F0 m 11 ls [.ref y]) rfl ?_
  refine lv_astore_n (lv' := [(2, .ref y), (0, .ref x0), (1, .int (nI t))]) hx hb d_MH_commit_11 rfl hl (by decide) rfl (fun ls hl => ?_)
  refine lv_aload_n hx hb d_MH_commit_12 rfl (lv_at hl 0 rfl) ?_
  refine mh_get K0 hX j0 f_MH_106 rfl d_MH_commit_13 ?_
  refine mh_if_ne (tgt := 28) hx hb (by omega) d_MH_commit_16 (by decide) (fun _ => ?_) (fun z => absurd z (by omega))
  refine lv_aload_n hx hb d_MH_commit_28 rfl (lv_at hl 1 rfl) ?_
  refine mh_get K0 hX r0 f_MH_10 rfl d_MH_commit_29 ?_
  refine mh_callR (mh_sV (rest := []) (av := []) K0 hX r1 rfl e_AL_size l_MH_109 k448 k449 rfl rfl d_MH_commit_32) (c_AL_size r1) K0 hOK hml hl.1 e_AL_size hX hS d_MH_commit_32 (Nat.le_of_ble_eq_true rfl) (Nat.le_of_ble_eq_true rfl) (Nat.le_of_ble_eq_true rfl) (Nat.le_of_ble_eq_true rfl) (Nat.le_of_ble_eq_true rfl) (fun H locs hX hS => ?_)
  refine W.eq (g2 := F0 m 35 ls [.int (nI (sg_n g))]) rfl ?_
  refine lv_sipush (v := nI 400) hx hb d_MH_commit_35 (by decide) ?_
  refine mh_icmp_lt (tgt := 51) hx hb (by omega) (by omega) d_MH_commit_38 (by decide) (fun z => absurd z (by omega)) (fun _ => ?_)
  exact mh_throw hl0 K0 hOK ex_IO (is := 113) (tx := "the log is full") (by decide) k360 hlocks hT hml hl.1 hX hS (fun q => ⟨q, rfl, mh_set_eq _ _ _ _, hR2.x mh_x.of, mh_x.of.C⟩) (Nat.le_of_ble_eq_true rfl) (Nat.le_of_ble_eq_true rfl) (Nat.le_of_ble_eq_true rfl) (Nat.le_of_ble_eq_true rfl) (Nat.le_of_ble_eq_true rfl) (Nat.le_of_ble_eq_true rfl) d_MH_commit_41 d_MH_commit_44 d_MH_commit_45 d_MH_commit_47 d_MH_commit_50
set_option maxHeartbeats 4000000 in
set_option maxRecDepth 100000 in
theorem c_MH_state_0 {l : Launch} {b : Nat} {dC : Nat → ClassId} {dI : Nat → Nat → Nat} {dA : Nat → ClassId} {zs : Nat → Nat} {w : mh_w} {x0 : Nat} {g : st_G} (hR : rC dA zs w x0 g) (hG : sg_ok g) {u : Nat} (hu : u < 4) {key : Nat} (hk : key < 256) {v : Int64} (hv : (st_st (sg_lg g) (sg_at g u)) key = some v) : mh_Met l b dC dI dA zs y_MH_state (mh_rm 8 20 1000) [.ref x0, .int (nI u), .int (nI key)] w (mh_V (some (.long v)) (fun w' => rC dA zs w' x0 g ∧ mh_C w w')) := by
  have hR2 := hR
  obtain ⟨aL, aS, aD, aV, sv, dr, vw, lg, hP⟩ := hR
  have hP2 := hP
  obtain ⟨r0, rLg, r3, r10, r11, rs, rv, rd, rl⟩ := hP2
  obtain ⟨mc, ar, r1, rAr⟩ := rLg
  have hG2 := hG
  obtain ⟨gn, grs, gat, glo, gdr⟩ := hG2
  refine mh_ofW (cc := b_MH_state) (n := 3) (ret := (some .long)) (hs := []) (by decide) k592 ?_
  intro p e s m below meth c hx hb hr hml hown hts hlocks hnm hT hOK hadm
  have K0 : mh_K0 p s m ([.ref x0, .int (nI u), .int (nI key)]).toArray c "MeldHost" b_MH_state dC dI dA := ⟨hx, hb, hown, hts, hOK.1, hOK.2.1⟩
  have hX := hOK.2.2.2.2
  have hb0 := hOK.2.2.2.1
  have hS : va_S (mh_A b) s.heap s.heap [] := va_S.rf
  have hl := lv_entry ([.ref x0, .int (nI u), .int (nI key)]) (n := 3) (Nat.le_of_ble_eq_true rfl)
  rw [lg_entry_eq]
  generalize (lg_sl ([.ref x0, .int (nI u), .int (nI key)]) ++ List.replicate (3 - (lg_sl ([.ref x0, .int (nI u), .int (nI key)])).length) Slot.unset).toArray = ls at hl ⊢
  have hl : lv_has ls 3 [(0, .ref x0), (1, .int (nI u)), (2, .int (nI key))] := hl
  obtain ⟨au, hs1, hs2⟩ := rs u hu
  have hs3 := hs2
  obtain ⟨a5, a9, f9, s0, sN, s9, sf⟩ := hs2
  obtain ⟨n1, n3, sn0⟩ := sN.fst
  refine lv_iload_n hx hb d_MH_state_0 rfl (lv_at hl 1 rfl) ?_
  refine lv_iconst (v := nI 4) hx hb d_MH_state_1 (by decide) ?_
  refine mh_callR (mh_sS (rest := []) (av := [.int (nI u), .int (nI 4)]) K0 e_MH_needBelow l_MH_40 k144 rfl rfl d_MH_state_2) (c_MH_needBelow hu (by decide)) K0 hOK hml hl.1 e_MH_needBelow hX hS d_MH_state_2 (Nat.le_of_ble_eq_true rfl) (Nat.le_of_ble_eq_true rfl) (Nat.le_of_ble_eq_true rfl) (Nat.le_of_ble_eq_true rfl) (Nat.le_of_ble_eq_true rfl) (fun H locs hX hS => ?_)
  refine W.eq (g2 := F0 m 5 ls []) rfl ?_
  refine lv_iload_n hx hb d_MH_state_5 rfl (lv_at hl 2 rfl) ?_
  refine lv_sipush (v := nI 256) hx hb d_MH_state_6 (by decide) ?_
  refine mh_callR (mh_sS (rest := []) (av := [.int (nI key), .int (nI 256)]) K0 e_MH_needBelow l_MH_40 k144 rfl rfl d_MH_state_9) (c_MH_needBelow hk (by decide)) K0 hOK hml hl.1 e_MH_needBelow hX hS d_MH_state_9 (Nat.le_of_ble_eq_true rfl) (Nat.le_of_ble_eq_true rfl) (Nat.le_of_ble_eq_true rfl) (Nat.le_of_ble_eq_true rfl) (Nat.le_of_ble_eq_true rfl) (fun H locs hX hS => ?_)
  refine W.eq (g2 := F0 m 12 ls []) rfl ?_
  refine lv_aload_n hx hb d_MH_state_12 rfl (lv_at hl 0 rfl) ?_
  refine mh_get K0 hX r0 f_MH_18 rfl d_MH_state_13 ?_
  refine lv_iload_n hx hb d_MH_state_16 rfl (lv_at hl 1 rfl) ?_
  refine mh_aaldN 4 rfl K0 hX r3 (by omega) (by omega) (r := (some au)) (hs1) d_MH_state_17 ?_
  refine W.eq (g2 := F0 m 18 ls [.ref au]) rfl ?_
  refine mh_get K0 hX s0 f_MH_57 rfl d_MH_state_18 ?_
  refine lv_iload_n hx hb d_MH_state_21 rfl (lv_at hl 2 rfl) ?_
  refine mh_callR (mh_sS (rest := []) (av := [.ref a5, .int (nI key)]) K0 e_MH_numberIn l_MH_73 k323 rfl rfl d_MH_state_22) (c_MH_numberIn sN hk hv) K0 hOK hml hl.1 e_MH_numberIn hX hS d_MH_state_22 (Nat.le_of_ble_eq_true rfl) (Nat.le_of_ble_eq_true rfl) (Nat.le_of_ble_eq_true rfl) (Nat.le_of_ble_eq_true rfl) (Nat.le_of_ble_eq_true rfl) (fun H locs hX hS => ?_)
  refine W.eq (g2 := F0 m 25 ls [.long v]) rfl ?_
  exact mh_lret K0 hr hlocks hX hS (⟨rfl, hR2, fun _ _ _ _ => rfl⟩) (Nat.le_of_ble_eq_true rfl) (Nat.le_of_ble_eq_true rfl) d_MH_state_25
set_option maxHeartbeats 4000000 in
set_option maxRecDepth 100000 in
theorem c_MH_state_2 {l : Launch} {b : Nat} {dC : Nat → ClassId} {dI : Nat → Nat → Nat} {dA : Nat → ClassId} {zs : Nat → Nat} {w : mh_w} (hl0 : l.stackTraces = false) {x0 : Nat} {g : st_G} (hR : rC dA zs w x0 g) (hG : sg_ok g) {u : Nat} (hu : u < 4) {key : Nat} (hk : key < 256) (hv : (st_st (sg_lg g) (sg_at g u)) key = none) : mh_Met l b dC dI dA zs y_MH_state (mh_rm 8 20 1000) [.ref x0, .int (nI u), .int (nI key)] w (mh_T 11 (fun w' => rC dA zs w' x0 g ∧ mh_C w w')) := by
  have hR2 := hR
  obtain ⟨aL, aS, aD, aV, sv, dr, vw, lg, hP⟩ := hR
  have hP2 := hP
  obtain ⟨r0, rLg, r3, r10, r11, rs, rv, rd, rl⟩ := hP2
  obtain ⟨mc, ar, r1, rAr⟩ := rLg
  have hG2 := hG
  obtain ⟨gn, grs, gat, glo, gdr⟩ := hG2
  refine mh_ofW (cc := b_MH_state) (n := 3) (ret := (some .long)) (hs := []) (by decide) k592 ?_
  intro p e s m below meth c hx hb hr hml hown hts hlocks hnm hT hOK hadm
  have K0 : mh_K0 p s m ([.ref x0, .int (nI u), .int (nI key)]).toArray c "MeldHost" b_MH_state dC dI dA := ⟨hx, hb, hown, hts, hOK.1, hOK.2.1⟩
  have hX := hOK.2.2.2.2
  have hb0 := hOK.2.2.2.1
  have hS : va_S (mh_A b) s.heap s.heap [] := va_S.rf
  have hl := lv_entry ([.ref x0, .int (nI u), .int (nI key)]) (n := 3) (Nat.le_of_ble_eq_true rfl)
  rw [lg_entry_eq]
  generalize (lg_sl ([.ref x0, .int (nI u), .int (nI key)]) ++ List.replicate (3 - (lg_sl ([.ref x0, .int (nI u), .int (nI key)])).length) Slot.unset).toArray = ls at hl ⊢
  have hl : lv_has ls 3 [(0, .ref x0), (1, .int (nI u)), (2, .int (nI key))] := hl
  obtain ⟨au, hs1, hs2⟩ := rs u hu
  have hs3 := hs2
  obtain ⟨a5, a9, f9, s0, sN, s9, sf⟩ := hs2
  obtain ⟨n1, n3, sn0⟩ := sN.fst
  refine lv_iload_n hx hb d_MH_state_0 rfl (lv_at hl 1 rfl) ?_
  refine lv_iconst (v := nI 4) hx hb d_MH_state_1 (by decide) ?_
  refine mh_callR (mh_sS (rest := []) (av := [.int (nI u), .int (nI 4)]) K0 e_MH_needBelow l_MH_40 k144 rfl rfl d_MH_state_2) (c_MH_needBelow hu (by decide)) K0 hOK hml hl.1 e_MH_needBelow hX hS d_MH_state_2 (Nat.le_of_ble_eq_true rfl) (Nat.le_of_ble_eq_true rfl) (Nat.le_of_ble_eq_true rfl) (Nat.le_of_ble_eq_true rfl) (Nat.le_of_ble_eq_true rfl) (fun H locs hX hS => ?_)
  refine W.eq (g2 := F0 m 5 ls []) rfl ?_
  refine lv_iload_n hx hb d_MH_state_5 rfl (lv_at hl 2 rfl) ?_
  refine lv_sipush (v := nI 256) hx hb d_MH_state_6 (by decide) ?_
  refine mh_callR (mh_sS (rest := []) (av := [.int (nI key), .int (nI 256)]) K0 e_MH_needBelow l_MH_40 k144 rfl rfl d_MH_state_9) (c_MH_needBelow hk (by decide)) K0 hOK hml hl.1 e_MH_needBelow hX hS d_MH_state_9 (Nat.le_of_ble_eq_true rfl) (Nat.le_of_ble_eq_true rfl) (Nat.le_of_ble_eq_true rfl) (Nat.le_of_ble_eq_true rfl) (Nat.le_of_ble_eq_true rfl) (fun H locs hX hS => ?_)
  refine W.eq (g2 := F0 m 12 ls []) rfl ?_
  refine lv_aload_n hx hb d_MH_state_12 rfl (lv_at hl 0 rfl) ?_
  refine mh_get K0 hX r0 f_MH_18 rfl d_MH_state_13 ?_
  refine lv_iload_n hx hb d_MH_state_16 rfl (lv_at hl 1 rfl) ?_
  refine mh_aaldN 4 rfl K0 hX r3 (by omega) (by omega) (r := (some au)) (hs1) d_MH_state_17 ?_
  refine W.eq (g2 := F0 m 18 ls [.ref au]) rfl ?_
  refine mh_get K0 hX s0 f_MH_57 rfl d_MH_state_18 ?_
  refine lv_iload_n hx hb d_MH_state_21 rfl (lv_at hl 2 rfl) ?_
  refine mh_callT (mh_sS (rest := []) (av := [.ref a5, .int (nI key)]) K0 e_MH_numberIn l_MH_73 k323 rfl rfl d_MH_state_22) (c_MH_numberIn_no hl0 sN hk hv) K0 hOK hml hl.1 e_MH_numberIn hX hS d_MH_state_22 (Nat.le_of_ble_eq_true rfl) (Nat.le_of_ble_eq_true rfl) (Nat.le_of_ble_eq_true rfl) (Nat.le_of_ble_eq_true rfl) (Nat.le_of_ble_eq_true rfl) (fun q w1 H locs hq hw hX hS => ?_)
  exact mh_leave hlocks hT hX hS (⟨q, rfl, hq, hR2.x hw, hw.C⟩) (Nat.le_of_ble_eq_true rfl) (Nat.le_of_ble_eq_true rfl)
set_option maxHeartbeats 4000000 in
set_option maxRecDepth 100000 in
theorem c_MH_look_0 {l : Launch} {b : Nat} {dC : Nat → ClassId} {dI : Nat → Nat → Nat} {dA : Nat → ClassId} {zs : Nat → Nat} {w : mh_w} {x0 : Nat} {g : st_G} (hR : rC dA zs w x0 g) (hG : sg_ok g) {u : Nat} (hu : u < 4) {low high q9 : Nat} (h1 : low ≤ high) (h2 : high < 256) (h3 : q9 < 4) : mh_Met l b dC dI dA zs y_MH_look (mh_rm 8 20 1000) [.ref x0, .int (nI u), .int (nI low), .int (nI high), .int (nI q9)] w (mh_V (some (.long (tl_a (st_st (sg_lg g) (sg_at g u)) low (high + 1 - low) (nI q9)))) (fun w' => rC dA zs w' x0 g ∧ mh_C w w')) := by
  have hR2 := hR
  obtain ⟨aL, aS, aD, aV, sv, dr, vw, lg, hP⟩ := hR
  have hP2 := hP
  obtain ⟨r0, rLg, r3, r10, r11, rs, rv, rd, rl⟩ := hP2
  obtain ⟨mc, ar, r1, rAr⟩ := rLg
  have hG2 := hG
  obtain ⟨gn, grs, gat, glo, gdr⟩ := hG2
  refine mh_ofW (cc := b_MH_look) (n := 5) (ret := (some .long)) (hs := []) (by decide) k599 ?_
  intro p e s m below meth c hx hb hr hml hown hts hlocks hnm hT hOK hadm
  have K0 : mh_K0 p s m ([.ref x0, .int (nI u), .int (nI low), .int (nI high), .int (nI q9)]).toArray c "MeldHost" b_MH_look dC dI dA := ⟨hx, hb, hown, hts, hOK.1, hOK.2.1⟩
  have hX := hOK.2.2.2.2
  have hb0 := hOK.2.2.2.1
  have hS : va_S (mh_A b) s.heap s.heap [] := va_S.rf
  have hl := lv_entry ([.ref x0, .int (nI u), .int (nI low), .int (nI high), .int (nI q9)]) (n := 5) (Nat.le_of_ble_eq_true rfl)
  rw [lg_entry_eq]
  generalize (lg_sl ([.ref x0, .int (nI u), .int (nI low), .int (nI high), .int (nI q9)]) ++ List.replicate (5 - (lg_sl ([.ref x0, .int (nI u), .int (nI low), .int (nI high), .int (nI q9)])).length) Slot.unset).toArray = ls at hl ⊢
  have hl : lv_has ls 5 [(0, .ref x0), (1, .int (nI u)), (2, .int (nI low)), (3, .int (nI high)), (4, .int (nI q9))] := hl
  obtain ⟨au, hs1, hs2⟩ := rs u hu
  have hs3 := hs2
  obtain ⟨a5, a9, f9, s0, sN, s9, sf⟩ := hs2
  obtain ⟨n1, n3, sn0⟩ := sN.fst
  refine lv_iload_n hx hb d_MH_look_0 rfl (lv_at hl 1 rfl) ?_
  refine lv_iconst (v := nI 4) hx hb d_MH_look_1 (by decide) ?_
  refine mh_callR (mh_sS (rest := []) (av := [.int (nI u), .int (nI 4)]) K0 e_MH_needBelow l_MH_40 k144 rfl rfl d_MH_look_2) (c_MH_needBelow hu (by decide)) K0 hOK hml hl.1 e_MH_needBelow hX hS d_MH_look_2 (Nat.le_of_ble_eq_true rfl) (Nat.le_of_ble_eq_true rfl) (Nat.le_of_ble_eq_true rfl) (Nat.le_of_ble_eq_true rfl) (Nat.le_of_ble_eq_true rfl) (fun H locs hX hS => ?_)
  refine W.eq (g2 := F0 m 5 ls []) rfl ?_
  refine lv_iload_n hx hb d_MH_look_5 rfl (lv_at hl 2 rfl) ?_
  refine lv_iload_n hx hb d_MH_look_6 rfl (lv_at hl 3 rfl) ?_
  refine lv_iload hx hb d_MH_look_7 (lv_at hl 4 rfl) ?_
  refine mh_callR (mh_sS (rest := []) (av := [.int (nI low), .int (nI high), .int (nI q9)]) K0 e_MH_needPart l_MH_88 k412 rfl rfl d_MH_look_9) (c_MH_needPart h1 h2 h3) K0 hOK hml hl.1 e_MH_needPart hX hS d_MH_look_9 (Nat.le_of_ble_eq_true rfl) (Nat.le_of_ble_eq_true rfl) (Nat.le_of_ble_eq_true rfl) (Nat.le_of_ble_eq_true rfl) (Nat.le_of_ble_eq_true rfl) (fun H locs hX hS => ?_)
  refine W.eq (g2 := F0 m 12 ls []) rfl ?_
  refine lv_aload_n hx hb d_MH_look_12 rfl (lv_at hl 0 rfl) ?_
  refine mh_get K0 hX r0 f_MH_18 rfl d_MH_look_13 ?_
  refine lv_iload_n hx hb d_MH_look_16 rfl (lv_at hl 1 rfl) ?_
  refine mh_aaldN 4 rfl K0 hX r3 (by omega) (by omega) (r := (some au)) (hs1) d_MH_look_17 ?_
  refine W.eq (g2 := F0 m 18 ls [.ref au]) rfl ?_
  refine mh_get K0 hX s0 f_MH_57 rfl d_MH_look_18 ?_
  refine lv_iload_n hx hb d_MH_look_21 rfl (lv_at hl 2 rfl) ?_
  refine lv_iload_n hx hb d_MH_look_22 rfl (lv_at hl 3 rfl) ?_
  refine lv_iload hx hb d_MH_look_23 (lv_at hl 4 rfl) ?_
  refine mh_callR (mh_sV (rest := []) (av := [.int (nI low), .int (nI high), .int (nI q9)]) K0 hX sn0 rfl e_NU_tell l_MH_102 k420 k421 rfl rfl d_MH_look_25) (c_NU_tell sN h1 h2 h3) K0 hOK hml hl.1 e_NU_tell hX hS d_MH_look_25 (Nat.le_of_ble_eq_true rfl) (Nat.le_of_ble_eq_true rfl) (Nat.le_of_ble_eq_true rfl) (Nat.le_of_ble_eq_true rfl) (Nat.le_of_ble_eq_true rfl) (fun H locs hX hS => ?_)
  refine W.eq (g2 := F0 m 28 ls [.long (tl_a (st_st (sg_lg g) (sg_at g u)) low (high + 1 - low) (nI q9))]) rfl ?_
  exact mh_lret K0 hr hlocks hX hS (⟨rfl, hR2, fun _ _ _ _ => rfl⟩) (Nat.le_of_ble_eq_true rfl) (Nat.le_of_ble_eq_true rfl) d_MH_look_28
set_option maxHeartbeats 4000000 in
set_option maxRecDepth 100000 in
theorem c_MH_verdict_0 {l : Launch} {b : Nat} {dC : Nat → ClassId} {dI : Nat → Nat → Nat} {dA : Nat → ClassId} {zs : Nat → Nat} {w : mh_w} {x0 : Nat} {g : st_G} (hR : rC dA zs w x0 g) (hG : sg_ok g) {u : Nat} (hu : u < 4) {j : Nat} (hj : j < sg_n g) : mh_Met l b dC dI dA zs y_MH_verdict (mh_rm 8 20 1000) [.ref x0, .int (nI u), .int (nI j)] w (mh_V (some (.int (if sg_at g u ≤ j then 0 else if iv_gd (sg_lg g j) = true then 1 else 2))) (fun w' => rC dA zs w' x0 g ∧ mh_C w w')) := by
  have hR2 := hR
  obtain ⟨aL, aS, aD, aV, sv, dr, vw, lg, hP⟩ := hR
  have hP2 := hP
  obtain ⟨r0, rLg, r3, r10, r11, rs, rv, rd, rl⟩ := hP2
  obtain ⟨mc, ar, r1, rAr⟩ := rLg
  have hG2 := hG
  obtain ⟨gn, grs, gat, glo, gdr⟩ := hG2
  refine mh_ofW (cc := b_MH_verdict) (n := 4) (ret := (some .int)) (hs := []) (by decide) k606 ?_
  intro p e s m below meth c hx hb hr hml hown hts hlocks hnm hT hOK hadm
  have K0 : mh_K0 p s m ([.ref x0, .int (nI u), .int (nI j)]).toArray c "MeldHost" b_MH_verdict dC dI dA := ⟨hx, hb, hown, hts, hOK.1, hOK.2.1⟩
  have hX := hOK.2.2.2.2
  have hb0 := hOK.2.2.2.1
  have hS : va_S (mh_A b) s.heap s.heap [] := va_S.rf
  have hl := lv_entry ([.ref x0, .int (nI u), .int (nI j)]) (n := 4) (Nat.le_of_ble_eq_true rfl)
  rw [lg_entry_eq]
  generalize (lg_sl ([.ref x0, .int (nI u), .int (nI j)]) ++ List.replicate (4 - (lg_sl ([.ref x0, .int (nI u), .int (nI j)])).length) Slot.unset).toArray = ls at hl ⊢
  have hl : lv_has ls 4 [(0, .ref x0), (1, .int (nI u)), (2, .int (nI j))] := hl
  obtain ⟨au, hs1, hs2⟩ := rs u hu
  have hs3 := hs2
  obtain ⟨a5, a9, f9, s0, sN, s9, sf⟩ := hs2
  obtain ⟨n1, n3, sn0⟩ := sN.fst
  obtain ⟨yy, hy1, hy2⟩ := rl j hj
  obtain ⟨ix, cap, ga, q1, q2, q3, q4⟩ := rAr.in hj
  obtain ⟨d1, d3, d4, d5, d6, d7, j0⟩ := hy2.fst
  have hat := gat u hu
  refine lv_iload_n hx hb d_MH_verdict_0 rfl (lv_at hl 1 rfl) ?_
  refine lv_iconst (v := nI 4) hx hb d_MH_verdict_1 (by decide) ?_
  refine mh_callR (mh_sS (rest := []) (av := [.int (nI u), .int (nI 4)]) K0 e_MH_needBelow l_MH_40 k144 rfl rfl d_MH_verdict_2) (c_MH_needBelow hu (by decide)) K0 hOK hml hl.1 e_MH_needBelow hX hS d_MH_verdict_2 (Nat.le_of_ble_eq_true rfl) (Nat.le_of_ble_eq_true rfl) (Nat.le_of_ble_eq_true rfl) (Nat.le_of_ble_eq_true rfl) (Nat.le_of_ble_eq_true rfl) (fun H locs hX hS => ?_)
  refine W.eq (g2 := F0 m 5 ls []) rfl ?_
  refine lv_aload_n hx hb d_MH_verdict_5 rfl (lv_at hl 0 rfl) ?_
  refine lv_iload_n hx hb d_MH_verdict_6 rfl (lv_at hl 2 rfl) ?_
  refine mh_callR (mh_sV (rest := []) (av := [.int (nI j)]) K0 hX r0 rfl e_MH_logged l_MH_149 k609 kp13 rfl rfl d_MH_verdict_7) (c_MH_logged r0 r1 (by omega) q3 q2 q1 hj (q4.trans hy1) j0) K0 hOK hml hl.1 e_MH_logged hX hS d_MH_verdict_7 (Nat.le_of_ble_eq_true rfl) (Nat.le_of_ble_eq_true rfl) (Nat.le_of_ble_eq_true rfl) (Nat.le_of_ble_eq_true rfl) (Nat.le_of_ble_eq_true rfl) (fun H locs hX hS => ?_)
  refine W.eq (g2 := F0 m 10 ls [.ref yy]) rfl ?_
  refine lv_astore_n (lv' := [(3, .ref yy), (0, .ref x0), (1, .int (nI u)), (2, .int (nI j))]) hx hb d_MH_verdict_10 rfl hl (by decide) rfl (fun ls hl => ?_)
  refine lv_iload_n hx hb d_MH_verdict_11 rfl (lv_at hl 3 rfl) ?_
  refine lv_aload_n hx hb d_MH_verdict_12 rfl (lv_at hl 1 rfl) ?_
  refine mh_get K0 hX r0 f_MH_18 rfl d_MH_verdict_13 ?_
  refine lv_iload_n hx hb d_MH_verdict_16 rfl (lv_at hl 2 rfl) ?_
  refine mh_aaldN 4 rfl K0 hX r3 (by omega) (by omega) (r := (some au)) (hs1) d_MH_verdict_17 ?_
  refine W.eq (g2 := F0 m 18 ls [.ref au, .int (nI j)]) rfl ?_
  refine mh_get K0 hX s0 f_MH_51 rfl d_MH_verdict_18 ?_
  refine mh_icmp_lt (tgt := 26) hx hb (by omega) (by omega) d_MH_verdict_21 (by decide) (fun ct => ?_) (fun cf => ?_)
  · skip
    refine lv_aload_n hx hb d_MH_verdict_26 rfl (lv_at hl 0 rfl) ?_
    refine mh_get K0 hX j0 f_MH_119 rfl d_MH_verdict_27 ?_
    refine mh_ifeqB (tgt := 37) hx hb d_MH_verdict_30 (by decide) (fun c2 => ?_) (fun c2 => ?_)
    · skip
      refine lv_iconst (v := nI 2) hx hb d_MH_verdict_37 (by decide) ?_
      exact mh_iret K0 hr rfl hlocks hX hS (⟨by rw [if_neg (by omega), if_neg (by rw [c2]; decide)]; rfl, hR2, fun _ _ _ _ => rfl⟩) (Nat.le_of_ble_eq_true rfl) (Nat.le_of_ble_eq_true rfl) d_MH_verdict_38
    · skip
      refine lv_iconst (v := nI 1) hx hb d_MH_verdict_33 (by decide) ?_
      refine lv_goto (tgt := 38) hx hb d_MH_verdict_34 (by decide) ?_
      exact mh_iret K0 hr rfl hlocks hX hS (⟨by rw [if_neg (by omega), if_pos c2]; rfl, hR2, fun _ _ _ _ => rfl⟩) (Nat.le_of_ble_eq_true rfl) (Nat.le_of_ble_eq_true rfl) d_MH_verdict_38
  · skip
    refine lv_iconst (v := nI 0) hx hb d_MH_verdict_24 (by decide) ?_
    exact mh_iret K0 hr rfl hlocks hX hS (⟨by rw [if_pos cf]; rfl, hR2, fun _ _ _ _ => rfl⟩) (Nat.le_of_ble_eq_true rfl) (Nat.le_of_ble_eq_true rfl) d_MH_verdict_25
set_option maxHeartbeats 4000000 in
set_option maxRecDepth 100000 in
theorem c_MH_verdict_2 {l : Launch} {b : Nat} {dC : Nat → ClassId} {dI : Nat → Nat → Nat} {dA : Nat → ClassId} {zs : Nat → Nat} {w : mh_w} (hl0 : l.stackTraces = false) {x0 : Nat} {g : st_G} (hR : rC dA zs w x0 g) (hG : sg_ok g) {u : Nat} (hu : u < 4) {v : Int32} (hv : st_in v (sg_n g) = false) : mh_Met l b dC dI dA zs y_MH_verdict (mh_rm 8 20 1000) [.ref x0, .int (nI u), .int v] w (mh_T 10 (fun w' => rC dA zs w' x0 g ∧ mh_C w w')) := by
  have hR2 := hR
  obtain ⟨aL, aS, aD, aV, sv, dr, vw, lg, hP⟩ := hR
  have hP2 := hP
  obtain ⟨r0, rLg, r3, r10, r11, rs, rv, rd, rl⟩ := hP2
  obtain ⟨mc, ar, r1, rAr⟩ := rLg
  have hG2 := hG
  obtain ⟨gn, grs, gat, glo, gdr⟩ := hG2
  refine mh_ofW (cc := b_MH_verdict) (n := 4) (ret := (some .int)) (hs := []) (by decide) k606 ?_
  intro p e s m below meth c hx hb hr hml hown hts hlocks hnm hT hOK hadm
  have K0 : mh_K0 p s m ([.ref x0, .int (nI u), .int v]).toArray c "MeldHost" b_MH_verdict dC dI dA := ⟨hx, hb, hown, hts, hOK.1, hOK.2.1⟩
  have hX := hOK.2.2.2.2
  have hb0 := hOK.2.2.2.1
  have hS : va_S (mh_A b) s.heap s.heap [] := va_S.rf
  have hl := lv_entry ([.ref x0, .int (nI u), .int v]) (n := 4) (Nat.le_of_ble_eq_true rfl)
  rw [lg_entry_eq]
  generalize (lg_sl ([.ref x0, .int (nI u), .int v]) ++ List.replicate (4 - (lg_sl ([.ref x0, .int (nI u), .int v])).length) Slot.unset).toArray = ls at hl ⊢
  have hl : lv_has ls 4 [(0, .ref x0), (1, .int (nI u)), (2, .int v)] := hl
  refine lv_iload_n hx hb d_MH_verdict_0 rfl (lv_at hl 1 rfl) ?_
  refine lv_iconst (v := nI 4) hx hb d_MH_verdict_1 (by decide) ?_
  refine mh_callR (mh_sS (rest := []) (av := [.int (nI u), .int (nI 4)]) K0 e_MH_needBelow l_MH_40 k144 rfl rfl d_MH_verdict_2) (c_MH_needBelow hu (by decide)) K0 hOK hml hl.1 e_MH_needBelow hX hS d_MH_verdict_2 (Nat.le_of_ble_eq_true rfl) (Nat.le_of_ble_eq_true rfl) (Nat.le_of_ble_eq_true rfl) (Nat.le_of_ble_eq_true rfl) (Nat.le_of_ble_eq_true rfl) (fun H locs hX hS => ?_)
  refine W.eq (g2 := F0 m 5 ls []) rfl ?_
  refine lv_aload_n hx hb d_MH_verdict_5 rfl (lv_at hl 0 rfl) ?_
  refine lv_iload_n hx hb d_MH_verdict_6 rfl (lv_at hl 2 rfl) ?_
  refine mh_callT (mh_sV (rest := []) (av := [.int v]) K0 hX r0 rfl e_MH_logged l_MH_149 k609 kp13 rfl rfl d_MH_verdict_7) (c_MH_logged_no hl0 r0 r1 (by omega) hv) K0 hOK hml hl.1 e_MH_logged hX hS d_MH_verdict_7 (Nat.le_of_ble_eq_true rfl) (Nat.le_of_ble_eq_true rfl) (Nat.le_of_ble_eq_true rfl) (Nat.le_of_ble_eq_true rfl) (Nat.le_of_ble_eq_true rfl) (fun q w1 H locs hq hw hX hS => ?_)
  exact mh_leave hlocks hT hX hS (⟨q, rfl, hq, hR2.x hw, hw.C⟩) (Nat.le_of_ble_eq_true rfl) (Nat.le_of_ble_eq_true rfl)
set_option maxHeartbeats 4000000 in
set_option maxRecDepth 100000 in
theorem c_MH_intention_0 {l : Launch} {b : Nat} {dC : Nat → ClassId} {dI : Nat → Nat → Nat} {dA : Nat → ClassId} {zs : Nat → Nat} {w : mh_w} {x0 : Nat} {g : st_G} (hR : rC dA zs w x0 g) (hG : sg_ok g) {j : Nat} (hj : j < sg_n g) {q9 : Nat} (h3 : q9 < 6) : mh_Met l b dC dI dA zs y_MH_intention (mh_rm 8 20 1000) [.ref x0, .int (nI j), .int (nI q9)] w (mh_V (some (.int (nI (sp_tell (sg_lg g j) (nI q9))))) (fun w' => rC dA zs w' x0 g ∧ mh_C w w')) := by
  have hR2 := hR
  obtain ⟨aL, aS, aD, aV, sv, dr, vw, lg, hP⟩ := hR
  have hP2 := hP
  obtain ⟨r0, rLg, r3, r10, r11, rs, rv, rd, rl⟩ := hP2
  obtain ⟨mc, ar, r1, rAr⟩ := rLg
  have hG2 := hG
  obtain ⟨gn, grs, gat, glo, gdr⟩ := hG2
  refine mh_ofW (cc := b_MH_intention) (n := 3) (ret := (some .int)) (hs := []) (by decide) k618 ?_
  intro p e s m below meth c hx hb hr hml hown hts hlocks hnm hT hOK hadm
  have K0 : mh_K0 p s m ([.ref x0, .int (nI j), .int (nI q9)]).toArray c "MeldHost" b_MH_intention dC dI dA := ⟨hx, hb, hown, hts, hOK.1, hOK.2.1⟩
  have hX := hOK.2.2.2.2
  have hb0 := hOK.2.2.2.1
  have hS : va_S (mh_A b) s.heap s.heap [] := va_S.rf
  have hl := lv_entry ([.ref x0, .int (nI j), .int (nI q9)]) (n := 3) (Nat.le_of_ble_eq_true rfl)
  rw [lg_entry_eq]
  generalize (lg_sl ([.ref x0, .int (nI j), .int (nI q9)]) ++ List.replicate (3 - (lg_sl ([.ref x0, .int (nI j), .int (nI q9)])).length) Slot.unset).toArray = ls at hl ⊢
  have hl : lv_has ls 3 [(0, .ref x0), (1, .int (nI j)), (2, .int (nI q9))] := hl
  obtain ⟨yy, hy1, hy2⟩ := rl j hj
  obtain ⟨ix, cap, ga, q1, q2, q3, q4⟩ := rAr.in hj
  obtain ⟨d1, d3, d4, d5, d6, d7, j0⟩ := hy2.fst
  refine lv_iload_n hx hb d_MH_intention_0 rfl (lv_at hl 2 rfl) ?_
  refine lv_bipush (v := nI 6) hx hb d_MH_intention_1 (by decide) ?_
  refine mh_callR (mh_sS (rest := []) (av := [.int (nI q9), .int (nI 6)]) K0 e_MH_needBelow l_MH_40 k144 rfl rfl d_MH_intention_3) (c_MH_needBelow h3 (by decide)) K0 hOK hml hl.1 e_MH_needBelow hX hS d_MH_intention_3 (Nat.le_of_ble_eq_true rfl) (Nat.le_of_ble_eq_true rfl) (Nat.le_of_ble_eq_true rfl) (Nat.le_of_ble_eq_true rfl) (Nat.le_of_ble_eq_true rfl) (fun H locs hX hS => ?_)
  refine W.eq (g2 := F0 m 6 ls []) rfl ?_
  refine lv_aload_n hx hb d_MH_intention_6 rfl (lv_at hl 0 rfl) ?_
  refine lv_iload_n hx hb d_MH_intention_7 rfl (lv_at hl 1 rfl) ?_
  refine mh_callR (mh_sV (rest := []) (av := [.int (nI j)]) K0 hX r0 rfl e_MH_logged l_MH_149 k609 kp13 rfl rfl d_MH_intention_8) (c_MH_logged r0 r1 (by omega) q3 q2 q1 hj (q4.trans hy1) j0) K0 hOK hml hl.1 e_MH_logged hX hS d_MH_intention_8 (Nat.le_of_ble_eq_true rfl) (Nat.le_of_ble_eq_true rfl) (Nat.le_of_ble_eq_true rfl) (Nat.le_of_ble_eq_true rfl) (Nat.le_of_ble_eq_true rfl) (fun H locs hX hS => ?_)
  refine W.eq (g2 := F0 m 11 ls [.ref yy]) rfl ?_
  refine lv_iload_n hx hb d_MH_intention_11 rfl (lv_at hl 2 rfl) ?_
  refine mh_callR (mh_sV (rest := []) (av := [.int (nI q9)]) K0 hX j0 rfl e_IN_tell l_MH_152 k620 k621 rfl rfl d_MH_intention_12) (c_IN_tell hy2 (glo j hj) h3) K0 hOK hml hl.1 e_IN_tell hX hS d_MH_intention_12 (Nat.le_of_ble_eq_true rfl) (Nat.le_of_ble_eq_true rfl) (Nat.le_of_ble_eq_true rfl) (Nat.le_of_ble_eq_true rfl) (Nat.le_of_ble_eq_true rfl) (fun H locs hX hS => ?_)
  refine W.eq (g2 := F0 m 15 ls [.int (nI (sp_tell (sg_lg g j) (nI q9)))]) rfl ?_
  exact mh_iret K0 hr rfl hlocks hX hS (⟨rfl, hR2, fun _ _ _ _ => rfl⟩) (Nat.le_of_ble_eq_true rfl) (Nat.le_of_ble_eq_true rfl) d_MH_intention_15
set_option maxHeartbeats 4000000 in
set_option maxRecDepth 100000 in
theorem c_MH_intention_2 {l : Launch} {b : Nat} {dC : Nat → ClassId} {dI : Nat → Nat → Nat} {dA : Nat → ClassId} {zs : Nat → Nat} {w : mh_w} (hl0 : l.stackTraces = false) {x0 : Nat} {g : st_G} (hR : rC dA zs w x0 g) (hG : sg_ok g) {q9 : Nat} (h3 : q9 < 6) {v : Int32} (hv : st_in v (sg_n g) = false) : mh_Met l b dC dI dA zs y_MH_intention (mh_rm 8 20 1000) [.ref x0, .int v, .int (nI q9)] w (mh_T 10 (fun w' => rC dA zs w' x0 g ∧ mh_C w w')) := by
  have hR2 := hR
  obtain ⟨aL, aS, aD, aV, sv, dr, vw, lg, hP⟩ := hR
  have hP2 := hP
  obtain ⟨r0, rLg, r3, r10, r11, rs, rv, rd, rl⟩ := hP2
  obtain ⟨mc, ar, r1, rAr⟩ := rLg
  have hG2 := hG
  obtain ⟨gn, grs, gat, glo, gdr⟩ := hG2
  refine mh_ofW (cc := b_MH_intention) (n := 3) (ret := (some .int)) (hs := []) (by decide) k618 ?_
  intro p e s m below meth c hx hb hr hml hown hts hlocks hnm hT hOK hadm
  have K0 : mh_K0 p s m ([.ref x0, .int v, .int (nI q9)]).toArray c "MeldHost" b_MH_intention dC dI dA := ⟨hx, hb, hown, hts, hOK.1, hOK.2.1⟩
  have hX := hOK.2.2.2.2
  have hb0 := hOK.2.2.2.1
  have hS : va_S (mh_A b) s.heap s.heap [] := va_S.rf
  have hl := lv_entry ([.ref x0, .int v, .int (nI q9)]) (n := 3) (Nat.le_of_ble_eq_true rfl)
  rw [lg_entry_eq]
  generalize (lg_sl ([.ref x0, .int v, .int (nI q9)]) ++ List.replicate (3 - (lg_sl ([.ref x0, .int v, .int (nI q9)])).length) Slot.unset).toArray = ls at hl ⊢
  have hl : lv_has ls 3 [(0, .ref x0), (1, .int v), (2, .int (nI q9))] := hl
  refine lv_iload_n hx hb d_MH_intention_0 rfl (lv_at hl 2 rfl) ?_
  refine lv_bipush (v := nI 6) hx hb d_MH_intention_1 (by decide) ?_
  refine mh_callR (mh_sS (rest := []) (av := [.int (nI q9), .int (nI 6)]) K0 e_MH_needBelow l_MH_40 k144 rfl rfl d_MH_intention_3) (c_MH_needBelow h3 (by decide)) K0 hOK hml hl.1 e_MH_needBelow hX hS d_MH_intention_3 (Nat.le_of_ble_eq_true rfl) (Nat.le_of_ble_eq_true rfl) (Nat.le_of_ble_eq_true rfl) (Nat.le_of_ble_eq_true rfl) (Nat.le_of_ble_eq_true rfl) (fun H locs hX hS => ?_)
  refine W.eq (g2 := F0 m 6 ls []) rfl ?_
  refine lv_aload_n hx hb d_MH_intention_6 rfl (lv_at hl 0 rfl) ?_
  refine lv_iload_n hx hb d_MH_intention_7 rfl (lv_at hl 1 rfl) ?_
  refine mh_callT (mh_sV (rest := []) (av := [.int v]) K0 hX r0 rfl e_MH_logged l_MH_149 k609 kp13 rfl rfl d_MH_intention_8) (c_MH_logged_no hl0 r0 r1 (by omega) hv) K0 hOK hml hl.1 e_MH_logged hX hS d_MH_intention_8 (Nat.le_of_ble_eq_true rfl) (Nat.le_of_ble_eq_true rfl) (Nat.le_of_ble_eq_true rfl) (Nat.le_of_ble_eq_true rfl) (Nat.le_of_ble_eq_true rfl) (fun q w1 H locs hq hw hX hS => ?_)
  exact mh_leave hlocks hT hX hS (⟨q, rfl, hq, hR2.x hw, hw.C⟩) (Nat.le_of_ble_eq_true rfl) (Nat.le_of_ble_eq_true rfl)
set_option maxHeartbeats 4000000 in
set_option maxRecDepth 100000 in
theorem c_MH_count_0 {l : Launch} {b : Nat} {dC : Nat → ClassId} {dI : Nat → Nat → Nat} {dA : Nat → ClassId} {zs : Nat → Nat} {w : mh_w} {x0 : Nat} {g : st_G} (hR : rC dA zs w x0 g) (hG : sg_ok g) {v1 v2 : Int32} : mh_Met l b dC dI dA zs y_MH_count (mh_rm 8 20 1000) [.ref x0, .int (nI 0), .int v1, .int v2] w (mh_V (some (.int (nI (sg_n g)))) (fun w' => rC dA zs w' x0 g ∧ mh_C w w')) := by
  have hR2 := hR
  obtain ⟨aL, aS, aD, aV, sv, dr, vw, lg, hP⟩ := hR
  have hP2 := hP
  obtain ⟨r0, rLg, r3, r10, r11, rs, rv, rd, rl⟩ := hP2
  obtain ⟨mc, ar, r1, rAr⟩ := rLg
  have hG2 := hG
  obtain ⟨gn, grs, gat, glo, gdr⟩ := hG2
  refine mh_ofW (cc := b_MH_count) (n := 4) (ret := (some .int)) (hs := []) (by decide) k639 ?_
  intro p e s m below meth c hx hb hr hml hown hts hlocks hnm hT hOK hadm
  have K0 : mh_K0 p s m ([.ref x0, .int (nI 0), .int v1, .int v2]).toArray c "MeldHost" b_MH_count dC dI dA := ⟨hx, hb, hown, hts, hOK.1, hOK.2.1⟩
  have hX := hOK.2.2.2.2
  have hb0 := hOK.2.2.2.1
  have hS : va_S (mh_A b) s.heap s.heap [] := va_S.rf
  have hl := lv_entry ([.ref x0, .int (nI 0), .int v1, .int v2]) (n := 4) (Nat.le_of_ble_eq_true rfl)
  rw [lg_entry_eq]
  generalize (lg_sl ([.ref x0, .int (nI 0), .int v1, .int v2]) ++ List.replicate (4 - (lg_sl ([.ref x0, .int (nI 0), .int v1, .int v2])).length) Slot.unset).toArray = ls at hl ⊢
  have hl : lv_has ls 4 [(0, .ref x0), (1, .int (nI 0)), (2, .int v1), (3, .int v2)] := hl
  refine lv_iload_n hx hb d_MH_count_0 rfl (lv_at hl 1 rfl) ?_
  refine lv_iconst (v := nI 5) hx hb d_MH_count_1 (by decide) ?_
  refine mh_callR (mh_sS (rest := []) (av := [.int (nI 0), .int (nI 5)]) K0 e_MH_needBelow l_MH_40 k144 rfl rfl d_MH_count_2) (c_MH_needBelow (by decide) (by decide)) K0 hOK hml hl.1 e_MH_needBelow hX hS d_MH_count_2 (Nat.le_of_ble_eq_true rfl) (Nat.le_of_ble_eq_true rfl) (Nat.le_of_ble_eq_true rfl) (Nat.le_of_ble_eq_true rfl) (Nat.le_of_ble_eq_true rfl) (fun H locs hX hS => ?_)
  refine W.eq (g2 := F0 m 5 ls []) rfl ?_
  refine lv_iload_n hx hb d_MH_count_5 rfl (lv_at hl 1 rfl) ?_
  refine mh_if_ne (tgt := 17) hx hb (by omega) d_MH_count_6 (by decide) (fun z => absurd z (by omega)) (fun _ => ?_)
  refine lv_aload_n hx hb d_MH_count_9 rfl (lv_at hl 0 rfl) ?_
  refine mh_get K0 hX r0 f_MH_10 rfl d_MH_count_10 ?_
  refine mh_callR (mh_sV (rest := []) (av := []) K0 hX r1 rfl e_AL_size l_MH_109 k448 k449 rfl rfl d_MH_count_13) (c_AL_size r1) K0 hOK hml hl.1 e_AL_size hX hS d_MH_count_13 (Nat.le_of_ble_eq_true rfl) (Nat.le_of_ble_eq_true rfl) (Nat.le_of_ble_eq_true rfl) (Nat.le_of_ble_eq_true rfl) (Nat.le_of_ble_eq_true rfl) (fun H locs hX hS => ?_)
  refine W.eq (g2 := F0 m 16 ls [.int (nI (sg_n g))]) rfl ?_
  exact mh_iret K0 hr rfl hlocks hX hS (⟨rfl, hR2, fun _ _ _ _ => rfl⟩) (Nat.le_of_ble_eq_true rfl) (Nat.le_of_ble_eq_true rfl) d_MH_count_16
set_option maxHeartbeats 4000000 in
set_option maxRecDepth 100000 in
theorem c_MH_count_01 {l : Launch} {b : Nat} {dC : Nat → ClassId} {dI : Nat → Nat → Nat} {dA : Nat → ClassId} {zs : Nat → Nat} {w : mh_w} {x0 : Nat} {g : st_G} (hR : rC dA zs w x0 g) (hG : sg_ok g) {v1 v2 : Int32} : mh_Met l b dC dI dA zs y_MH_count (mh_rm 8 20 1000) [.ref x0, .int (nI 1), .int v1, .int v2] w (mh_V (some (.int (nI (pb_cnt (fun t => (sg_dr g t).isSome) 16)))) (fun w' => rC dA zs w' x0 g ∧ mh_C w w')) := by
  have hR2 := hR
  obtain ⟨aL, aS, aD, aV, sv, dr, vw, lg, hP⟩ := hR
  have hP2 := hP
  obtain ⟨r0, rLg, r3, r10, r11, rs, rv, rd, rl⟩ := hP2
  obtain ⟨mc, ar, r1, rAr⟩ := rLg
  have hG2 := hG
  obtain ⟨gn, grs, gat, glo, gdr⟩ := hG2
  refine mh_ofW (cc := b_MH_count) (n := 4) (ret := (some .int)) (hs := []) (by decide) k639 ?_
  intro p e s m below meth c hx hb hr hml hown hts hlocks hnm hT hOK hadm
  have K0 : mh_K0 p s m ([.ref x0, .int (nI 1), .int v1, .int v2]).toArray c "MeldHost" b_MH_count dC dI dA := ⟨hx, hb, hown, hts, hOK.1, hOK.2.1⟩
  have hX := hOK.2.2.2.2
  have hb0 := hOK.2.2.2.1
  have hS : va_S (mh_A b) s.heap s.heap [] := va_S.rf
  have hl := lv_entry ([.ref x0, .int (nI 1), .int v1, .int v2]) (n := 4) (Nat.le_of_ble_eq_true rfl)
  rw [lg_entry_eq]
  generalize (lg_sl ([.ref x0, .int (nI 1), .int v1, .int v2]) ++ List.replicate (4 - (lg_sl ([.ref x0, .int (nI 1), .int v1, .int v2])).length) Slot.unset).toArray = ls at hl ⊢
  have hl : lv_has ls 4 [(0, .ref x0), (1, .int (nI 1)), (2, .int v1), (3, .int v2)] := hl
  refine lv_iload_n hx hb d_MH_count_0 rfl (lv_at hl 1 rfl) ?_
  refine lv_iconst (v := nI 5) hx hb d_MH_count_1 (by decide) ?_
  refine mh_callR (mh_sS (rest := []) (av := [.int (nI 1), .int (nI 5)]) K0 e_MH_needBelow l_MH_40 k144 rfl rfl d_MH_count_2) (c_MH_needBelow (by decide) (by decide)) K0 hOK hml hl.1 e_MH_needBelow hX hS d_MH_count_2 (Nat.le_of_ble_eq_true rfl) (Nat.le_of_ble_eq_true rfl) (Nat.le_of_ble_eq_true rfl) (Nat.le_of_ble_eq_true rfl) (Nat.le_of_ble_eq_true rfl) (fun H locs hX hS => ?_)
  refine W.eq (g2 := F0 m 5 ls []) rfl ?_
  refine lv_iload_n hx hb d_MH_count_5 rfl (lv_at hl 1 rfl) ?_
  refine mh_if_ne (tgt := 17) hx hb (by omega) d_MH_count_6 (by decide) (fun _ => ?_) (fun z => absurd z (by omega))
  refine lv_iload_n hx hb d_MH_count_17 rfl (lv_at hl 1 rfl) ?_
  refine lv_iconst (v := nI 1) hx hb d_MH_count_18 (by decide) ?_
  refine mh_icmp_ne (tgt := 27) hx hb (by omega) (by omega) d_MH_count_19 (by decide) (fun z => absurd z (by omega)) (fun _ => ?_)
  refine lv_aload_n hx hb d_MH_count_22 rfl (lv_at hl 0 rfl) ?_
  refine mh_callR (mh_sV (rest := []) (av := []) K0 hX r0 rfl e_MH_howManyOpen l_MH_155 k642 kp14 rfl rfl d_MH_count_23) (c_MH_howManyOpen r0 r10) K0 hOK hml hl.1 e_MH_howManyOpen hX hS d_MH_count_23 (Nat.le_of_ble_eq_true rfl) (Nat.le_of_ble_eq_true rfl) (Nat.le_of_ble_eq_true rfl) (Nat.le_of_ble_eq_true rfl) (Nat.le_of_ble_eq_true rfl) (fun H locs hX hS => ?_)
  refine W.eq (g2 := F0 m 26 ls [.int (nI (pb_cnt (fun t => (dr t).isSome) 16))]) rfl ?_
  exact mh_iret K0 hr rfl hlocks hX hS (⟨by rw [pb_cnt_congr (g := fun t => (sg_dr g t).isSome) (fun t ht => by
      cases e9 : sg_dr g t with
      | none => rw [(rd t ht).none e9]; rfl
      | some x => obtain ⟨y, hy, -⟩ := (rd t ht).some e9; rw [hy]; rfl)], hR2, fun _ _ _ _ => rfl⟩) (Nat.le_of_ble_eq_true rfl) (Nat.le_of_ble_eq_true rfl) d_MH_count_26
set_option maxHeartbeats 4000000 in
set_option maxRecDepth 100000 in
theorem c_MH_count_02 {l : Launch} {b : Nat} {dC : Nat → ClassId} {dI : Nat → Nat → Nat} {dA : Nat → ClassId} {zs : Nat → Nat} {w : mh_w} {x0 : Nat} {g : st_G} (hR : rC dA zs w x0 g) (hG : sg_ok g) {u : Nat} (hu : u < 4) {v2 : Int32} : mh_Met l b dC dI dA zs y_MH_count (mh_rm 8 20 1000) [.ref x0, .int (nI 2), .int (nI u), .int v2] w (mh_V (some (.int (nI (sg_at g u)))) (fun w' => rC dA zs w' x0 g ∧ mh_C w w')) := by
  have hR2 := hR
  obtain ⟨aL, aS, aD, aV, sv, dr, vw, lg, hP⟩ := hR
  have hP2 := hP
  obtain ⟨r0, rLg, r3, r10, r11, rs, rv, rd, rl⟩ := hP2
  obtain ⟨mc, ar, r1, rAr⟩ := rLg
  have hG2 := hG
  obtain ⟨gn, grs, gat, glo, gdr⟩ := hG2
  refine mh_ofW (cc := b_MH_count) (n := 4) (ret := (some .int)) (hs := []) (by decide) k639 ?_
  intro p e s m below meth c hx hb hr hml hown hts hlocks hnm hT hOK hadm
  have K0 : mh_K0 p s m ([.ref x0, .int (nI 2), .int (nI u), .int v2]).toArray c "MeldHost" b_MH_count dC dI dA := ⟨hx, hb, hown, hts, hOK.1, hOK.2.1⟩
  have hX := hOK.2.2.2.2
  have hb0 := hOK.2.2.2.1
  have hS : va_S (mh_A b) s.heap s.heap [] := va_S.rf
  have hl := lv_entry ([.ref x0, .int (nI 2), .int (nI u), .int v2]) (n := 4) (Nat.le_of_ble_eq_true rfl)
  rw [lg_entry_eq]
  generalize (lg_sl ([.ref x0, .int (nI 2), .int (nI u), .int v2]) ++ List.replicate (4 - (lg_sl ([.ref x0, .int (nI 2), .int (nI u), .int v2])).length) Slot.unset).toArray = ls at hl ⊢
  have hl : lv_has ls 4 [(0, .ref x0), (1, .int (nI 2)), (2, .int (nI u)), (3, .int v2)] := hl
  obtain ⟨au, hs1, hs2⟩ := rs u hu
  have hs3 := hs2
  obtain ⟨a5, a9, f9, s0, sN, s9, sf⟩ := hs2
  obtain ⟨n1, n3, sn0⟩ := sN.fst
  refine lv_iload_n hx hb d_MH_count_0 rfl (lv_at hl 1 rfl) ?_
  refine lv_iconst (v := nI 5) hx hb d_MH_count_1 (by decide) ?_
  refine mh_callR (mh_sS (rest := []) (av := [.int (nI 2), .int (nI 5)]) K0 e_MH_needBelow l_MH_40 k144 rfl rfl d_MH_count_2) (c_MH_needBelow (by decide) (by decide)) K0 hOK hml hl.1 e_MH_needBelow hX hS d_MH_count_2 (Nat.le_of_ble_eq_true rfl) (Nat.le_of_ble_eq_true rfl) (Nat.le_of_ble_eq_true rfl) (Nat.le_of_ble_eq_true rfl) (Nat.le_of_ble_eq_true rfl) (fun H locs hX hS => ?_)
  refine W.eq (g2 := F0 m 5 ls []) rfl ?_
  refine lv_iload_n hx hb d_MH_count_5 rfl (lv_at hl 1 rfl) ?_
  refine mh_if_ne (tgt := 17) hx hb (by omega) d_MH_count_6 (by decide) (fun _ => ?_) (fun z => absurd z (by omega))
  refine lv_iload_n hx hb d_MH_count_17 rfl (lv_at hl 1 rfl) ?_
  refine lv_iconst (v := nI 1) hx hb d_MH_count_18 (by decide) ?_
  refine mh_icmp_ne (tgt := 27) hx hb (by omega) (by omega) d_MH_count_19 (by decide) (fun _ => ?_) (fun z => absurd z (by omega))
  refine lv_iload_n hx hb d_MH_count_27 rfl (lv_at hl 2 rfl) ?_
  refine lv_iconst (v := nI 4) hx hb d_MH_count_28 (by decide) ?_
  refine mh_callR (mh_sS (rest := []) (av := [.int (nI u), .int (nI 4)]) K0 e_MH_needBelow l_MH_40 k144 rfl rfl d_MH_count_29) (c_MH_needBelow hu (by decide)) K0 hOK hml hl.1 e_MH_needBelow hX hS d_MH_count_29 (Nat.le_of_ble_eq_true rfl) (Nat.le_of_ble_eq_true rfl) (Nat.le_of_ble_eq_true rfl) (Nat.le_of_ble_eq_true rfl) (Nat.le_of_ble_eq_true rfl) (fun H locs hX hS => ?_)
  refine W.eq (g2 := F0 m 32 ls []) rfl ?_
  refine lv_iload_n hx hb d_MH_count_32 rfl (lv_at hl 1 rfl) ?_
  refine lv_iconst (v := nI 2) hx hb d_MH_count_33 (by decide) ?_
  refine mh_icmp_ne (tgt := 47) hx hb (by omega) (by omega) d_MH_count_34 (by decide) (fun z => absurd z (by omega)) (fun _ => ?_)
  refine lv_aload_n hx hb d_MH_count_37 rfl (lv_at hl 0 rfl) ?_
  refine mh_get K0 hX r0 f_MH_18 rfl d_MH_count_38 ?_
  refine lv_iload_n hx hb d_MH_count_41 rfl (lv_at hl 2 rfl) ?_
  refine mh_aaldN 4 rfl K0 hX r3 (by omega) (by omega) (r := (some au)) (hs1) d_MH_count_42 ?_
  refine W.eq (g2 := F0 m 43 ls [.ref au]) rfl ?_
  refine mh_get K0 hX s0 f_MH_51 rfl d_MH_count_43 ?_
  exact mh_iret K0 hr rfl hlocks hX hS (⟨rfl, hR2, fun _ _ _ _ => rfl⟩) (Nat.le_of_ble_eq_true rfl) (Nat.le_of_ble_eq_true rfl) d_MH_count_46
set_option maxHeartbeats 4000000 in
set_option maxRecDepth 100000 in
theorem c_MH_count_03 {l : Launch} {b : Nat} {dC : Nat → ClassId} {dI : Nat → Nat → Nat} {dA : Nat → ClassId} {zs : Nat → Nat} {w : mh_w} {x0 : Nat} {g : st_G} (hR : rC dA zs w x0 g) (hG : sg_ok g) {u : Nat} (hu : u < 4) {v2 : Int32} : mh_Met l b dC dI dA zs y_MH_count (mh_rm 8 20 1000) [.ref x0, .int (nI 3), .int (nI u), .int v2] w (mh_V (some (.int (nI (pb_cnt (fun i => iv_gd (sg_lg g i)) (sg_at g u))))) (fun w' => rC dA zs w' x0 g ∧ mh_C w w')) := by
  have hR2 := hR
  obtain ⟨aL, aS, aD, aV, sv, dr, vw, lg, hP⟩ := hR
  have hP2 := hP
  obtain ⟨r0, rLg, r3, r10, r11, rs, rv, rd, rl⟩ := hP2
  obtain ⟨mc, ar, r1, rAr⟩ := rLg
  have hG2 := hG
  obtain ⟨gn, grs, gat, glo, gdr⟩ := hG2
  refine mh_ofW (cc := b_MH_count) (n := 4) (ret := (some .int)) (hs := []) (by decide) k639 ?_
  intro p e s m below meth c hx hb hr hml hown hts hlocks hnm hT hOK hadm
  have K0 : mh_K0 p s m ([.ref x0, .int (nI 3), .int (nI u), .int v2]).toArray c "MeldHost" b_MH_count dC dI dA := ⟨hx, hb, hown, hts, hOK.1, hOK.2.1⟩
  have hX := hOK.2.2.2.2
  have hb0 := hOK.2.2.2.1
  have hS : va_S (mh_A b) s.heap s.heap [] := va_S.rf
  have hl := lv_entry ([.ref x0, .int (nI 3), .int (nI u), .int v2]) (n := 4) (Nat.le_of_ble_eq_true rfl)
  rw [lg_entry_eq]
  generalize (lg_sl ([.ref x0, .int (nI 3), .int (nI u), .int v2]) ++ List.replicate (4 - (lg_sl ([.ref x0, .int (nI 3), .int (nI u), .int v2])).length) Slot.unset).toArray = ls at hl ⊢
  have hl : lv_has ls 4 [(0, .ref x0), (1, .int (nI 3)), (2, .int (nI u)), (3, .int v2)] := hl
  obtain ⟨au, hs1, hs2⟩ := rs u hu
  have hs3 := hs2
  obtain ⟨a5, a9, f9, s0, sN, s9, sf⟩ := hs2
  obtain ⟨n1, n3, sn0⟩ := sN.fst
  refine lv_iload_n hx hb d_MH_count_0 rfl (lv_at hl 1 rfl) ?_
  refine lv_iconst (v := nI 5) hx hb d_MH_count_1 (by decide) ?_
  refine mh_callR (mh_sS (rest := []) (av := [.int (nI 3), .int (nI 5)]) K0 e_MH_needBelow l_MH_40 k144 rfl rfl d_MH_count_2) (c_MH_needBelow (by decide) (by decide)) K0 hOK hml hl.1 e_MH_needBelow hX hS d_MH_count_2 (Nat.le_of_ble_eq_true rfl) (Nat.le_of_ble_eq_true rfl) (Nat.le_of_ble_eq_true rfl) (Nat.le_of_ble_eq_true rfl) (Nat.le_of_ble_eq_true rfl) (fun H locs hX hS => ?_)
  refine W.eq (g2 := F0 m 5 ls []) rfl ?_
  refine lv_iload_n hx hb d_MH_count_5 rfl (lv_at hl 1 rfl) ?_
  refine mh_if_ne (tgt := 17) hx hb (by omega) d_MH_count_6 (by decide) (fun _ => ?_) (fun z => absurd z (by omega))
  refine lv_iload_n hx hb d_MH_count_17 rfl (lv_at hl 1 rfl) ?_
  refine lv_iconst (v := nI 1) hx hb d_MH_count_18 (by decide) ?_
  refine mh_icmp_ne (tgt := 27) hx hb (by omega) (by omega) d_MH_count_19 (by decide) (fun _ => ?_) (fun z => absurd z (by omega))
  refine lv_iload_n hx hb d_MH_count_27 rfl (lv_at hl 2 rfl) ?_
  refine lv_iconst (v := nI 4) hx hb d_MH_count_28 (by decide) ?_
  refine mh_callR (mh_sS (rest := []) (av := [.int (nI u), .int (nI 4)]) K0 e_MH_needBelow l_MH_40 k144 rfl rfl d_MH_count_29) (c_MH_needBelow hu (by decide)) K0 hOK hml hl.1 e_MH_needBelow hX hS d_MH_count_29 (Nat.le_of_ble_eq_true rfl) (Nat.le_of_ble_eq_true rfl) (Nat.le_of_ble_eq_true rfl) (Nat.le_of_ble_eq_true rfl) (Nat.le_of_ble_eq_true rfl) (fun H locs hX hS => ?_)
  refine W.eq (g2 := F0 m 32 ls []) rfl ?_
  refine lv_iload_n hx hb d_MH_count_32 rfl (lv_at hl 1 rfl) ?_
  refine lv_iconst (v := nI 2) hx hb d_MH_count_33 (by decide) ?_
  refine mh_icmp_ne (tgt := 47) hx hb (by omega) (by omega) d_MH_count_34 (by decide) (fun _ => ?_) (fun z => absurd z (by omega))
  refine lv_iload_n hx hb d_MH_count_47 rfl (lv_at hl 1 rfl) ?_
  refine lv_iconst (v := nI 3) hx hb d_MH_count_48 (by decide) ?_
  refine mh_icmp_ne (tgt := 62) hx hb (by omega) (by omega) d_MH_count_49 (by decide) (fun z => absurd z (by omega)) (fun _ => ?_)
  refine lv_aload_n hx hb d_MH_count_52 rfl (lv_at hl 0 rfl) ?_
  refine mh_get K0 hX r0 f_MH_18 rfl d_MH_count_53 ?_
  refine lv_iload_n hx hb d_MH_count_56 rfl (lv_at hl 2 rfl) ?_
  refine mh_aaldN 4 rfl K0 hX r3 (by omega) (by omega) (r := (some au)) (hs1) d_MH_count_57 ?_
  refine W.eq (g2 := F0 m 58 ls [.ref au]) rfl ?_
  refine mh_get K0 hX s0 f_MH_158 rfl d_MH_count_58 ?_
  exact mh_iret K0 hr rfl hlocks hX hS (⟨rfl, hR2, fun _ _ _ _ => rfl⟩) (Nat.le_of_ble_eq_true rfl) (Nat.le_of_ble_eq_true rfl) d_MH_count_61
set_option maxHeartbeats 4000000 in
set_option maxRecDepth 100000 in
theorem c_MH_count_04 {l : Launch} {b : Nat} {dC : Nat → ClassId} {dI : Nat → Nat → Nat} {dA : Nat → ClassId} {zs : Nat → Nat} {w : mh_w} {x0 : Nat} {g : st_G} (hR : rC dA zs w x0 g) (hG : sg_ok g) {u : Nat} (hu : u < 4) {key : Nat} (hk : key < 256) : mh_Met l b dC dI dA zs y_MH_count (mh_rm 8 20 1000) [.ref x0, .int (nI 4), .int (nI u), .int (nI key)] w (mh_V (some (.int (st_lw (sg_lg g) key (sg_at g u)))) (fun w' => rC dA zs w' x0 g ∧ mh_C w w')) := by
  have hR2 := hR
  obtain ⟨aL, aS, aD, aV, sv, dr, vw, lg, hP⟩ := hR
  have hP2 := hP
  obtain ⟨r0, rLg, r3, r10, r11, rs, rv, rd, rl⟩ := hP2
  obtain ⟨mc, ar, r1, rAr⟩ := rLg
  have hG2 := hG
  obtain ⟨gn, grs, gat, glo, gdr⟩ := hG2
  refine mh_ofW (cc := b_MH_count) (n := 4) (ret := (some .int)) (hs := []) (by decide) k639 ?_
  intro p e s m below meth c hx hb hr hml hown hts hlocks hnm hT hOK hadm
  have K0 : mh_K0 p s m ([.ref x0, .int (nI 4), .int (nI u), .int (nI key)]).toArray c "MeldHost" b_MH_count dC dI dA := ⟨hx, hb, hown, hts, hOK.1, hOK.2.1⟩
  have hX := hOK.2.2.2.2
  have hb0 := hOK.2.2.2.1
  have hS : va_S (mh_A b) s.heap s.heap [] := va_S.rf
  have hl := lv_entry ([.ref x0, .int (nI 4), .int (nI u), .int (nI key)]) (n := 4) (Nat.le_of_ble_eq_true rfl)
  rw [lg_entry_eq]
  generalize (lg_sl ([.ref x0, .int (nI 4), .int (nI u), .int (nI key)]) ++ List.replicate (4 - (lg_sl ([.ref x0, .int (nI 4), .int (nI u), .int (nI key)])).length) Slot.unset).toArray = ls at hl ⊢
  have hl : lv_has ls 4 [(0, .ref x0), (1, .int (nI 4)), (2, .int (nI u)), (3, .int (nI key))] := hl
  obtain ⟨au, hs1, hs2⟩ := rs u hu
  have hs3 := hs2
  obtain ⟨a5, a9, f9, s0, sN, s9, sf⟩ := hs2
  obtain ⟨n1, n3, sn0⟩ := sN.fst
  refine lv_iload_n hx hb d_MH_count_0 rfl (lv_at hl 1 rfl) ?_
  refine lv_iconst (v := nI 5) hx hb d_MH_count_1 (by decide) ?_
  refine mh_callR (mh_sS (rest := []) (av := [.int (nI 4), .int (nI 5)]) K0 e_MH_needBelow l_MH_40 k144 rfl rfl d_MH_count_2) (c_MH_needBelow (by decide) (by decide)) K0 hOK hml hl.1 e_MH_needBelow hX hS d_MH_count_2 (Nat.le_of_ble_eq_true rfl) (Nat.le_of_ble_eq_true rfl) (Nat.le_of_ble_eq_true rfl) (Nat.le_of_ble_eq_true rfl) (Nat.le_of_ble_eq_true rfl) (fun H locs hX hS => ?_)
  refine W.eq (g2 := F0 m 5 ls []) rfl ?_
  refine lv_iload_n hx hb d_MH_count_5 rfl (lv_at hl 1 rfl) ?_
  refine mh_if_ne (tgt := 17) hx hb (by omega) d_MH_count_6 (by decide) (fun _ => ?_) (fun z => absurd z (by omega))
  refine lv_iload_n hx hb d_MH_count_17 rfl (lv_at hl 1 rfl) ?_
  refine lv_iconst (v := nI 1) hx hb d_MH_count_18 (by decide) ?_
  refine mh_icmp_ne (tgt := 27) hx hb (by omega) (by omega) d_MH_count_19 (by decide) (fun _ => ?_) (fun z => absurd z (by omega))
  refine lv_iload_n hx hb d_MH_count_27 rfl (lv_at hl 2 rfl) ?_
  refine lv_iconst (v := nI 4) hx hb d_MH_count_28 (by decide) ?_
  refine mh_callR (mh_sS (rest := []) (av := [.int (nI u), .int (nI 4)]) K0 e_MH_needBelow l_MH_40 k144 rfl rfl d_MH_count_29) (c_MH_needBelow hu (by decide)) K0 hOK hml hl.1 e_MH_needBelow hX hS d_MH_count_29 (Nat.le_of_ble_eq_true rfl) (Nat.le_of_ble_eq_true rfl) (Nat.le_of_ble_eq_true rfl) (Nat.le_of_ble_eq_true rfl) (Nat.le_of_ble_eq_true rfl) (fun H locs hX hS => ?_)
  refine W.eq (g2 := F0 m 32 ls []) rfl ?_
  refine lv_iload_n hx hb d_MH_count_32 rfl (lv_at hl 1 rfl) ?_
  refine lv_iconst (v := nI 2) hx hb d_MH_count_33 (by decide) ?_
  refine mh_icmp_ne (tgt := 47) hx hb (by omega) (by omega) d_MH_count_34 (by decide) (fun _ => ?_) (fun z => absurd z (by omega))
  refine lv_iload_n hx hb d_MH_count_47 rfl (lv_at hl 1 rfl) ?_
  refine lv_iconst (v := nI 3) hx hb d_MH_count_48 (by decide) ?_
  refine mh_icmp_ne (tgt := 62) hx hb (by omega) (by omega) d_MH_count_49 (by decide) (fun _ => ?_) (fun z => absurd z (by omega))
  refine lv_iload_n hx hb d_MH_count_62 rfl (lv_at hl 3 rfl) ?_
  refine lv_sipush (v := nI 256) hx hb d_MH_count_63 (by decide) ?_
  refine mh_callR (mh_sS (rest := []) (av := [.int (nI key), .int (nI 256)]) K0 e_MH_needBelow l_MH_40 k144 rfl rfl d_MH_count_66) (c_MH_needBelow hk (by decide)) K0 hOK hml hl.1 e_MH_needBelow hX hS d_MH_count_66 (Nat.le_of_ble_eq_true rfl) (Nat.le_of_ble_eq_true rfl) (Nat.le_of_ble_eq_true rfl) (Nat.le_of_ble_eq_true rfl) (Nat.le_of_ble_eq_true rfl) (fun H locs hX hS => ?_)
  refine W.eq (g2 := F0 m 69 ls []) rfl ?_
  refine lv_aload_n hx hb d_MH_count_69 rfl (lv_at hl 0 rfl) ?_
  refine mh_get K0 hX r0 f_MH_18 rfl d_MH_count_70 ?_
  refine lv_iload_n hx hb d_MH_count_73 rfl (lv_at hl 2 rfl) ?_
  refine mh_aaldN 4 rfl K0 hX r3 (by omega) (by omega) (r := (some au)) (hs1) d_MH_count_74 ?_
  refine W.eq (g2 := F0 m 75 ls [.ref au]) rfl ?_
  refine mh_get K0 hX s0 f_MH_161 rfl d_MH_count_75 ?_
  refine lv_iload_n hx hb d_MH_count_78 rfl (lv_at hl 3 rfl) ?_
  refine mh_ialdN K0 hX s9 (by omega) (by omega) d_MH_count_79 ?_
  exact mh_iret K0 hr rfl hlocks hX hS (⟨by rw [sf key hk], hR2, fun _ _ _ _ => rfl⟩) (Nat.le_of_ble_eq_true rfl) (Nat.le_of_ble_eq_true rfl) d_MH_count_80
set_option maxHeartbeats 4000000 in
set_option maxRecDepth 100000 in
theorem c_MH_count_11 {l : Launch} {b : Nat} {dC : Nat → ClassId} {dI : Nat → Nat → Nat} {dA : Nat → ClassId} {zs : Nat → Nat} {w : mh_w} (hl0 : l.stackTraces = false) {x0 : Nat} {g : st_G} (hR : rC dA zs w x0 g) (hG : sg_ok g) {q9 : Nat} (h3 : 2 ≤ q9) (h5 : q9 < 5) {v1 v2 : Int32} (hv : st_in v1 4 = false) : mh_Met l b dC dI dA zs y_MH_count (mh_rm 8 20 1000) [.ref x0, .int (nI q9), .int v1, .int v2] w (mh_T 8 (fun w' => rC dA zs w' x0 g ∧ mh_C w w')) := by
  have hR2 := hR
  obtain ⟨aL, aS, aD, aV, sv, dr, vw, lg, hP⟩ := hR
  have hP2 := hP
  obtain ⟨r0, rLg, r3, r10, r11, rs, rv, rd, rl⟩ := hP2
  obtain ⟨mc, ar, r1, rAr⟩ := rLg
  have hG2 := hG
  obtain ⟨gn, grs, gat, glo, gdr⟩ := hG2
  refine mh_ofW (cc := b_MH_count) (n := 4) (ret := (some .int)) (hs := []) (by decide) k639 ?_
  intro p e s m below meth c hx hb hr hml hown hts hlocks hnm hT hOK hadm
  have K0 : mh_K0 p s m ([.ref x0, .int (nI q9), .int v1, .int v2]).toArray c "MeldHost" b_MH_count dC dI dA := ⟨hx, hb, hown, hts, hOK.1, hOK.2.1⟩
  have hX := hOK.2.2.2.2
  have hb0 := hOK.2.2.2.1
  have hS : va_S (mh_A b) s.heap s.heap [] := va_S.rf
  have hl := lv_entry ([.ref x0, .int (nI q9), .int v1, .int v2]) (n := 4) (Nat.le_of_ble_eq_true rfl)
  rw [lg_entry_eq]
  generalize (lg_sl ([.ref x0, .int (nI q9), .int v1, .int v2]) ++ List.replicate (4 - (lg_sl ([.ref x0, .int (nI q9), .int v1, .int v2])).length) Slot.unset).toArray = ls at hl ⊢
  have hl : lv_has ls 4 [(0, .ref x0), (1, .int (nI q9)), (2, .int v1), (3, .int v2)] := hl
  refine lv_iload_n hx hb d_MH_count_0 rfl (lv_at hl 1 rfl) ?_
  refine lv_iconst (v := nI 5) hx hb d_MH_count_1 (by decide) ?_
  refine mh_callR (mh_sS (rest := []) (av := [.int (nI q9), .int (nI 5)]) K0 e_MH_needBelow l_MH_40 k144 rfl rfl d_MH_count_2) (c_MH_needBelow h5 (by decide)) K0 hOK hml hl.1 e_MH_needBelow hX hS d_MH_count_2 (Nat.le_of_ble_eq_true rfl) (Nat.le_of_ble_eq_true rfl) (Nat.le_of_ble_eq_true rfl) (Nat.le_of_ble_eq_true rfl) (Nat.le_of_ble_eq_true rfl) (fun H locs hX hS => ?_)
  refine W.eq (g2 := F0 m 5 ls []) rfl ?_
  refine lv_iload_n hx hb d_MH_count_5 rfl (lv_at hl 1 rfl) ?_
  refine mh_if_ne (tgt := 17) hx hb (by omega) d_MH_count_6 (by decide) (fun _ => ?_) (fun z => absurd z (by omega))
  refine lv_iload_n hx hb d_MH_count_17 rfl (lv_at hl 1 rfl) ?_
  refine lv_iconst (v := nI 1) hx hb d_MH_count_18 (by decide) ?_
  refine mh_icmp_ne (tgt := 27) hx hb (by omega) (by omega) d_MH_count_19 (by decide) (fun _ => ?_) (fun z => absurd z (by omega))
  refine lv_iload_n hx hb d_MH_count_27 rfl (lv_at hl 2 rfl) ?_
  refine lv_iconst (v := nI 4) hx hb d_MH_count_28 (by decide) ?_
  refine mh_callT (mh_sS (rest := []) (av := [.int v1, .int (nI 4)]) K0 e_MH_needBelow l_MH_40 k144 rfl rfl d_MH_count_29) (c_MH_needBelow_no hl0 hv) K0 hOK hml hl.1 e_MH_needBelow hX hS d_MH_count_29 (Nat.le_of_ble_eq_true rfl) (Nat.le_of_ble_eq_true rfl) (Nat.le_of_ble_eq_true rfl) (Nat.le_of_ble_eq_true rfl) (Nat.le_of_ble_eq_true rfl) (fun q w1 H locs hq hw hX hS => ?_)
  exact mh_leave hlocks hT hX hS (⟨q, rfl, hq, hR2.x hw, hw.C⟩) (Nat.le_of_ble_eq_true rfl) (Nat.le_of_ble_eq_true rfl)
set_option maxHeartbeats 4000000 in
set_option maxRecDepth 100000 in
theorem c_MH_count_12 {l : Launch} {b : Nat} {dC : Nat → ClassId} {dI : Nat → Nat → Nat} {dA : Nat → ClassId} {zs : Nat → Nat} {w : mh_w} (hl0 : l.stackTraces = false) {x0 : Nat} {g : st_G} (hR : rC dA zs w x0 g) (hG : sg_ok g) {u : Nat} (hu : u < 4) {v2 : Int32} (hv : st_in v2 256 = false) : mh_Met l b dC dI dA zs y_MH_count (mh_rm 8 20 1000) [.ref x0, .int (nI 4), .int (nI u), .int v2] w (mh_T 8 (fun w' => rC dA zs w' x0 g ∧ mh_C w w')) := by
  have hR2 := hR
  obtain ⟨aL, aS, aD, aV, sv, dr, vw, lg, hP⟩ := hR
  have hP2 := hP
  obtain ⟨r0, rLg, r3, r10, r11, rs, rv, rd, rl⟩ := hP2
  obtain ⟨mc, ar, r1, rAr⟩ := rLg
  have hG2 := hG
  obtain ⟨gn, grs, gat, glo, gdr⟩ := hG2
  refine mh_ofW (cc := b_MH_count) (n := 4) (ret := (some .int)) (hs := []) (by decide) k639 ?_
  intro p e s m below meth c hx hb hr hml hown hts hlocks hnm hT hOK hadm
  have K0 : mh_K0 p s m ([.ref x0, .int (nI 4), .int (nI u), .int v2]).toArray c "MeldHost" b_MH_count dC dI dA := ⟨hx, hb, hown, hts, hOK.1, hOK.2.1⟩
  have hX := hOK.2.2.2.2
  have hb0 := hOK.2.2.2.1
  have hS : va_S (mh_A b) s.heap s.heap [] := va_S.rf
  have hl := lv_entry ([.ref x0, .int (nI 4), .int (nI u), .int v2]) (n := 4) (Nat.le_of_ble_eq_true rfl)
  rw [lg_entry_eq]
  generalize (lg_sl ([.ref x0, .int (nI 4), .int (nI u), .int v2]) ++ List.replicate (4 - (lg_sl ([.ref x0, .int (nI 4), .int (nI u), .int v2])).length) Slot.unset).toArray = ls at hl ⊢
  have hl : lv_has ls 4 [(0, .ref x0), (1, .int (nI 4)), (2, .int (nI u)), (3, .int v2)] := hl
  refine lv_iload_n hx hb d_MH_count_0 rfl (lv_at hl 1 rfl) ?_
  refine lv_iconst (v := nI 5) hx hb d_MH_count_1 (by decide) ?_
  refine mh_callR (mh_sS (rest := []) (av := [.int (nI 4), .int (nI 5)]) K0 e_MH_needBelow l_MH_40 k144 rfl rfl d_MH_count_2) (c_MH_needBelow (by decide) (by decide)) K0 hOK hml hl.1 e_MH_needBelow hX hS d_MH_count_2 (Nat.le_of_ble_eq_true rfl) (Nat.le_of_ble_eq_true rfl) (Nat.le_of_ble_eq_true rfl) (Nat.le_of_ble_eq_true rfl) (Nat.le_of_ble_eq_true rfl) (fun H locs hX hS => ?_)
  refine W.eq (g2 := F0 m 5 ls []) rfl ?_
  refine lv_iload_n hx hb d_MH_count_5 rfl (lv_at hl 1 rfl) ?_
  refine mh_if_ne (tgt := 17) hx hb (by omega) d_MH_count_6 (by decide) (fun _ => ?_) (fun z => absurd z (by omega))
  refine lv_iload_n hx hb d_MH_count_17 rfl (lv_at hl 1 rfl) ?_
  refine lv_iconst (v := nI 1) hx hb d_MH_count_18 (by decide) ?_
  refine mh_icmp_ne (tgt := 27) hx hb (by omega) (by omega) d_MH_count_19 (by decide) (fun _ => ?_) (fun z => absurd z (by omega))
  refine lv_iload_n hx hb d_MH_count_27 rfl (lv_at hl 2 rfl) ?_
  refine lv_iconst (v := nI 4) hx hb d_MH_count_28 (by decide) ?_
  refine mh_callR (mh_sS (rest := []) (av := [.int (nI u), .int (nI 4)]) K0 e_MH_needBelow l_MH_40 k144 rfl rfl d_MH_count_29) (c_MH_needBelow hu (by decide)) K0 hOK hml hl.1 e_MH_needBelow hX hS d_MH_count_29 (Nat.le_of_ble_eq_true rfl) (Nat.le_of_ble_eq_true rfl) (Nat.le_of_ble_eq_true rfl) (Nat.le_of_ble_eq_true rfl) (Nat.le_of_ble_eq_true rfl) (fun H locs hX hS => ?_)
  refine W.eq (g2 := F0 m 32 ls []) rfl ?_
  refine lv_iload_n hx hb d_MH_count_32 rfl (lv_at hl 1 rfl) ?_
  refine lv_iconst (v := nI 2) hx hb d_MH_count_33 (by decide) ?_
  refine mh_icmp_ne (tgt := 47) hx hb (by omega) (by omega) d_MH_count_34 (by decide) (fun _ => ?_) (fun z => absurd z (by omega))
  refine lv_iload_n hx hb d_MH_count_47 rfl (lv_at hl 1 rfl) ?_
  refine lv_iconst (v := nI 3) hx hb d_MH_count_48 (by decide) ?_
  refine mh_icmp_ne (tgt := 62) hx hb (by omega) (by omega) d_MH_count_49 (by decide) (fun _ => ?_) (fun z => absurd z (by omega))
  refine lv_iload_n hx hb d_MH_count_62 rfl (lv_at hl 3 rfl) ?_
  refine lv_sipush (v := nI 256) hx hb d_MH_count_63 (by decide) ?_
  refine mh_callT (mh_sS (rest := []) (av := [.int v2, .int (nI 256)]) K0 e_MH_needBelow l_MH_40 k144 rfl rfl d_MH_count_66) (c_MH_needBelow_no hl0 hv) K0 hOK hml hl.1 e_MH_needBelow hX hS d_MH_count_66 (Nat.le_of_ble_eq_true rfl) (Nat.le_of_ble_eq_true rfl) (Nat.le_of_ble_eq_true rfl) (Nat.le_of_ble_eq_true rfl) (Nat.le_of_ble_eq_true rfl) (fun q w1 H locs hq hw hX hS => ?_)
  exact mh_leave hlocks hT hX hS (⟨q, rfl, hq, hR2.x hw, hw.C⟩) (Nat.le_of_ble_eq_true rfl) (Nat.le_of_ble_eq_true rfl)
end
section
/-! A COMMIT, A STEP OF A SERVER, A RESTART, as the world shows them -/
def mh_rn (w : mh_w) (t n : Nat) : mh_w := fun k i => if 16 ≤ k ∧ k < 24 ∧ i = t then none else if 24 ≤ k ∧ k < 32 ∧ i = n then w (k - 8) t else w k i
theorem mh_rn_eq {w : mh_w} {t n k i : Nat} (h1 : ¬ (16 ≤ k ∧ k < 24 ∧ i = t)) (h2 : ¬ (24 ≤ k ∧ k < 32 ∧ i = n)) : mh_rn w t n k i = w k i := by
  unfold mh_rn
  rw [if_neg h1, if_neg h2]
theorem mh_rn_new {w : mh_w} {t n z : Nat} (hz : z < 8) : mh_rn w t n (24 + z) n = w (16 + z) t := by
  unfold mh_rn
  rw [if_neg (by omega), if_pos (by omega), show 24 + z - 8 = 16 + z by omega]
theorem mh_rn_P {D : va_G} {b : Nat} {w : mh_w} {t n : Nat} {H : Heap} (h : mh_P D b w H) : mh_P D b (mh_rn w t n) H := by
  refine h.by (fun k i => if 24 ≤ k ∧ k < 32 ∧ i = n then (k - 8, t) else (k, i)) (fun k i q hq => ?_) (fun k i k' i' q q' h1 h2 e => ?_)
  · unfold mh_rn at hq
    by_cases c1 : 16 ≤ k ∧ k < 24 ∧ i = t
    · rw [if_pos c1] at hq; cases hq
    · rw [if_neg c1] at hq
      by_cases c2 : 24 ≤ k ∧ k < 32 ∧ i = n
      · rw [if_pos c2] at hq ⊢; exact hq
      · rw [if_neg c2] at hq ⊢; exact hq
  · have n1 : ¬ (16 ≤ k ∧ k < 24 ∧ i = t) := fun z => by unfold mh_rn at h1; rw [if_pos z] at h1; cases h1
    have n2 : ¬ (16 ≤ k' ∧ k' < 24 ∧ i' = t) := fun z => by unfold mh_rn at h2; rw [if_pos z] at h2; cases h2
    by_cases c1 : 24 ≤ k ∧ k < 32 ∧ i = n <;> by_cases c2 : 24 ≤ k' ∧ k' < 32 ∧ i' = n
    · rw [if_pos c1, if_pos c2] at e
      have := (Prod.mk.inj e).1
      omega
    · rw [if_pos c1, if_neg c2] at e
      have := (Prod.mk.inj e).1; have := (Prod.mk.inj e).2
      omega
    · rw [if_neg c1, if_pos c2] at e
      have := (Prod.mk.inj e).1; have := (Prod.mk.inj e).2
      omega
    · rw [if_neg c1, if_neg c2] at e
      exact ⟨(Prod.mk.inj e).1, (Prod.mk.inj e).2⟩
theorem rI.good {dA : Nat → ClassId} {w w' : mh_w} {k i a d1 d3 d4 d5 d6 d7 : Nat} {x : st_I} {bb : Bool} (h : rI dA w k i a x) (h0 : w k i = some (a, .inr (2, [.int (nI (iv_sv x)), .int (nI (iv_sn x)), .int (nI (iv_lv x)), .ref d1, .ref d3, .ref d4, .ref d5, .ref d6, .ref d7, .int (nI (iv_np x)), .int (nI (iv_nw x)), .int (mh_b (iv_gd x))])))
    (h1 : w' k i = some (a, .inr (2, [.int (nI (iv_sv x)), .int (nI (iv_sn x)), .int (nI (iv_lv x)), .ref d1, .ref d3, .ref d4, .ref d5, .ref d6, .ref d7, .int (nI (iv_np x)), .int (nI (iv_nw x)), .int (mh_b bb)]))) (hw : ∀ z, 0 < z → z < 8 → w' (k + z) i = w (k + z) i) : rI dA w' k i a (x.1, x.2.1, x.2.2.1, x.2.2.2.1, bb) := by
  obtain ⟨a1, a3, a4, a5, a6, a7, lo, hi, wk, hn, nn, i0, ⟨b1, f, e1, e2, g⟩, i3, i4, i5, i6, i7, hlo, hwk⟩ := h
  have e := Option.some.inj (i0.symm.trans h0)
  simp only [Prod.mk.injEq, Sum.inr.injEq, List.cons.injEq, Value.ref.injEq, true_and, and_true] at e
  obtain ⟨q1, q3, q4, q5, q6, q7⟩ := e
  subst q1 q3 q4 q5 q6 q7
  exact ⟨a1, a3, a4, a5, a6, a7, lo, hi, wk, hn, nn, h1, ⟨b1, f, (hw 1 (by omega) (by omega)).trans e1, (hw 2 (by omega) (by omega)).trans e2, g⟩, (hw 3 (by omega) (by omega)).trans i3, (hw 4 (by omega) (by omega)).trans i4, (hw 5 (by omega) (by omega)).trans i5, (hw 6 (by omega) (by omega)).trans i6, (hw 7 (by omega) (by omega)).trans i7, hlo, hwk⟩
theorem rP.cm {dA : Nat → ClassId} {zs : Nat → Nat} {w w' : mh_w} {x0 : Nat} {g : st_G} {aL aS aD aV : Nat} {sv dr vw lg : Nat → Option Nat} (h : rP dA zs w x0 g aL aS aD aV sv dr vw lg) (hG : sg_ok g) {t y : Nat} {x' : st_I}
    (hw : ∀ k i, k < 40 → k ≠ 1 → k ≠ 2 → ¬ (k = 10 ∧ i = 0) → ¬ (16 ≤ k ∧ k < 24 ∧ i = t) → ¬ (24 ≤ k ∧ k < 32 ∧ i = sg_n g) → w' k i = w k i) (hL : rL dA zs w' aL (sg_n g + 1) (va_up lg (sg_n g) (some y))) (h10 : w' 10 0 = some (aD, .inl (dA 5, 16, .inr (.inr (.inr (.inr (va_up dr t none))))))) (hI : rI dA w' 24 (sg_n g) y x') :
    rP dA zs w' x0 ((sg_n g + 1, va_up (sg_lg g) (sg_n g) x'), g.2.1, va_up (sg_dr g) t none, g.2.2.2) aL aS aD aV sv (va_up dr t none) vw (va_up lg (sg_n g) (some y)) := by
  obtain ⟨r0, rLg, r3, r10, r11, rs, rv, rd, rl⟩ := h
  obtain ⟨gn, grs, gat, glo, gdr⟩ := hG
  refine ⟨(hw 0 0 (by omega) (by omega) (by omega) (by omega) (by omega) (by omega)).trans r0, hL, (hw 3 0 (by omega) (by omega) (by omega) (by omega) (by omega) (by omega)).trans r3, h10, (hw 11 0 (by omega) (by omega) (by omega) (by omega) (by omega) (by omega)).trans r11, fun z hz => ?_, fun z hz => ?_, fun z hz => ?_, fun i hi => ?_⟩
  · obtain ⟨a, e1, e2⟩ := rs z hz
    have := gat z hz
    exact ⟨a, e1, e2.to (fun k h1 h2 => hw k z (by omega) (by omega) (by omega) (by omega) (by omega) (by omega)) (fun i hi => (va_up_ne _ _ (by omega)).symm)⟩
  · show ∃ a, vw z = some a ∧ cV dA w' (va_up (sg_lg g) (sg_n g) x') (va_up (sg_dr g) t none z) z a
    obtain ⟨a, e1, e2⟩ := rv z hz
    by_cases e : z = t
    · subst e
      obtain ⟨st, e3, -⟩ := e2
      rw [va_up_self]
      exact ⟨a, e1, st, e3.to (fun q hq => hw (12 + q) z (by omega) (by omega) (by omega) (by omega) (by omega) (by omega)) (fun _ _ => rfl), fun x hx => by cases hx⟩
    · rw [va_up_ne _ _ e]
      exact ⟨a, e1, e2.to (fun k h1 h2 => hw k z (by omega) (by omega) (by omega) (by omega) (by omega) (by omega)) (fun x hx i hi => (va_up_ne _ _ (by have := (gdr z x hz hx).2.1; omega)).symm)⟩
  · show cD dA w' (va_up (sg_dr g) t none z) z (va_up dr t none z)
    by_cases e : z = t
    · subst e; rw [va_up_self, va_up_self]; exact rfl
    · rw [va_up_ne _ _ e, va_up_ne _ _ e]
      exact (rd z hz).to (fun k h1 h2 => hw k z (by omega) (by omega) (by omega) (by omega) (by omega) (by omega))
  · show ∃ a, va_up lg (sg_n g) (some y) i = some a ∧ rI dA w' 24 i a (va_up (sg_lg g) (sg_n g) x' i)
    have hi : i < sg_n g + 1 := hi
    by_cases e : i = sg_n g
    · subst e; rw [va_up_self, va_up_self]; exact ⟨y, rfl, hI⟩
    · rw [va_up_ne _ _ e, va_up_ne _ _ e]
      obtain ⟨a, e1, e2⟩ := rl i (by omega)
      exact ⟨a, e1, e2.to (fun z hz => hw (24 + z) i (by omega) (by omega) (by omega) (by omega) (by omega) (by omega))⟩
theorem cS.succ {dA : Nat → ClassId} {w : mh_w} {log : Nat → st_I} {m s a : Nat} (h : rS dA w s a (if iv_gd (log m) = true then st_aw (iv_wk (log m)) (iv_wv (log m)) (st_st log m) (iv_nw (log m)) else st_st log m) (fun z => if iv_gd (log m) = true ∧ st_pl (iv_wk (log m)) z (iv_nw (log m)) < iv_nw (log m) then nI m else st_lw log z m) (m + 1) (if iv_gd (log m) = true then pb_cnt (fun i => iv_gd (log i)) m + 1 else pb_cnt (fun i => iv_gd (log i)) m)) : cS dA w log (m + 1) s a := by
  unfold cS
  have e : pb_cnt (fun i => iv_gd (log i)) (m + 1) = if iv_gd (log m) = true then pb_cnt (fun i => iv_gd (log i)) m + 1 else pb_cnt (fun i => iv_gd (log i)) m := by
    rw [pb_cnt]
    by_cases c : iv_gd (log m) = true
    · rw [if_pos c]; simp [c]
    · rw [if_neg c]; simp [c]
  rw [e]
  exact h
theorem rP.rs {dA : Nat → ClassId} {zs : Nat → Nat} {w w' : mh_w} {x0 : Nat} {g : st_G} {aL aS aD aV : Nat} {sv dr vw lg : Nat → Option Nat} (h : rP dA zs w x0 g aL aS aD aV sv dr vw lg) {u : Nat} {dr' : Nat → Option Nat}
    (hw : ∀ k i, k < 40 → ¬ (k = 0 ∧ i = 0) → ¬ (k = 10 ∧ i = 0) → ¬ (4 ≤ k ∧ k < 10 ∧ i = u) → w' k i = w k i) (h0 : w' 0 0 = some (x0, .inr (4, [.ref aL, .ref aS, .ref aD, .ref aV, .int (nI (sg_rs g + 1))]))) (h10 : w' 10 0 = some (aD, .inl (dA 5, 16, .inr (.inr (.inr (.inr dr'))))))
    (hdr : ∀ z, z < 16 → dr' z = match sg_dr g z with | some x => if iv_sv x = u then none else dr z | none => none) (hS : ∃ a, sv u = some a ∧ cS dA w' (sg_lg g) 0 u a) :
    rP dA zs w' x0 (g.1, va_up (sg_at g) u 0, (fun t => match sg_dr g t with | some x => if iv_sv x = u then none else some x | none => none), sg_rs g + 1) aL aS aD aV sv dr' vw lg := by
  obtain ⟨r0, rLg, r3, r10, r11, rs, rv, rd, rl⟩ := h
  refine ⟨h0, rLg.to (hw 1 0 (by omega) (by omega) (by omega) (by omega)) (fun i => hw 2 i (by omega) (by omega) (by omega) (by omega)) (fun _ _ => rfl), (hw 3 0 (by omega) (by omega) (by omega) (by omega)).trans r3, h10, (hw 11 0 (by omega) (by omega) (by omega) (by omega)).trans r11, fun z hz => ?_, fun z hz => ?_, fun z hz => ?_, fun i hi => ?_⟩
  · show ∃ a, sv z = some a ∧ cS dA w' (sg_lg g) (va_up (sg_at g) u 0 z) z a
    by_cases e : z = u
    · subst e; rw [va_up_self]; exact hS
    · rw [va_up_ne _ _ e]
      obtain ⟨a, e1, e2⟩ := rs z hz
      exact ⟨a, e1, e2.to (fun k _ h => hw k z (by omega) (by omega) (by omega) (by omega)) (fun _ _ => rfl)⟩
  · obtain ⟨a, e1, st, e2, e3⟩ := rv z hz
    refine ⟨a, e1, st, e2.to (fun q hq => hw (12 + q) z (by omega) (by omega) (by omega) (by omega)) (fun _ _ => rfl), fun x hx => ?_⟩
    have hx : (match sg_dr g z with | some x => if iv_sv x = u then none else some x | none => none) = some x := hx
    cases e9 : sg_dr g z with
    | none => rw [e9] at hx; cases hx
    | some x2 =>
      rw [e9] at hx
      by_cases e8 : iv_sv x2 = u
      · simp only [if_pos e8] at hx; cases hx
      · simp only [if_neg e8] at hx; cases hx; exact e3 x e9
  · have hd := rd z hz
    rw [hdr z hz]
    show cD dA w' (match sg_dr g z with | some x => if iv_sv x = u then none else some x | none => none) z _
    cases e9 : sg_dr g z with
    | none => exact rfl
    | some x2 =>
      obtain ⟨y, hy1, hy2⟩ := hd.some e9
      by_cases e8 : iv_sv x2 = u
      · simp only [if_pos e8]; exact rfl
      · simp only [if_neg e8]
        exact ⟨y, hy1, hy2.to (fun q hq => hw (16 + q) z (by omega) (by omega) (by omega) (by omega))⟩
  · obtain ⟨a, e1, e2⟩ := rl i hi
    exact ⟨a, e1, e2.to (fun z hz => hw (24 + z) i (by omega) (by omega) (by omega) (by omega))⟩
theorem d_MH_commit_51 : decode b_MH_commit 51 = .ok (.aload_n 2, 1) := by decide +kernel
theorem d_MH_commit_52 : decode b_MH_commit 52 = .ok (.aload_n 0, 1) := by decide +kernel
theorem d_MH_commit_53 : decode b_MH_commit 53 = .ok (.aload_n 2, 1) := by decide +kernel
theorem d_MH_commit_54 : decode b_MH_commit 54 = .ok (.invokevirtual 115, 3) := by decide +kernel
theorem d_MH_commit_57 : decode b_MH_commit 57 = .ok (.putfield 119, 3) := by decide +kernel
theorem d_MH_commit_60 : decode b_MH_commit 60 = .ok (.aload_n 0, 1) := by decide +kernel
theorem d_MH_commit_61 : decode b_MH_commit 61 = .ok (.getfield 10, 3) := by decide +kernel
theorem d_MH_commit_64 : decode b_MH_commit 64 = .ok (.aload_n 2, 1) := by decide +kernel
theorem d_MH_commit_65 : decode b_MH_commit 65 = .ok (.invokevirtual 123, 3) := by decide +kernel
theorem d_MH_commit_68 : decode b_MH_commit 68 = .ok (.pop, 1) := by decide +kernel
theorem d_MH_commit_69 : decode b_MH_commit 69 = .ok (.aload_n 0, 1) := by decide +kernel
theorem d_MH_commit_70 : decode b_MH_commit 70 = .ok (.getfield 25, 3) := by decide +kernel
theorem d_MH_commit_73 : decode b_MH_commit 73 = .ok (.iload_n 1, 1) := by decide +kernel
theorem d_MH_commit_74 : decode b_MH_commit 74 = .ok (.aconst_null, 1) := by decide +kernel
theorem d_MH_commit_75 : decode b_MH_commit 75 = .ok (.aastore, 1) := by decide +kernel
theorem d_MH_commit_76 : decode b_MH_commit 76 = .ok (.aload_n 0, 1) := by decide +kernel
theorem d_MH_commit_77 : decode b_MH_commit 77 = .ok (.getfield 10, 3) := by decide +kernel
theorem d_MH_commit_80 : decode b_MH_commit 80 = .ok (.invokevirtual 109, 3) := by decide +kernel
theorem d_MH_commit_83 : decode b_MH_commit 83 = .ok (.iconst 1, 1) := by decide +kernel
theorem d_MH_commit_84 : decode b_MH_commit 84 = .ok (.isub, 1) := by decide +kernel
theorem d_MH_commit_85 : decode b_MH_commit 85 = .ok (.ireturn, 1) := by decide +kernel
theorem d_MH_advance_12 : decode b_MH_advance 12 = .ok (.aload_n 0, 1) := by decide +kernel
theorem d_MH_advance_13 : decode b_MH_advance 13 = .ok (.getfield 18, 3) := by decide +kernel
theorem d_MH_advance_16 : decode b_MH_advance 16 = .ok (.iload_n 1, 1) := by decide +kernel
theorem d_MH_advance_17 : decode b_MH_advance 17 = .ok (.aaload, 1) := by decide +kernel
theorem d_MH_advance_18 : decode b_MH_advance 18 = .ok (.astore_n 3, 1) := by decide +kernel
theorem d_MH_advance_19 : decode b_MH_advance 19 = .ok (.iload_n 2, 1) := by decide +kernel
theorem d_MH_advance_20 : decode b_MH_advance 20 = .ok (.aload_n 0, 1) := by decide +kernel
theorem d_MH_advance_21 : decode b_MH_advance 21 = .ok (.getfield 10, 3) := by decide +kernel
theorem d_MH_advance_24 : decode b_MH_advance 24 = .ok (.invokevirtual 109, 3) := by decide +kernel
theorem d_MH_advance_27 : decode b_MH_advance 27 = .ok (.aload_n 3, 1) := by decide +kernel
theorem d_MH_advance_28 : decode b_MH_advance 28 = .ok (.getfield 51, 3) := by decide +kernel
theorem d_MH_advance_31 : decode b_MH_advance 31 = .ok (.isub, 1) := by decide +kernel
theorem d_MH_advance_32 : decode b_MH_advance 32 = .ok (.invokestatic 127, 3) := by decide +kernel
theorem d_MH_advance_35 : decode b_MH_advance 35 = .ok (.istore 4, 2) := by decide +kernel
theorem d_MH_advance_37 : decode b_MH_advance 37 = .ok (.iconst 0, 1) := by decide +kernel
theorem d_MH_advance_38 : decode b_MH_advance 38 = .ok (.istore 5, 2) := by decide +kernel
theorem d_MH_advance_40 : decode b_MH_advance 40 = .ok (.iload 5, 2) := by decide +kernel
theorem d_MH_advance_42 : decode b_MH_advance 42 = .ok (.iload 4, 2) := by decide +kernel
theorem d_MH_advance_44 : decode b_MH_advance 44 = .ok (.if_icmp .ge 27, 3) := by decide +kernel
theorem d_MH_advance_71 : decode b_MH_advance 71 = .ok (.iload 4, 2) := by decide +kernel
theorem d_MH_advance_73 : decode b_MH_advance 73 = .ok (.ireturn, 1) := by decide +kernel
theorem d_MH_advance_47 : decode b_MH_advance 47 = .ok (.aload_n 3, 1) := by decide +kernel
theorem d_MH_advance_48 : decode b_MH_advance 48 = .ok (.aload_n 0, 1) := by decide +kernel
theorem d_MH_advance_49 : decode b_MH_advance 49 = .ok (.getfield 10, 3) := by decide +kernel
theorem d_MH_advance_52 : decode b_MH_advance 52 = .ok (.aload_n 3, 1) := by decide +kernel
theorem d_MH_advance_53 : decode b_MH_advance 53 = .ok (.getfield 51, 3) := by decide +kernel
theorem d_MH_advance_56 : decode b_MH_advance 56 = .ok (.invokevirtual 133, 3) := by decide +kernel
theorem d_MH_advance_59 : decode b_MH_advance 59 = .ok (.checkcast 23, 3) := by decide +kernel
theorem d_MH_advance_62 : decode b_MH_advance 62 = .ok (.invokevirtual 137, 3) := by decide +kernel
theorem d_MH_advance_65 : decode b_MH_advance 65 = .ok (.iinc 5 1, 3) := by decide +kernel
theorem d_MH_advance_68 : decode b_MH_advance 68 = .ok (.goto (-28), 3) := by decide +kernel
theorem d_MH_restart_5 : decode b_MH_restart 5 = .ok (.aload_n 0, 1) := by decide +kernel
theorem d_MH_restart_6 : decode b_MH_restart 6 = .ok (.getfield 36, 3) := by decide +kernel
theorem d_MH_restart_9 : decode b_MH_restart 9 = .ok (.iconst 4, 1) := by decide +kernel
theorem d_MH_restart_10 : decode b_MH_restart 10 = .ok (.if_icmp .lt 13, 3) := by decide +kernel
theorem d_MH_restart_13 : decode b_MH_restart 13 = .ok (.new 44, 3) := by decide +kernel
theorem d_MH_restart_16 : decode b_MH_restart 16 = .ok (.dup, 1) := by decide +kernel
theorem d_MH_restart_17 : decode b_MH_restart 17 = .ok (.ldc 141, 2) := by decide +kernel
theorem d_MH_restart_19 : decode b_MH_restart 19 = .ok (.invokespecial 48, 3) := by decide +kernel
theorem d_MH_restart_22 : decode b_MH_restart 22 = .ok (.athrow, 1) := by decide +kernel
theorem d_MH_restart_23 : decode b_MH_restart 23 = .ok (.aload_n 0, 1) := by decide +kernel
theorem d_MH_restart_24 : decode b_MH_restart 24 = .ok (.dup, 1) := by decide +kernel
theorem d_MH_restart_25 : decode b_MH_restart 25 = .ok (.getfield 36, 3) := by decide +kernel
theorem d_MH_restart_28 : decode b_MH_restart 28 = .ok (.iconst 1, 1) := by decide +kernel
theorem d_MH_restart_29 : decode b_MH_restart 29 = .ok (.iadd, 1) := by decide +kernel
theorem d_MH_restart_30 : decode b_MH_restart 30 = .ok (.putfield 36, 3) := by decide +kernel
theorem d_MH_restart_33 : decode b_MH_restart 33 = .ok (.aload_n 0, 1) := by decide +kernel
theorem d_MH_restart_34 : decode b_MH_restart 34 = .ok (.getfield 18, 3) := by decide +kernel
theorem d_MH_restart_37 : decode b_MH_restart 37 = .ok (.iload_n 1, 1) := by decide +kernel
theorem d_MH_restart_38 : decode b_MH_restart 38 = .ok (.aaload, 1) := by decide +kernel
theorem d_MH_restart_39 : decode b_MH_restart 39 = .ok (.invokevirtual 143, 3) := by decide +kernel
theorem d_MH_restart_42 : decode b_MH_restart 42 = .ok (.iconst 0, 1) := by decide +kernel
theorem d_MH_restart_43 : decode b_MH_restart 43 = .ok (.istore_n 2, 1) := by decide +kernel
theorem d_MH_restart_44 : decode b_MH_restart 44 = .ok (.iload_n 2, 1) := by decide +kernel
theorem d_MH_restart_45 : decode b_MH_restart 45 = .ok (.bipush 16, 2) := by decide +kernel
theorem d_MH_restart_47 : decode b_MH_restart 47 = .ok (.if_icmp .ge 38, 3) := by decide +kernel
theorem d_MH_restart_85 : decode b_MH_restart 85 = .ok (.return_, 1) := by decide +kernel
theorem d_MH_restart_50 : decode b_MH_restart 50 = .ok (.aload_n 0, 1) := by decide +kernel
theorem d_MH_restart_51 : decode b_MH_restart 51 = .ok (.getfield 25, 3) := by decide +kernel
theorem d_MH_restart_54 : decode b_MH_restart 54 = .ok (.iload_n 2, 1) := by decide +kernel
theorem d_MH_restart_55 : decode b_MH_restart 55 = .ok (.aaload, 1) := by decide +kernel
theorem d_MH_restart_56 : decode b_MH_restart 56 = .ok (.ifnull 23, 3) := by decide +kernel
theorem d_MH_restart_79 : decode b_MH_restart 79 = .ok (.iinc 2 1, 3) := by decide +kernel
theorem d_MH_restart_82 : decode b_MH_restart 82 = .ok (.goto (-38), 3) := by decide +kernel
theorem d_MH_restart_59 : decode b_MH_restart 59 = .ok (.aload_n 0, 1) := by decide +kernel
theorem d_MH_restart_60 : decode b_MH_restart 60 = .ok (.getfield 25, 3) := by decide +kernel
theorem d_MH_restart_63 : decode b_MH_restart 63 = .ok (.iload_n 2, 1) := by decide +kernel
theorem d_MH_restart_64 : decode b_MH_restart 64 = .ok (.aaload, 1) := by decide +kernel
theorem d_MH_restart_65 : decode b_MH_restart 65 = .ok (.getfield 146, 3) := by decide +kernel
theorem d_MH_restart_68 : decode b_MH_restart 68 = .ok (.iload_n 1, 1) := by decide +kernel
theorem d_MH_restart_69 : decode b_MH_restart 69 = .ok (.if_icmp .ne 10, 3) := by decide +kernel
theorem d_MH_restart_72 : decode b_MH_restart 72 = .ok (.aload_n 0, 1) := by decide +kernel
theorem d_MH_restart_73 : decode b_MH_restart 73 = .ok (.getfield 25, 3) := by decide +kernel
theorem d_MH_restart_76 : decode b_MH_restart 76 = .ok (.iload_n 2, 1) := by decide +kernel
theorem d_MH_restart_77 : decode b_MH_restart 77 = .ok (.aconst_null, 1) := by decide +kernel
theorem d_MH_restart_78 : decode b_MH_restart 78 = .ok (.aastore, 1) := by decide +kernel
set_option maxHeartbeats 4000000 in
set_option maxRecDepth 100000 in
theorem c_MH_commit_0 {l : Launch} {b : Nat} {dC : Nat → ClassId} {dI : Nat → Nat → Nat} {dA : Nat → ClassId} {zs : Nat → Nat} {w : mh_w} {x0 : Nat} {g : st_G} (hR : rC dA zs w x0 g) (hG : sg_ok g) {t : Nat} (ht : t < 16) {x : st_I} (hd : sg_dr g t = some x) (h0 : ¬ iv_nw x = 0) (hn : sg_n g < 400) : mh_Met l b dC dI dA zs y_MH_commit (mh_rm 8 20 1000) [.ref x0, .int (nI t)] w (mh_V (some (.int (nI (sg_n g)))) (fun w' => rC dA zs w' x0 ((sg_n g + 1, va_up (sg_lg g) (sg_n g) (st_lgd g x)), g.2.1, va_up (sg_dr g) t none, g.2.2.2) ∧ mh_C w w')) := by
  have hR2 := hR
  obtain ⟨aL, aS, aD, aV, sv, dr, vw, lg, hP⟩ := hR
  have hP2 := hP
  obtain ⟨r0, rLg, r3, r10, r11, rs, rv, rd, rl⟩ := hP2
  obtain ⟨mc, ar, r1, rAr⟩ := rLg
  have hG2 := hG
  obtain ⟨gn, grs, gat, glo, gdr⟩ := hG2
  refine mh_ofW (cc := b_MH_commit) (n := 3) (ret := (some .int)) (hs := []) (by decide) k446 ?_
  intro p e s m below meth c hx hb hr hml hown hts hlocks hnm hT hOK hadm
  have K0 : mh_K0 p s m ([.ref x0, .int (nI t)]).toArray c "MeldHost" b_MH_commit dC dI dA := ⟨hx, hb, hown, hts, hOK.1, hOK.2.1⟩
  have hX := hOK.2.2.2.2
  have hb0 := hOK.2.2.2.1
  have hS : va_S (mh_A b) s.heap s.heap [] := va_S.rf
  have hl := lv_entry ([.ref x0, .int (nI t)]) (n := 3) (Nat.le_of_ble_eq_true rfl)
  rw [lg_entry_eq]
  generalize (lg_sl ([.ref x0, .int (nI t)]) ++ List.replicate (3 - (lg_sl ([.ref x0, .int (nI t)])).length) Slot.unset).toArray = ls at hl ⊢
  have hl : lv_has ls 3 [(0, .ref x0), (1, .int (nI t))] := hl
  obtain ⟨y, hy1, hy2⟩ := (rd t ht).some hd
  obtain ⟨d1, d3, d4, d5, d6, d7, j0⟩ := hy2.fst
  have ho := gdr t x ht hd
  have ho2 := ho
  obtain ⟨o1, o2, o3, o4, o5, o6, o7, o8⟩ := ho2
  obtain ⟨av, hv1, st, hv2, hv3⟩ := rv t ht
  obtain ⟨v1, v3, vn0⟩ := hv2.fst
  refine lv_iload_n hx hb d_MH_commit_0 rfl (lv_at hl 1 rfl) ?_
  refine lv_bipush (v := nI 16) hx hb d_MH_commit_1 (by decide) ?_
  refine mh_callR (mh_sS (rest := []) (av := [.int (nI t), .int (nI 16)]) K0 e_MH_needBelow l_MH_40 k144 rfl rfl d_MH_commit_3) (c_MH_needBelow ht (by decide)) K0 hOK hml hl.1 e_MH_needBelow hX hS d_MH_commit_3 (Nat.le_of_ble_eq_true rfl) (Nat.le_of_ble_eq_true rfl) (Nat.le_of_ble_eq_true rfl) (Nat.le_of_ble_eq_true rfl) (Nat.le_of_ble_eq_true rfl) (fun H locs hX hS => ?_)
  refine W.eq (g2 := F0 m 6 ls []) rfl ?_
  refine lv_aload_n hx hb d_MH_commit_6 rfl (lv_at hl 0 rfl) ?_
  refine lv_iload_n hx hb d_MH_commit_7 rfl (lv_at hl 1 rfl) ?_
  refine mh_callR (mh_sV (rest := []) (av := [.int (nI t)]) K0 hX r0 rfl e_MH_openDraft l_MH_65 k303 kp1 rfl rfl d_MH_commit_8) (c_MH_openDraft r0 r10 ht hy1) K0 hOK hml hl.1 e_MH_openDraft hX hS d_MH_commit_8 (Nat.le_of_ble_eq_true rfl) (Nat.le_of_ble_eq_true rfl) (Nat.le_of_ble_eq_true rfl) (Nat.le_of_ble_eq_true rfl) (Nat.le_of_ble_eq_true rfl) (fun H locs hX hS => ?_)
  refine W.eq (g2 := F0 m 11 ls [.ref y]) rfl ?_
  refine lv_astore_n (lv' := [(2, .ref y), (0, .ref x0), (1, .int (nI t))]) hx hb d_MH_commit_11 rfl hl (by decide) rfl (fun ls hl => ?_)
  refine lv_aload_n hx hb d_MH_commit_12 rfl (lv_at hl 0 rfl) ?_
  refine mh_get K0 hX j0 f_MH_106 rfl d_MH_commit_13 ?_
  refine mh_if_ne (tgt := 28) hx hb (by omega) d_MH_commit_16 (by decide) (fun _ => ?_) (fun z => absurd z (by omega))
  refine lv_aload_n hx hb d_MH_commit_28 rfl (lv_at hl 1 rfl) ?_
  refine mh_get K0 hX r0 f_MH_10 rfl d_MH_commit_29 ?_
  refine mh_callR (mh_sV (rest := []) (av := []) K0 hX r1 rfl e_AL_size l_MH_109 k448 k449 rfl rfl d_MH_commit_32) (c_AL_size r1) K0 hOK hml hl.1 e_AL_size hX hS d_MH_commit_32 (Nat.le_of_ble_eq_true rfl) (Nat.le_of_ble_eq_true rfl) (Nat.le_of_ble_eq_true rfl) (Nat.le_of_ble_eq_true rfl) (Nat.le_of_ble_eq_true rfl) (fun H locs hX hS => ?_)
  refine W.eq (g2 := F0 m 35 ls [.int (nI (sg_n g))]) rfl ?_
  refine lv_sipush (v := nI 400) hx hb d_MH_commit_35 (by decide) ?_
  refine mh_icmp_lt (tgt := 51) hx hb (by omega) (by omega) d_MH_commit_38 (by decide) (fun _ => ?_) (fun z => absurd z (by omega))
  refine lv_aload_n hx hb d_MH_commit_51 rfl (lv_at hl 0 rfl) ?_
  refine lv_aload_n hx hb d_MH_commit_52 rfl (lv_at hl 1 rfl) ?_
  refine lv_aload_n hx hb d_MH_commit_53 rfl (lv_at hl 0 rfl) ?_
  refine mh_callR (mh_sV (rest := [.ref y]) (av := [.ref y]) K0 hX r0 rfl e_MH_canBeDone l_MH_115 k454 kp8 rfl rfl d_MH_commit_54) (c_MH_canBeDone r0 r1 gn rAr rl glo hy2 ho) K0 hOK hml hl.1 e_MH_canBeDone hX hS d_MH_commit_54 (Nat.le_of_ble_eq_true rfl) (Nat.le_of_ble_eq_true rfl) (Nat.le_of_ble_eq_true rfl) (Nat.le_of_ble_eq_true rfl) (Nat.le_of_ble_eq_true rfl) (fun H locs hX hS => ?_)
  refine W.eq (g2 := F0 m 57 ls [.int (mh_b (st_ok (sg_lg g) x (sg_n g))), .ref y]) rfl ?_
  refine mh_put K0 hX hS j0 f_MH_119 p_2_11 (mh_b_nar _) (mh_b_fit _) (Nat.le_of_ble_eq_true rfl) d_MH_commit_57 (fun H locs hX hS => ?_)
  have hX : mh_P (dC, dI) b (mh_set _ 16 t (some (y, .inr (2, [.int (nI (iv_sv x)), .int (nI (iv_sn x)), .int (nI (iv_lv x)), .ref d1, .ref d3, .ref d4, .ref d5, .ref d6, .ref d7, .int (nI (iv_np x)), .int (nI (iv_nw x)), .int (mh_b (st_ok (sg_lg g) x (sg_n g)))])))) H := hX
  have fs64 := mh_self hX
  refine lv_aload_n hx hb d_MH_commit_60 rfl (lv_at hl 1 rfl) ?_
  refine mh_get K0 hX (mh_kp r0 (by omega)) f_MH_10 rfl d_MH_commit_61 ?_
  refine lv_aload_n hx hb d_MH_commit_64 rfl (lv_at hl 0 rfl) ?_
  have hI1 := hy2.good (bb := st_ok (sg_lg g) x (sg_n g)) j0 fs64 (fun z h1 h2 => mh_set_ne _ _ _ _ (by omega))
  have hel : mh_el (mh_set w 16 t (some (y, .inr (2, [.int (nI (iv_sv x)), .int (nI (iv_sn x)), .int (nI (iv_lv x)), .ref d1, .ref d3, .ref d4, .ref d5, .ref d6, .ref d7, .int (nI (iv_np x)), .int (nI (iv_nw x)), .int (mh_b (st_ok (sg_lg g) x (sg_n g)))])))) (sg_n g) lg := fun j y2 hj hy => by
    obtain ⟨ax, e1, e2⟩ := rl j hj
    cases e1.symm.trans hy
    obtain ⟨b1, b3, b4, b5, b6, b7, l0⟩ := e2.fst
    exact ⟨24, j, _, by omega, (mh_set_ne _ _ _ _ (by omega)).trans l0⟩
  refine mh_callV (mh_sV (rest := []) (av := [.ref y]) K0 hX (mh_kp r1 (by omega)) rfl e_AL_add1 l_MH_123 k480 k481 rfl rfl d_MH_commit_65) (c_AL_add1 (hP.2.1.to (by rw [mh_set_ne _ _ _ _ (by omega)]) (fun i => by rw [mh_set_ne _ _ _ _ (by omega)]) (fun _ _ => rfl)) hel hn (ky := 16) (iy := t) (by omega) fs64) K0 hOK hml hl.1 e_AL_add1 hX hS d_MH_commit_65 (Nat.le_of_ble_eq_true rfl) (Nat.le_of_ble_eq_true rfl) (Nat.le_of_ble_eq_true rfl) (Nat.le_of_ble_eq_true rfl) (Nat.le_of_ble_eq_true rfl) (fun w1 H locs ⟨hL, hF3⟩ hX hS => ?_)
  refine W.eq (g2 := F0 m 68 ls [.int (nI 1)]) rfl ?_
  obtain ⟨mc2, ar2, l1, l2⟩ := hL
  refine lv_pop hx hb d_MH_commit_68 rfl ?_
  refine lv_aload_n hx hb d_MH_commit_69 rfl (lv_at hl 1 rfl) ?_
  refine mh_get K0 hX ((hF3 0 0 (by omega) (by omega)).trans (mh_kp r0 (by omega))) f_MH_25 rfl d_MH_commit_70 ?_
  refine lv_iload_n hx hb d_MH_commit_73 rfl (lv_at hl 2 rfl) ?_
  refine lv_null hx hb d_MH_commit_74 ?_
  refine mh_aastNN 5 rfl K0 hX hS ((hF3 10 0 (by omega) (by omega)).trans (mh_kp r10 (by omega))) (by omega) (by omega) d_MH_commit_75 (fun H locs hX hS => ?_)
  have fs65 := mh_self hX
  refine lv_aload_n hx hb d_MH_commit_76 rfl (lv_at hl 1 rfl) ?_
  refine mh_get K0 hX (mh_kp ((hF3 0 0 (by omega) (by omega)).trans (mh_kp r0 (by omega))) (by omega)) f_MH_10 rfl d_MH_commit_77 ?_
  refine mh_callR (mh_sV (rest := []) (av := []) K0 hX (mh_kp l1 (by omega)) rfl e_AL_size l_MH_109 k448 k449 rfl rfl d_MH_commit_80) (c_AL_size (mh_kp l1 (by omega))) K0 hOK hml hl.1 e_AL_size hX hS d_MH_commit_80 (Nat.le_of_ble_eq_true rfl) (Nat.le_of_ble_eq_true rfl) (Nat.le_of_ble_eq_true rfl) (Nat.le_of_ble_eq_true rfl) (Nat.le_of_ble_eq_true rfl) (fun H locs hX hS => ?_)
  refine W.eq (g2 := F0 m 83 ls [.int (nI (sg_n g + 1))]) rfl ?_
  refine lv_iconst (v := nI 1) hx hb d_MH_commit_83 (by decide) ?_
  refine mh_subN hx hb (by omega) d_MH_commit_84 ?_
  refine mh_ti (y := nI (sg_n g)) (by rw [Nat.add_sub_cancel]) ?_
  have hL9 : rL dA zs (mh_rn (mh_set w1 10 0 (some (aD, .inl (dA 5, 16, .inr (.inr (.inr (.inr (va_up dr t none)))))))) t (sg_n g)) aL (sg_n g + 1) (va_up lg (sg_n g) (some y)) := rL.to (w := w1) ⟨mc2, ar2, l1, l2⟩ ((mh_rn_eq (by omega) (by omega)).trans (mh_set_ne _ _ _ _ (by omega))) (fun i => (mh_rn_eq (by omega) (by omega)).trans (mh_set_ne _ _ _ _ (by omega))) (fun _ _ => rfl)
  have hI9 : rI dA (mh_rn (mh_set w1 10 0 (some (aD, .inl (dA 5, 16, .inr (.inr (.inr (.inr (va_up dr t none)))))))) t (sg_n g)) 24 (sg_n g) y (st_lgd g x) := hI1.to (fun z hz => by rw [mh_rn_new hz, mh_set_ne _ _ _ _ (by omega), hF3 _ _ (by omega) (by omega)])
  exact mh_iret K0 hr rfl hlocks (mh_rn_P (t := t) (n := sg_n g) hX) hS (⟨rfl, ⟨aL, aS, aD, aV, sv, _, vw, _, hP.cm hG (fun k i h0 h1 h2 h3 h4 h5 => (mh_rn_eq h4 h5).trans (by rw [mh_set_ne _ _ _ _ (by omega), hF3 _ _ (by omega) (by omega), mh_set_ne _ _ _ _ (by omega)])) hL9 ((mh_rn_eq (by omega) (by omega)).trans fs65) hI9⟩, fun k i h1 h2 => (mh_rn_eq (by omega) (by omega)).trans (by rw [mh_set_ne _ _ _ _ (by omega), hF3 _ _ (by omega) (by omega), mh_set_ne _ _ _ _ (by omega)])⟩) (Nat.le_of_ble_eq_true rfl) (Nat.le_of_ble_eq_true rfl) d_MH_commit_85
set_option maxHeartbeats 4000000 in
set_option maxRecDepth 100000 in
theorem c_MH_advance_0 {l : Launch} {b : Nat} {dC : Nat → ClassId} {dI : Nat → Nat → Nat} {dA : Nat → ClassId} {zs : Nat → Nat} {w : mh_w} {x0 : Nat} {g : st_G} (hR : rC dA zs w x0 g) (hG : sg_ok g) {u : Nat} (hu : u < 4) {k9 : Nat} (hk9 : k9 < 401) : mh_Met l b dC dI dA zs y_MH_advance (mh_rm 8 20 1000) [.ref x0, .int (nI u), .int (nI k9)] w (mh_V (some (.int (nI (min k9 (sg_n g - sg_at g u))))) (fun w' => rC dA zs w' x0 (g.1, va_up (sg_at g) u (sg_at g u + (min k9 (sg_n g - sg_at g u))), g.2.2) ∧ mh_C w w')) := by
  have hR2 := hR
  obtain ⟨aL, aS, aD, aV, sv, dr, vw, lg, hP⟩ := hR
  have hP2 := hP
  obtain ⟨r0, rLg, r3, r10, r11, rs, rv, rd, rl⟩ := hP2
  obtain ⟨mc, ar, r1, rAr⟩ := rLg
  have hG2 := hG
  obtain ⟨gn, grs, gat, glo, gdr⟩ := hG2
  refine mh_ofW (cc := b_MH_advance) (n := 6) (ret := (some .int)) (hs := []) (by decide) k547 ?_
  intro p e s m below meth c hx hb hr hml hown hts hlocks hnm hT hOK hadm
  have K0 : mh_K0 p s m ([.ref x0, .int (nI u), .int (nI k9)]).toArray c "MeldHost" b_MH_advance dC dI dA := ⟨hx, hb, hown, hts, hOK.1, hOK.2.1⟩
  have hX := hOK.2.2.2.2
  have hb0 := hOK.2.2.2.1
  have hS : va_S (mh_A b) s.heap s.heap [] := va_S.rf
  have hl := lv_entry ([.ref x0, .int (nI u), .int (nI k9)]) (n := 6) (Nat.le_of_ble_eq_true rfl)
  rw [lg_entry_eq]
  generalize (lg_sl ([.ref x0, .int (nI u), .int (nI k9)]) ++ List.replicate (6 - (lg_sl ([.ref x0, .int (nI u), .int (nI k9)])).length) Slot.unset).toArray = ls at hl ⊢
  have hl : lv_has ls 6 [(0, .ref x0), (1, .int (nI u)), (2, .int (nI k9))] := hl
  obtain ⟨au, hs1, hs2⟩ := rs u hu
  have hs3 := hs2
  obtain ⟨a5, a9, f9, s0, sN, s9, sf⟩ := hs2
  obtain ⟨n1, n3, sn0⟩ := sN.fst
  have hat := gat u hu
  refine lv_iload_n hx hb d_MH_advance_0 rfl (lv_at hl 1 rfl) ?_
  refine lv_iconst (v := nI 4) hx hb d_MH_advance_1 (by decide) ?_
  refine mh_callR (mh_sS (rest := []) (av := [.int (nI u), .int (nI 4)]) K0 e_MH_needBelow l_MH_40 k144 rfl rfl d_MH_advance_2) (c_MH_needBelow hu (by decide)) K0 hOK hml hl.1 e_MH_needBelow hX hS d_MH_advance_2 (Nat.le_of_ble_eq_true rfl) (Nat.le_of_ble_eq_true rfl) (Nat.le_of_ble_eq_true rfl) (Nat.le_of_ble_eq_true rfl) (Nat.le_of_ble_eq_true rfl) (fun H locs hX hS => ?_)
  refine W.eq (g2 := F0 m 5 ls []) rfl ?_
  refine lv_iload_n hx hb d_MH_advance_5 rfl (lv_at hl 2 rfl) ?_
  refine lv_sipush (v := nI 401) hx hb d_MH_advance_6 (by decide) ?_
  refine mh_callR (mh_sS (rest := []) (av := [.int (nI k9), .int (nI 401)]) K0 e_MH_needBelow l_MH_40 k144 rfl rfl d_MH_advance_9) (c_MH_needBelow hk9 (by decide)) K0 hOK hml hl.1 e_MH_needBelow hX hS d_MH_advance_9 (Nat.le_of_ble_eq_true rfl) (Nat.le_of_ble_eq_true rfl) (Nat.le_of_ble_eq_true rfl) (Nat.le_of_ble_eq_true rfl) (Nat.le_of_ble_eq_true rfl) (fun H locs hX hS => ?_)
  refine W.eq (g2 := F0 m 12 ls []) rfl ?_
  refine lv_aload_n hx hb d_MH_advance_12 rfl (lv_at hl 0 rfl) ?_
  refine mh_get K0 hX r0 f_MH_18 rfl d_MH_advance_13 ?_
  refine lv_iload_n hx hb d_MH_advance_16 rfl (lv_at hl 1 rfl) ?_
  refine mh_aaldN 4 rfl K0 hX r3 (by omega) (by omega) (r := (some au)) (hs1) d_MH_advance_17 ?_
  refine W.eq (g2 := F0 m 18 ls [.ref au]) rfl ?_
  refine lv_astore_n (lv' := [(3, .ref au), (0, .ref x0), (1, .int (nI u)), (2, .int (nI k9))]) hx hb d_MH_advance_18 rfl hl (by decide) rfl (fun ls hl => ?_)
  refine lv_iload_n hx hb d_MH_advance_19 rfl (lv_at hl 3 rfl) ?_
  refine lv_aload_n hx hb d_MH_advance_20 rfl (lv_at hl 1 rfl) ?_
  refine mh_get K0 hX r0 f_MH_10 rfl d_MH_advance_21 ?_
  refine mh_callR (mh_sV (rest := [.int (nI k9)]) (av := []) K0 hX r1 rfl e_AL_size l_MH_109 k448 k449 rfl rfl d_MH_advance_24) (c_AL_size r1) K0 hOK hml hl.1 e_AL_size hX hS d_MH_advance_24 (Nat.le_of_ble_eq_true rfl) (Nat.le_of_ble_eq_true rfl) (Nat.le_of_ble_eq_true rfl) (Nat.le_of_ble_eq_true rfl) (Nat.le_of_ble_eq_true rfl) (fun H locs hX hS => ?_)
  refine W.eq (g2 := F0 m 27 ls [.int (nI (sg_n g)), .int (nI k9)]) rfl ?_
  refine lv_aload_n hx hb d_MH_advance_27 rfl (lv_at hl 0 rfl) ?_
  refine mh_get K0 hX s0 f_MH_51 rfl d_MH_advance_28 ?_
  refine mh_subN hx hb (by omega) d_MH_advance_31 ?_
  refine va_mmin (rest := []) hx hb (by rw [hml]; exact hl.1.symm) hown (hts _ k548) (hts _ k529) (hts _ k20) (hts _ k530) (Nat.le_of_ble_eq_true rfl) (Nat.le_of_ble_eq_true rfl) (Nat.le_of_ble_eq_true rfl) (Nat.le_of_ble_eq_true rfl) d_MH_advance_32 ?_
  refine mh_ti (y := nI (min k9 ((sg_n g) - (sg_at g u)))) (mh_mmin (by omega) (by omega)) ?_
  refine lv_istore (lv' := [(4, .int (nI (min k9 ((sg_n g) - (sg_at g u))))), (3, .ref au), (0, .ref x0), (1, .int (nI u)), (2, .int (nI k9))]) hx hb d_MH_advance_35 hl (by decide) rfl (fun ls hl => ?_)
  refine lv_iconst (v := nI 0) hx hb d_MH_advance_37 (by decide) ?_
  refine lv_istore (lv' := [(5, .int (nI 0)), (4, .int (nI (min k9 ((sg_n g) - (sg_at g u))))), (3, .ref au), (0, .ref x0), (1, .int (nI u)), (2, .int (nI k9))]) hx hb d_MH_advance_38 hl (by decide) rfl (fun ls hl => ?_)
  have LP : ∀ (n : Nat) (j : Nat) (w1 : mh_w) (H : Heap) (locs : List Loc) (ls : Array Slot), mh_P (dC, dI) b w1 H → va_S (mh_A b) s.heap H locs → lv_has ls 6 [(5, .int (nI j)), (4, .int (nI (min k9 ((sg_n g) - (sg_at g u))))), (3, .ref au), (0, .ref x0), (1, .int (nI u)), (2, .int (nI k9))] → (j + n = (min k9 (sg_n g - sg_at g u))) → (cS dA w1 (sg_lg g) (sg_at g u + j) u au) → (mh_F w w1 4 6 u) → W p l e (mh_rm 8 20 1000) s m ([.ref x0, .int (nI u), .int (nI k9)]).toArray below meth c H locs (0) (0) (mh_MQ below b dC dI (mh_V (some (.int (nI (min k9 (sg_n g - sg_at g u))))) (fun w' => rC dA zs w' x0 (g.1, va_up (sg_at g) u (sg_at g u + (min k9 (sg_n g - sg_at g u))), g.2.2) ∧ mh_C w w')) ([.ref x0, .int (nI u), .int (nI k9)]).toArray s 20 1000) (F0 m 40 ls []) := by
    intro n
    induction n with
    | zero =>
      intro j w1 H locs ls hX hS hl hn9 hC hF
      refine lv_iload hx hb d_MH_advance_40 (lv_at hl 0 rfl) ?_
      refine lv_iload hx hb d_MH_advance_42 (lv_at hl 1 rfl) ?_
      refine mh_icmp_ge (tgt := 71) hx hb (by omega) (by omega) d_MH_advance_44 (by decide) (fun _ => ?_) (fun z => absurd z (by omega))
      refine lv_iload hx hb d_MH_advance_71 (lv_at hl 1 rfl) ?_
      exact mh_iret K0 hr rfl hlocks hX hS (⟨rfl, ⟨aL, aS, aD, aV, sv, dr, vw, lg, hP.sv (fun k i h1 h2 => hF k i (by omega)) ⟨au, hs1, by rw [show (min k9 (sg_n g - sg_at g u)) = j by omega]; exact hC⟩⟩, fun k i h1 h2 => hF k i (by omega)⟩) (Nat.le_of_ble_eq_true rfl) (Nat.le_of_ble_eq_true rfl) d_MH_advance_73
    | succ n ih =>
      intro j w1 H locs ls hX hS hl hn9 hC hF
      have hC2 := hC
      obtain ⟨b5, b9, g9, t0, tN, t9, tf⟩ := hC2
      have hjn : sg_at g u + j < sg_n g := by omega
      obtain ⟨yy, hy1, hy2⟩ := rl _ hjn
      obtain ⟨ix, cap, ga, q1, q2, q3, q4⟩ := rAr.in hjn
      obtain ⟨d1, d3, d4, d5, d6, d7, j0⟩ := hy2.fst
      refine lv_iload hx hb d_MH_advance_40 (lv_at hl 0 rfl) ?_
      refine lv_iload hx hb d_MH_advance_42 (lv_at hl 1 rfl) ?_
      refine mh_icmp_ge (tgt := 71) hx hb (by omega) (by omega) d_MH_advance_44 (by decide) (fun z => absurd z (by omega)) (fun _ => ?_)
      refine lv_aload_n hx hb d_MH_advance_47 rfl (lv_at hl 2 rfl) ?_
      refine lv_aload_n hx hb d_MH_advance_48 rfl (lv_at hl 3 rfl) ?_
      refine mh_get K0 hX ((hF 0 0 (by omega)).trans r0) f_MH_10 rfl d_MH_advance_49 ?_
      refine lv_aload_n hx hb d_MH_advance_52 rfl (lv_at hl 2 rfl) ?_
      refine mh_get K0 hX t0 f_MH_51 rfl d_MH_advance_53 ?_
      refine mh_callR (mh_sV (rest := [.ref au]) (av := [.int (nI (sg_at g u + j))]) K0 hX ((hF 1 0 (by omega)).trans r1) rfl e_AL_get l_MH_133 k457 k458 rfl rfl d_MH_advance_56) (c_AL_get ((hF 1 0 (by omega)).trans r1) ((hF 2 ix (by omega)).trans q3) q2 hjn q1 (q4.trans hy1)) K0 hOK hml hl.1 e_AL_get hX hS d_MH_advance_56 (Nat.le_of_ble_eq_true rfl) (Nat.le_of_ble_eq_true rfl) (Nat.le_of_ble_eq_true rfl) (Nat.le_of_ble_eq_true rfl) (Nat.le_of_ble_eq_true rfl) (fun H locs hX hS => ?_)
      refine W.eq (g2 := F0 m 59 ls [.ref yy, .ref au]) rfl ?_
      refine mh_cast K0 hX ((hF 24 _ (by omega)).trans j0) rfl k113 d_MH_advance_59 ?_
      refine mh_callV (mh_sV (rest := []) (av := [.ref yy]) K0 hX t0 rfl e_SV_goThrough l_MH_137 k550 k551 rfl rfl d_MH_advance_62) (c_SV_goThrough hC (hy2.to (fun z hz => hF _ _ (by omega))) (glo _ hjn) (by omega)) K0 hOK hml hl.1 e_SV_goThrough hX hS d_MH_advance_62 (Nat.le_of_ble_eq_true rfl) (Nat.le_of_ble_eq_true rfl) (Nat.le_of_ble_eq_true rfl) (Nat.le_of_ble_eq_true rfl) (Nat.le_of_ble_eq_true rfl) (fun w2 H locs ⟨hS2, hF2⟩ hX hS => ?_)
      refine W.eq (g2 := F0 m 65 ls []) rfl ?_
      refine lv_iinc (v := nI (j + 1)) (k := 0) (lv' := [(5, .int (nI (j + 1))), (4, .int (nI (min k9 ((sg_n g) - (sg_at g u))))), (3, .ref au), (0, .ref x0), (1, .int (nI u)), (2, .int (nI k9))]) hx hb d_MH_advance_65 hl rfl (mh_inc j) (by decide) rfl (fun ls hl => ?_)
      refine lv_goto (tgt := 40) hx hb d_MH_advance_68 (by decide) ?_
      exact ih (j + 1) _ _ _ _ hX hS hl (by omega) (cS.succ hS2) (fun k i h => (hF2 k i h).trans (hF k i h))
  exact LP (min k9 (sg_n g - sg_at g u)) 0 _ _ _ _ hX hS hl (Nat.zero_add _) hs3 mh_F.rf
set_option maxHeartbeats 4000000 in
set_option maxRecDepth 100000 in
theorem c_MH_restart_2 {l : Launch} {b : Nat} {dC : Nat → ClassId} {dI : Nat → Nat → Nat} {dA : Nat → ClassId} {zs : Nat → Nat} {w : mh_w} (hl0 : l.stackTraces = false) {x0 : Nat} {g : st_G} (hR : rC dA zs w x0 g) (hG : sg_ok g) {u : Nat} (hu : u < 4) (h4 : ¬ sg_rs g < 4) : mh_Met l b dC dI dA zs y_MH_restart (mh_rm 8 20 1000) [.ref x0, .int (nI u)] w (mh_T 9 (fun w' => rC dA zs w' x0 g ∧ mh_C w w')) := by
  have hR2 := hR
  obtain ⟨aL, aS, aD, aV, sv, dr, vw, lg, hP⟩ := hR
  have hP2 := hP
  obtain ⟨r0, rLg, r3, r10, r11, rs, rv, rd, rl⟩ := hP2
  obtain ⟨mc, ar, r1, rAr⟩ := rLg
  have hG2 := hG
  obtain ⟨gn, grs, gat, glo, gdr⟩ := hG2
  refine mh_ofW (cc := b_MH_restart) (n := 3) (ret := none) (hs := []) (by decide) k569 ?_
  intro p e s m below meth c hx hb hr hml hown hts hlocks hnm hT hOK hadm
  have K0 : mh_K0 p s m ([.ref x0, .int (nI u)]).toArray c "MeldHost" b_MH_restart dC dI dA := ⟨hx, hb, hown, hts, hOK.1, hOK.2.1⟩
  have hX := hOK.2.2.2.2
  have hb0 := hOK.2.2.2.1
  have hS : va_S (mh_A b) s.heap s.heap [] := va_S.rf
  have hl := lv_entry ([.ref x0, .int (nI u)]) (n := 3) (Nat.le_of_ble_eq_true rfl)
  rw [lg_entry_eq]
  generalize (lg_sl ([.ref x0, .int (nI u)]) ++ List.replicate (3 - (lg_sl ([.ref x0, .int (nI u)])).length) Slot.unset).toArray = ls at hl ⊢
  have hl : lv_has ls 3 [(0, .ref x0), (1, .int (nI u))] := hl
  refine lv_iload_n hx hb d_MH_restart_0 rfl (lv_at hl 1 rfl) ?_
  refine lv_iconst (v := nI 4) hx hb d_MH_restart_1 (by decide) ?_
  refine mh_callR (mh_sS (rest := []) (av := [.int (nI u), .int (nI 4)]) K0 e_MH_needBelow l_MH_40 k144 rfl rfl d_MH_restart_2) (c_MH_needBelow hu (by decide)) K0 hOK hml hl.1 e_MH_needBelow hX hS d_MH_restart_2 (Nat.le_of_ble_eq_true rfl) (Nat.le_of_ble_eq_true rfl) (Nat.le_of_ble_eq_true rfl) (Nat.le_of_ble_eq_true rfl) (Nat.le_of_ble_eq_true rfl) (fun H locs hX hS => ?_)
  refine W.eq (g2 := F0 m 5 ls []) rfl ?_
  refine lv_aload_n hx hb d_MH_restart_5 rfl (lv_at hl 0 rfl) ?_
  refine mh_get K0 hX r0 f_MH_36 rfl d_MH_restart_6 ?_
  refine lv_iconst (v := nI 4) hx hb d_MH_restart_9 (by decide) ?_
  refine mh_icmp_lt (tgt := 23) hx hb (by omega) (by omega) d_MH_restart_10 (by decide) (fun z => absurd z (by omega)) (fun _ => ?_)
  exact mh_throw hl0 K0 hOK ex_IS (is := 141) (tx := "there were four restarts") (by decide) k215 hlocks hT hml hl.1 hX hS (fun q => ⟨q, rfl, mh_set_eq _ _ _ _, hR2.x mh_x.of, mh_x.of.C⟩) (Nat.le_of_ble_eq_true rfl) (Nat.le_of_ble_eq_true rfl) (Nat.le_of_ble_eq_true rfl) (Nat.le_of_ble_eq_true rfl) (Nat.le_of_ble_eq_true rfl) (Nat.le_of_ble_eq_true rfl) d_MH_restart_13 d_MH_restart_16 d_MH_restart_17 d_MH_restart_19 d_MH_restart_22
set_option maxHeartbeats 4000000 in
set_option maxRecDepth 100000 in
theorem c_MH_restart_0 {l : Launch} {b : Nat} {dC : Nat → ClassId} {dI : Nat → Nat → Nat} {dA : Nat → ClassId} {zs : Nat → Nat} {w : mh_w} {x0 : Nat} {g : st_G} (hR : rC dA zs w x0 g) (hG : sg_ok g) {u : Nat} (hu : u < 4) (h4 : sg_rs g < 4) : mh_Met l b dC dI dA zs y_MH_restart (mh_rm 8 20 1000) [.ref x0, .int (nI u)] w (mh_V none (fun w' => rC dA zs w' x0 (g.1, va_up (sg_at g) u 0, (fun t => match sg_dr g t with | some x => if iv_sv x = u then none else some x | none => none), sg_rs g + 1) ∧ mh_C w w')) := by
  have hR2 := hR
  obtain ⟨aL, aS, aD, aV, sv, dr, vw, lg, hP⟩ := hR
  have hP2 := hP
  obtain ⟨r0, rLg, r3, r10, r11, rs, rv, rd, rl⟩ := hP2
  obtain ⟨mc, ar, r1, rAr⟩ := rLg
  have hG2 := hG
  obtain ⟨gn, grs, gat, glo, gdr⟩ := hG2
  refine mh_ofW (cc := b_MH_restart) (n := 3) (ret := none) (hs := []) (by decide) k569 ?_
  intro p e s m below meth c hx hb hr hml hown hts hlocks hnm hT hOK hadm
  have K0 : mh_K0 p s m ([.ref x0, .int (nI u)]).toArray c "MeldHost" b_MH_restart dC dI dA := ⟨hx, hb, hown, hts, hOK.1, hOK.2.1⟩
  have hX := hOK.2.2.2.2
  have hb0 := hOK.2.2.2.1
  have hS : va_S (mh_A b) s.heap s.heap [] := va_S.rf
  have hl := lv_entry ([.ref x0, .int (nI u)]) (n := 3) (Nat.le_of_ble_eq_true rfl)
  rw [lg_entry_eq]
  generalize (lg_sl ([.ref x0, .int (nI u)]) ++ List.replicate (3 - (lg_sl ([.ref x0, .int (nI u)])).length) Slot.unset).toArray = ls at hl ⊢
  have hl : lv_has ls 3 [(0, .ref x0), (1, .int (nI u))] := hl
  obtain ⟨au, hs1, hs2⟩ := rs u hu
  have hs3 := hs2
  obtain ⟨a5, a9, f9, s0, sN, s9, sf⟩ := hs2
  obtain ⟨n1, n3, sn0⟩ := sN.fst
  refine lv_iload_n hx hb d_MH_restart_0 rfl (lv_at hl 1 rfl) ?_
  refine lv_iconst (v := nI 4) hx hb d_MH_restart_1 (by decide) ?_
  refine mh_callR (mh_sS (rest := []) (av := [.int (nI u), .int (nI 4)]) K0 e_MH_needBelow l_MH_40 k144 rfl rfl d_MH_restart_2) (c_MH_needBelow hu (by decide)) K0 hOK hml hl.1 e_MH_needBelow hX hS d_MH_restart_2 (Nat.le_of_ble_eq_true rfl) (Nat.le_of_ble_eq_true rfl) (Nat.le_of_ble_eq_true rfl) (Nat.le_of_ble_eq_true rfl) (Nat.le_of_ble_eq_true rfl) (fun H locs hX hS => ?_)
  refine W.eq (g2 := F0 m 5 ls []) rfl ?_
  refine lv_aload_n hx hb d_MH_restart_5 rfl (lv_at hl 0 rfl) ?_
  refine mh_get K0 hX r0 f_MH_36 rfl d_MH_restart_6 ?_
  refine lv_iconst (v := nI 4) hx hb d_MH_restart_9 (by decide) ?_
  refine mh_icmp_lt (tgt := 23) hx hb (by omega) (by omega) d_MH_restart_10 (by decide) (fun _ => ?_) (fun z => absurd z (by omega))
  refine lv_aload_n hx hb d_MH_restart_23 rfl (lv_at hl 0 rfl) ?_
  refine lv_dup hx hb d_MH_restart_24 rfl ?_
  refine mh_get K0 hX r0 f_MH_36 rfl d_MH_restart_25 ?_
  refine lv_iconst (v := nI 1) hx hb d_MH_restart_28 (by decide) ?_
  refine mh_addN hx hb d_MH_restart_29 ?_
  refine mh_put K0 hX hS r0 f_MH_36 p_4_4 rfl rfl (Nat.le_of_ble_eq_true rfl) d_MH_restart_30 (fun H locs hX hS => ?_)
  have hX : mh_P (dC, dI) b (mh_set _ 0 0 (some (x0, .inr (4, [.ref aL, .ref aS, .ref aD, .ref aV, .int (nI ((sg_rs g) + 1))])))) H := hX
  have fs66 := mh_self hX
  refine lv_aload_n hx hb d_MH_restart_33 rfl (lv_at hl 0 rfl) ?_
  refine mh_get K0 hX fs66 f_MH_18 rfl d_MH_restart_34 ?_
  refine lv_iload_n hx hb d_MH_restart_37 rfl (lv_at hl 1 rfl) ?_
  refine mh_aaldN 4 rfl K0 hX (mh_kp r3 (by omega)) (by omega) (by omega) (r := (some au)) (hs1) d_MH_restart_38 ?_
  refine W.eq (g2 := F0 m 39 ls [.ref au]) rfl ?_
  refine mh_callV (mh_sV (rest := []) (av := []) K0 hX (mh_kp s0 (by omega)) rfl e_SV_startOver l_MH_143 k572 k573 rfl rfl d_MH_restart_39) (c_SV_startOver (hs3.to (fun k h1 h2 => by rw [mh_set_ne _ _ _ _ (by omega)]) (fun _ _ => rfl))) K0 hOK hml hl.1 e_SV_startOver hX hS d_MH_restart_39 (Nat.le_of_ble_eq_true rfl) (Nat.le_of_ble_eq_true rfl) (Nat.le_of_ble_eq_true rfl) (Nat.le_of_ble_eq_true rfl) (Nat.le_of_ble_eq_true rfl) (fun w1 H locs ⟨hS2, hF⟩ hX hS => ?_)
  refine W.eq (g2 := F0 m 42 ls []) rfl ?_
  refine lv_iconst (v := nI 0) hx hb d_MH_restart_42 (by decide) ?_
  refine lv_istore_n (lv' := [(2, .int (nI 0)), (0, .ref x0), (1, .int (nI u))]) hx hb d_MH_restart_43 rfl hl (by decide) rfl (fun ls hl => ?_)
  have hx0 := ((hF 0 0 (by omega)).trans fs66)
  have hD0 := ((hF 10 0 (by omega)).trans (mh_kp r10 (by omega)))
  have hwA : ∀ k i, k < 100 → ¬ (k = 0 ∧ i = 0) → ¬ (4 ≤ k ∧ k < 10 ∧ i = u) → w1 k i = w k i := fun k i h0 h1 h2 => by rw [hF _ _ (by omega), mh_set_ne _ _ _ _ (by omega)]
  have LP : ∀ (n : Nat) (j : Nat) (w2 : mh_w) (dr1 : Nat → Option Nat) (H : Heap) (locs : List Loc) (ls : Array Slot), mh_P (dC, dI) b w2 H → va_S (mh_A b) s.heap H locs → lv_has ls 3 [(2, .int (nI j)), (0, .ref x0), (1, .int (nI u))] → (j + n = 16) → (∀ z, z < 16 → dr1 z = if z < j then (match sg_dr g z with | some x => if iv_sv x = u then none else dr z | none => none) else dr z) → (w2 10 0 = some (aD, .inl (dA 5, 16, .inr (.inr (.inr (.inr dr1)))))) → (mh_F w1 w2 10 1 0) → W p l e (mh_rm 8 20 1000) s m ([.ref x0, .int (nI u)]).toArray below meth c H locs (0) (0) (mh_MQ below b dC dI (mh_V none (fun w' => rC dA zs w' x0 (g.1, va_up (sg_at g) u 0, (fun t => match sg_dr g t with | some x => if iv_sv x = u then none else some x | none => none), sg_rs g + 1) ∧ mh_C w w')) ([.ref x0, .int (nI u)]).toArray s 20 1000) (F0 m 44 ls []) := by
    intro n
    induction n with
    | zero =>
      intro j w2 dr1 H locs ls hX hS hl hn9 hdr h10 hF2
      refine lv_iload_n hx hb d_MH_restart_44 rfl (lv_at hl 0 rfl) ?_
      refine lv_bipush (v := nI 16) hx hb d_MH_restart_45 (by decide) ?_
      refine mh_icmp_ge (tgt := 85) hx hb (by omega) (by omega) d_MH_restart_47 (by decide) (fun _ => ?_) (fun z => absurd z (by omega))
      exact mh_vret K0 hr hlocks hX hS (⟨rfl, ⟨aL, aS, aD, aV, sv, dr1, vw, lg, hP.rs (fun k i a1 a2 a3 a4 => (hF2 k i (by omega)).trans (hwA k i (by omega) a2 a4)) ((hF2 0 0 (by omega)).trans hx0) h10 (fun z hz => by rw [hdr z hz, if_pos (by omega)]) ⟨au, hs1, rS.to hS2 (fun k a1 a2 => hF2 k u (by omega)) (fun _ _ => rfl) (fun _ _ => rfl)⟩⟩, fun k i a1 a2 => (hF2 k i (by omega)).trans (by rw [hF _ _ (by omega), mh_set_ne _ _ _ _ (by omega)])⟩) (Nat.le_of_ble_eq_true rfl) (Nat.le_of_ble_eq_true rfl) d_MH_restart_85
    | succ n ih =>
      intro j w2 dr1 H locs ls hX hS hl hn9 hdr h10 hF2
      refine lv_iload_n hx hb d_MH_restart_44 rfl (lv_at hl 0 rfl) ?_
      refine lv_bipush (v := nI 16) hx hb d_MH_restart_45 (by decide) ?_
      refine mh_icmp_ge (tgt := 85) hx hb (by omega) (by omega) d_MH_restart_47 (by decide) (fun z => absurd z (by omega)) (fun _ => ?_)
      refine lv_aload_n hx hb d_MH_restart_50 rfl (lv_at hl 1 rfl) ?_
      refine mh_get K0 hX ((hF2 0 0 (by omega)).trans hx0) f_MH_25 rfl d_MH_restart_51 ?_
      refine lv_iload_n hx hb d_MH_restart_54 rfl (lv_at hl 0 rfl) ?_
      have hdj := hdr j (by omega)
      rw [if_neg (Nat.lt_irrefl j)] at hdj
      cases e9 : sg_dr g j with
      | none =>
        refine mh_aaldN 5 rfl K0 hX h10 (by omega) (by omega) (r := none) (hdj.trans ((rd j (by omega)).none e9)) d_MH_restart_55 ?_
        refine W.eq (g2 := F0 m 56 ls [.null]) rfl ?_
        refine lv_ifnullN (tgt := 79) hx hb d_MH_restart_56 (by decide) ?_
        refine lv_iinc (v := nI (j + 1)) (k := 0) (lv' := [(2, .int (nI (j + 1))), (0, .ref x0), (1, .int (nI u))]) hx hb d_MH_restart_79 hl rfl (mh_inc j) (by decide) rfl (fun ls hl => ?_)
        refine lv_goto (tgt := 44) hx hb d_MH_restart_82 (by decide) ?_
        refine ih (j + 1) _ _ _ _ _ hX hS hl (by omega) (fun z hz => ?_) h10 hF2
        by_cases e8 : z = j
        · rw [e8, if_pos (by omega), e9]; exact hdj.trans ((rd j (by omega)).none e9)
        · rw [hdr z hz]; by_cases e7 : z < j; (rw [if_pos e7, if_pos (by omega)]); (rw [if_neg e7, if_neg (by omega)])
      | some x =>
        obtain ⟨yy, hy1, hy2⟩ := (rd j (by omega)).some e9
        obtain ⟨d1, d3, d4, d5, d6, d7, j0⟩ := hy2.fst
        have ho := gdr j x (by omega) e9
        have ho1 := ho.1
        refine mh_aaldN 5 rfl K0 hX h10 (by omega) (by omega) (r := (some yy)) (hdj.trans hy1) d_MH_restart_55 ?_
        refine W.eq (g2 := F0 m 56 ls [.ref yy]) rfl ?_
        refine lv_ifnull hx hb d_MH_restart_56 ?_
        refine lv_aload_n hx hb d_MH_restart_59 rfl (lv_at hl 1 rfl) ?_
        refine mh_get K0 hX ((hF2 0 0 (by omega)).trans hx0) f_MH_25 rfl d_MH_restart_60 ?_
        refine lv_iload_n hx hb d_MH_restart_63 rfl (lv_at hl 0 rfl) ?_
        refine mh_aaldN 5 rfl K0 hX h10 (by omega) (by omega) (r := (some yy)) (hdj.trans hy1) d_MH_restart_64 ?_
        refine W.eq (g2 := F0 m 65 ls [.ref yy]) rfl ?_
        refine mh_get K0 hX ((hF2 16 j (by omega)).trans ((hwA 16 j (by omega) (by omega) (by omega)).trans j0)) f_MH_146 rfl d_MH_restart_65 ?_
        refine lv_iload_n hx hb d_MH_restart_68 rfl (lv_at hl 2 rfl) ?_
        refine mh_icmp_ne (tgt := 79) hx hb (by omega) (by omega) d_MH_restart_69 (by decide) (fun ct => ?_) (fun cf => ?_)
        · skip
          refine lv_iinc (v := nI (j + 1)) (k := 0) (lv' := [(2, .int (nI (j + 1))), (0, .ref x0), (1, .int (nI u))]) hx hb d_MH_restart_79 hl rfl (mh_inc j) (by decide) rfl (fun ls hl => ?_)
          refine lv_goto (tgt := 44) hx hb d_MH_restart_82 (by decide) ?_
          refine ih (j + 1) _ _ _ _ _ hX hS hl (by omega) (fun z hz => ?_) h10 hF2
          by_cases e8 : z = j
          · rw [e8, if_pos (by omega), e9]; rw [hdj]; simp only [if_neg ct]
          · rw [hdr z hz]; by_cases e7 : z < j; (rw [if_pos e7, if_pos (by omega)]); (rw [if_neg e7, if_neg (by omega)])
        · skip
          refine lv_aload_n hx hb d_MH_restart_72 rfl (lv_at hl 1 rfl) ?_
          refine mh_get K0 hX ((hF2 0 0 (by omega)).trans hx0) f_MH_25 rfl d_MH_restart_73 ?_
          refine lv_iload_n hx hb d_MH_restart_76 rfl (lv_at hl 0 rfl) ?_
          refine lv_null hx hb d_MH_restart_77 ?_
          refine mh_aastNN 5 rfl K0 hX hS h10 (by omega) (by omega) d_MH_restart_78 (fun H locs hX hS => ?_)
          have fs67 := mh_self hX
          refine lv_iinc (v := nI (j + 1)) (k := 0) (lv' := [(2, .int (nI (j + 1))), (0, .ref x0), (1, .int (nI u))]) hx hb d_MH_restart_79 hl rfl (mh_inc j) (by decide) rfl (fun ls hl => ?_)
          refine lv_goto (tgt := 44) hx hb d_MH_restart_82 (by decide) ?_
          refine ih (j + 1) _ _ _ _ _ hX hS hl (by omega) (fun z hz => ?_) fs67 (hF2.set (by omega) (by omega))
          by_cases e8 : z = j
          · rw [e8, if_pos (by omega), e9]; rw [va_up_self]; simp only [if_pos cf]
          · rw [va_up_ne _ _ e8]; rw [hdr z hz]; by_cases e7 : z < j; (rw [if_pos e7, if_pos (by omega)]); (rw [if_neg e7, if_neg (by omega)])
  exact LP 16 0 _ _ _ _ _ hX hS hl rfl (fun z hz => by rw [if_neg (Nat.not_lt_zero z)]) hD0 mh_F.rf
end
section
theorem d_MH_init_0 : decode b_MH_init 0 = .ok (.aload_n 0, 1) := by decide +kernel
theorem d_MH_init_1 : decode b_MH_init 1 = .ok (.invokespecial 1, 3) := by decide +kernel
theorem d_MH_init_4 : decode b_MH_init 4 = .ok (.aload_n 0, 1) := by decide +kernel
theorem d_MH_init_5 : decode b_MH_init 5 = .ok (.new 7, 3) := by decide +kernel
theorem d_MH_init_8 : decode b_MH_init 8 = .ok (.dup, 1) := by decide +kernel
theorem d_MH_init_9 : decode b_MH_init 9 = .ok (.invokespecial 9, 3) := by decide +kernel
theorem d_MH_init_12 : decode b_MH_init 12 = .ok (.putfield 10, 3) := by decide +kernel
theorem d_MH_init_15 : decode b_MH_init 15 = .ok (.aload_n 0, 1) := by decide +kernel
theorem d_MH_init_16 : decode b_MH_init 16 = .ok (.iconst 4, 1) := by decide +kernel
theorem d_MH_init_17 : decode b_MH_init 17 = .ok (.anewarray 16, 3) := by decide +kernel
theorem d_MH_init_20 : decode b_MH_init 20 = .ok (.putfield 18, 3) := by decide +kernel
theorem d_MH_init_23 : decode b_MH_init 23 = .ok (.iconst 0, 1) := by decide +kernel
theorem d_MH_init_24 : decode b_MH_init 24 = .ok (.istore_n 1, 1) := by decide +kernel
theorem d_MH_init_25 : decode b_MH_init 25 = .ok (.iload_n 1, 1) := by decide +kernel
theorem d_MH_init_26 : decode b_MH_init 26 = .ok (.iconst 4, 1) := by decide +kernel
theorem d_MH_init_27 : decode b_MH_init 27 = .ok (.if_icmp .ge 22, 3) := by decide +kernel
theorem d_MH_init_49 : decode b_MH_init 49 = .ok (.aload_n 0, 1) := by decide +kernel
theorem d_MH_init_50 : decode b_MH_init 50 = .ok (.bipush 16, 2) := by decide +kernel
theorem d_MH_init_52 : decode b_MH_init 52 = .ok (.anewarray 23, 3) := by decide +kernel
theorem d_MH_init_55 : decode b_MH_init 55 = .ok (.putfield 25, 3) := by decide +kernel
theorem d_MH_init_58 : decode b_MH_init 58 = .ok (.aload_n 0, 1) := by decide +kernel
theorem d_MH_init_59 : decode b_MH_init 59 = .ok (.bipush 16, 2) := by decide +kernel
theorem d_MH_init_61 : decode b_MH_init 61 = .ok (.anewarray 29, 3) := by decide +kernel
theorem d_MH_init_64 : decode b_MH_init 64 = .ok (.putfield 31, 3) := by decide +kernel
theorem d_MH_init_67 : decode b_MH_init 67 = .ok (.iconst 0, 1) := by decide +kernel
theorem d_MH_init_68 : decode b_MH_init 68 = .ok (.istore_n 1, 1) := by decide +kernel
theorem d_MH_init_69 : decode b_MH_init 69 = .ok (.iload_n 1, 1) := by decide +kernel
theorem d_MH_init_70 : decode b_MH_init 70 = .ok (.bipush 16, 2) := by decide +kernel
theorem d_MH_init_72 : decode b_MH_init 72 = .ok (.if_icmp .ge 22, 3) := by decide +kernel
theorem d_MH_init_94 : decode b_MH_init 94 = .ok (.aload_n 0, 1) := by decide +kernel
theorem d_MH_init_95 : decode b_MH_init 95 = .ok (.iconst 0, 1) := by decide +kernel
theorem d_MH_init_96 : decode b_MH_init 96 = .ok (.putfield 36, 3) := by decide +kernel
theorem d_MH_init_99 : decode b_MH_init 99 = .ok (.return_, 1) := by decide +kernel
theorem d_MH_init_75 : decode b_MH_init 75 = .ok (.aload_n 0, 1) := by decide +kernel
theorem d_MH_init_76 : decode b_MH_init 76 = .ok (.getfield 31, 3) := by decide +kernel
theorem d_MH_init_79 : decode b_MH_init 79 = .ok (.iload_n 1, 1) := by decide +kernel
theorem d_MH_init_80 : decode b_MH_init 80 = .ok (.new 29, 3) := by decide +kernel
theorem d_MH_init_83 : decode b_MH_init 83 = .ok (.dup, 1) := by decide +kernel
theorem d_MH_init_84 : decode b_MH_init 84 = .ok (.invokespecial 35, 3) := by decide +kernel
theorem d_MH_init_87 : decode b_MH_init 87 = .ok (.aastore, 1) := by decide +kernel
theorem d_MH_init_88 : decode b_MH_init 88 = .ok (.iinc 1 1, 3) := by decide +kernel
theorem d_MH_init_91 : decode b_MH_init 91 = .ok (.goto (-22), 3) := by decide +kernel
theorem d_MH_init_30 : decode b_MH_init 30 = .ok (.aload_n 0, 1) := by decide +kernel
theorem d_MH_init_31 : decode b_MH_init 31 = .ok (.getfield 18, 3) := by decide +kernel
theorem d_MH_init_34 : decode b_MH_init 34 = .ok (.iload_n 1, 1) := by decide +kernel
theorem d_MH_init_35 : decode b_MH_init 35 = .ok (.new 16, 3) := by decide +kernel
theorem d_MH_init_38 : decode b_MH_init 38 = .ok (.dup, 1) := by decide +kernel
theorem d_MH_init_39 : decode b_MH_init 39 = .ok (.invokespecial 22, 3) := by decide +kernel
theorem d_MH_init_42 : decode b_MH_init 42 = .ok (.aastore, 1) := by decide +kernel
theorem d_MH_init_43 : decode b_MH_init 43 = .ok (.iinc 1 1, 3) := by decide +kernel
theorem d_MH_init_46 : decode b_MH_init 46 = .ok (.goto (-21), 3) := by decide +kernel
set_option maxHeartbeats 4000000 in
set_option maxRecDepth 100000 in
theorem c_MH_init {l : Launch} {b : Nat} {dC : Nat → ClassId} {dI : Nat → Nat → Nat} {dA : Nat → ClassId} {zs : Nat → Nat} {w : mh_w} {x0 : Nat} (h : w 0 0 = some (x0, .inr (4, [.null, .null, .null, .null, .int (nI 0)]))) : mh_Met l b dC dI dA zs y_MH_init (mh_rm 4 100 7000) [.ref x0] w (mh_V none (fun w' => rC dA zs w' x0 st_G0 ∧ mh_C w w')) := by
  refine mh_ofW (cc := b_MH_init) (n := 2) (ret := none) (hs := []) (by decide) k29 ?_
  intro p e s m below meth c hx hb hr hml hown hts hlocks hnm hT hOK hadm
  have K0 : mh_K0 p s m ([.ref x0]).toArray c "MeldHost" b_MH_init dC dI dA := ⟨hx, hb, hown, hts, hOK.1, hOK.2.1⟩
  have hX := hOK.2.2.2.2
  have hb0 := hOK.2.2.2.1
  have hS : va_S (mh_A b) s.heap s.heap [] := va_S.rf
  have hl := lv_entry ([.ref x0]) (n := 2) (Nat.le_of_ble_eq_true rfl)
  rw [lg_entry_eq]
  generalize (lg_sl ([.ref x0]) ++ List.replicate (2 - (lg_sl ([.ref x0])).length) Slot.unset).toArray = ls at hl ⊢
  have hl : lv_has ls 2 [(0, .ref x0)] := hl
  refine lv_aload_n hx hb d_MH_init_0 rfl (lv_at hl 0 rfl) ?_
  refine W.objInit hx hb hown (hts _ k30) (hts _ k31) (hts _ k32) rfl (by rw [hml]; exact hl.1) rfl d_MH_init_1 (Nat.le_of_ble_eq_true rfl) (Nat.le_of_ble_eq_true rfl) ?_
  refine W.eq (g2 := F0 m 4 ls []) rfl ?_
  refine lv_aload_n hx hb d_MH_init_4 rfl (lv_at hl 0 rfl) ?_
  refine mh_new 1 0 K0 hX hS hb0 (ci := 5) rfl i_AL ty_AL ty_AL_ok k33 k34 k4 (fs := [.int (nI 0), .null, .int (nI 0)]) (by decide) (Nat.le_of_ble_eq_true rfl) (Nat.le_of_ble_eq_true rfl) d_MH_init_5 (fun q1 H hX hS => ?_)
  have fs68 := mh_self hX
  refine lv_dup hx hb d_MH_init_8 rfl ?_
  refine mh_callV (mh_sI (rest := [.ref q1, .ref x0]) (av := []) K0 e_AL_init l_MH_9 k36 rfl rfl rfl d_MH_init_9) (c_AL_init (mh_set_eq _ _ _ _)) K0 hOK hml hl.1 e_AL_init hX hS d_MH_init_9 (Nat.le_of_ble_eq_true rfl) (Nat.le_of_ble_eq_true rfl) (Nat.le_of_ble_eq_true rfl) (Nat.le_of_ble_eq_true rfl) (Nat.le_of_ble_eq_true rfl) (fun w1 H locs ⟨hL, hF⟩ hX hS => ?_)
  refine W.eq (g2 := F0 m 12 ls [.ref q1, .ref x0]) rfl ?_
  refine mh_putF K0 hX hS ((hF 0 0 (by omega)).trans (mh_kp h (by omega))) f_MH_10 p_4_0 hnm (fun C T N h => by cases h; rfl) rfl rfl (Nat.le_of_ble_eq_true rfl) d_MH_init_12 (fun C T N h => by cases h; exact k118) (fun H locs hX hS => ?_)
  have hX : mh_P (dC, dI) b (mh_set _ 0 0 (some (x0, .inr (4, [.ref q1, .null, .null, .null, .int (nI 0)])))) H := hX
  have fs69 := mh_self hX
  refine lv_aload_n hx hb d_MH_init_15 rfl (lv_at hl 0 rfl) ?_
  refine lv_iconst (v := nI 4) hx hb d_MH_init_16 (by decide) ?_
  refine mh_newq 3 0 4 K0 hX hS hb0 rfl k59 (hOK.2.2.1.1.2.1) (N' := 4) (by decide) (by decide) (by decide) (Nat.le_of_ble_eq_true rfl) (Nat.le_of_ble_eq_true rfl) d_MH_init_17 (fun q3 H hX hS => ?_)
  have fs70 := mh_self hX
  refine mh_putF K0 hX hS (mh_kp fs69 (by omega)) f_MH_18 p_4_1 hnm (fun C T N h => by cases h; rfl) rfl rfl (Nat.le_of_ble_eq_true rfl) d_MH_init_20 (fun C T N h => by cases h; exact k119) (fun H locs hX hS => ?_)
  have hX : mh_P (dC, dI) b (mh_set _ 0 0 (some (x0, .inr (4, [.ref q1, .ref q3, .null, .null, .int (nI 0)])))) H := hX
  have fs71 := mh_self hX
  refine lv_iconst (v := nI 0) hx hb d_MH_init_23 (by decide) ?_
  refine lv_istore_n (lv' := [(1, .int (nI 0)), (0, .ref x0)]) hx hb d_MH_init_24 rfl hl (by decide) rfl (fun ls hl => ?_)
  have LP : ∀ (n : Nat) (j : Nat) (w2 : mh_w) (sv1 : Nat → Option Nat) (H : Heap) (locs : List Loc) (ls : Array Slot), mh_P (dC, dI) b w2 H → va_S (mh_A b) s.heap H locs → lv_has ls 2 [(1, .int (nI j)), (0, .ref x0)] → (j + n = 4) → (w2 0 0 = some (x0, .inr (4, [.ref q1, .ref q3, .null, .null, .int (nI 0)]))) → (rL dA zs w2 q1 0 (fun _ => none)) → (w2 3 0 = some (q3, .inl (dA 4, 4, .inr (.inr (.inr (.inr sv1)))))) → (∀ z, z < j → ∃ a, sv1 z = some a ∧ rS dA w2 z a (fun _ => none) (fun _ => -1) 0 0) → (mh_C w w2) → W p l e (mh_rm 4 100 7000) s m ([.ref x0]).toArray below meth c H locs (2 + 6 * j) (7 + 523 * j) (mh_MQ below b dC dI (mh_V none (fun w' => rC dA zs w' x0 st_G0 ∧ mh_C w w')) ([.ref x0]).toArray s 100 7000) (F0 m 25 ls []) := by
    intro n
    induction n with
    | zero =>
      intro j w2 sv1 H locs ls hX hS hl hn9 hxo hL2 h3 hsv hFr
      have e4 : j = 4 := by omega
      subst e4
      refine lv_iload_n hx hb d_MH_init_25 rfl (lv_at hl 0 rfl) ?_
      refine lv_iconst (v := nI 4) hx hb d_MH_init_26 (by decide) ?_
      refine mh_icmp_ge (tgt := 49) hx hb (by omega) (by omega) d_MH_init_27 (by decide) (fun _ => ?_) (fun z => absurd z (by omega))
      refine lv_aload_n hx hb d_MH_init_49 rfl (lv_at hl 1 rfl) ?_
      refine lv_bipush (v := nI 16) hx hb d_MH_init_50 (by decide) ?_
      refine mh_newq 10 0 5 K0 hX hS hb0 rfl k113 (hOK.2.2.1.1.2.2.1) (N' := 16) (by decide) (by decide) (by decide) (Nat.le_of_ble_eq_true rfl) (Nat.le_of_ble_eq_true rfl) d_MH_init_52 (fun q10 H hX hS => ?_)
      have fs72 := mh_self hX
      refine mh_putF K0 hX hS (mh_kp hxo (by omega)) f_MH_25 p_4_2 hnm (fun C T N h => by cases h; rfl) rfl rfl (Nat.le_of_ble_eq_true rfl) d_MH_init_55 (fun C T N h => by cases h; exact k120) (fun H locs hX hS => ?_)
      have hX : mh_P (dC, dI) b (mh_set _ 0 0 (some (x0, .inr (4, [.ref q1, .ref q3, .ref q10, .null, .int (nI 0)])))) H := hX
      have fs73 := mh_self hX
      refine lv_aload_n hx hb d_MH_init_58 rfl (lv_at hl 1 rfl) ?_
      refine lv_bipush (v := nI 16) hx hb d_MH_init_59 (by decide) ?_
      refine mh_newq 11 0 6 K0 hX hS hb0 rfl k115 (hOK.2.2.1.1.2.2.2.1) (N' := 16) (by decide) (by decide) (by decide) (Nat.le_of_ble_eq_true rfl) (Nat.le_of_ble_eq_true rfl) d_MH_init_61 (fun q11 H hX hS => ?_)
      have fs74 := mh_self hX
      refine mh_putF K0 hX hS (mh_kp fs73 (by omega)) f_MH_31 p_4_3 hnm (fun C T N h => by cases h; rfl) rfl rfl (Nat.le_of_ble_eq_true rfl) d_MH_init_64 (fun C T N h => by cases h; exact k121) (fun H locs hX hS => ?_)
      have hX : mh_P (dC, dI) b (mh_set _ 0 0 (some (x0, .inr (4, [.ref q1, .ref q3, .ref q10, .ref q11, .int (nI 0)])))) H := hX
      have fs75 := mh_self hX
      refine lv_iconst (v := nI 0) hx hb d_MH_init_67 (by decide) ?_
      refine lv_istore_n (lv' := [(1, .int (nI 0)), (0, .ref x0)]) hx hb d_MH_init_68 rfl hl (by decide) rfl (fun ls hl => ?_)
      have LP2 : ∀ (n : Nat) (j : Nat) (w4 : mh_w) (vw1 : Nat → Option Nat) (H : Heap) (locs : List Loc) (ls : Array Slot), mh_P (dC, dI) b w4 H → va_S (mh_A b) s.heap H locs → lv_has ls 2 [(1, .int (nI j)), (0, .ref x0)] → (j + n = 16) → (w4 0 0 = some (x0, .inr (4, [.ref q1, .ref q3, .ref q10, .ref q11, .int (nI 0)]))) → (rL dA zs w4 q1 0 (fun _ => none)) → (w4 3 0 = some (q3, .inl (dA 4, 4, .inr (.inr (.inr (.inr sv1)))))) → (w4 10 0 = some (q10, .inl (dA 5, 16, .inr (.inr (.inr (.inr (fun _ => none))))))) → (w4 11 0 = some (q11, .inl (dA 6, 16, .inr (.inr (.inr (.inr vw1)))))) → (∀ z, z < 4 → ∃ a, sv1 z = some a ∧ rS dA w4 z a (fun _ => none) (fun _ => -1) 0 0) → (∀ z, z < j → ∃ a, vw1 z = some a ∧ rN dA w4 12 z a (fun _ => none)) → (mh_C w w4) → W p l e (mh_rm 4 100 7000) s m ([.ref x0]).toArray below meth c H locs (28 + 4 * j) (2131 + 263 * j) (mh_MQ below b dC dI (mh_V none (fun w' => rC dA zs w' x0 st_G0 ∧ mh_C w w')) ([.ref x0]).toArray s 100 7000) (F0 m 69 ls []) := by
        intro n
        induction n with
        | zero =>
          intro j w4 vw1 H locs ls hX hS hl hn9 hxo hL4 h3 h10 h11 hsv4 hvw hFr4
          have e16 : j = 16 := by omega
          subst e16
          refine lv_iload_n hx hb d_MH_init_69 rfl (lv_at hl 0 rfl) ?_
          refine lv_bipush (v := nI 16) hx hb d_MH_init_70 (by decide) ?_
          refine mh_icmp_ge (tgt := 94) hx hb (by omega) (by omega) d_MH_init_72 (by decide) (fun _ => ?_) (fun z => absurd z (by omega))
          refine lv_aload_n hx hb d_MH_init_94 rfl (lv_at hl 1 rfl) ?_
          refine lv_iconst (v := nI 0) hx hb d_MH_init_95 (by decide) ?_
          refine mh_put K0 hX hS hxo f_MH_36 p_4_4 rfl rfl (Nat.le_of_ble_eq_true rfl) d_MH_init_96 (fun H locs hX hS => ?_)
          have hX : mh_P (dC, dI) b (mh_set _ 0 0 (some (x0, .inr (4, [.ref q1, .ref q3, .ref q10, .ref q11, .int (nI 0)])))) H := hX
          have fs76 := mh_self hX
          refine mh_vret K0 hr hlocks hX hS (⟨rfl, ⟨q1, q3, q10, q11, sv1, (fun _ => none), vw1, (fun _ => none), fs76, hL4.to (by rw [mh_set_ne _ _ _ _ (by omega)]) (fun i => by rw [mh_set_ne _ _ _ _ (by omega)]) (fun _ _ => rfl), (mh_kp h3 (by omega)), (mh_kp h10 (by omega)), (mh_kp h11 (by omega)), fun z hz => ?_, fun z hz => ?_, fun z hz => rfl, fun z hz => absurd hz (Nat.not_lt_zero z)⟩, fun k i h1 h2 => (show _ = w4 k i from by rw [mh_set_ne _ _ _ _ (by omega)]).trans (hFr4 k i h1 h2)⟩) (Nat.le_of_ble_eq_true rfl) (Nat.le_of_ble_eq_true rfl) d_MH_init_99
          · obtain ⟨a, e1, e2⟩ := hsv4 z hz; exact ⟨a, e1, e2.to (fun k h1 h2 => by rw [mh_set_ne _ _ _ _ (by omega)]) (fun _ _ => rfl) (fun _ _ => rfl)⟩
          · obtain ⟨a, e1, e2⟩ := hvw z hz; exact ⟨a, e1, _, e2.to (fun q hq => by rw [mh_set_ne _ _ _ _ (by omega)]) (fun _ _ => rfl), fun x hx => by cases hx⟩
        | succ n ih =>
          intro j w4 vw1 H locs ls hX hS hl hn9 hxo hL4 h3 h10 h11 hsv4 hvw hFr4
          refine lv_iload_n hx hb d_MH_init_69 rfl (lv_at hl 0 rfl) ?_
          refine lv_bipush (v := nI 16) hx hb d_MH_init_70 (by decide) ?_
          refine mh_icmp_ge (tgt := 94) hx hb (by omega) (by omega) d_MH_init_72 (by decide) (fun z => absurd z (by omega)) (fun _ => ?_)
          refine lv_aload_n hx hb d_MH_init_75 rfl (lv_at hl 1 rfl) ?_
          refine mh_get K0 hX hxo f_MH_31 rfl d_MH_init_76 ?_
          refine lv_iload_n hx hb d_MH_init_79 rfl (lv_at hl 0 rfl) ?_
          refine mh_new 12 j K0 hX hS hb0 (ci := 1) rfl i_NU ty_NU ty_NU_ok k115 k67 k6 (fs := [.null, .null]) (by decide) (by dsimp only [mh_rm]; omega) (by dsimp only [mh_rm]; omega) d_MH_init_80 (fun q H hX hS => ?_)
          have fs77 := mh_self hX
          refine lv_dup hx hb d_MH_init_83 rfl ?_
          refine mh_callV (mh_sI (rest := [.ref q, .int (nI j), .ref q11]) (av := []) K0 e_NU_init l_MH_35 k69 rfl rfl rfl d_MH_init_84) (c_NU_init (mh_set_eq _ _ _ _)) K0 hOK hml hl.1 e_NU_init hX hS d_MH_init_84 (Nat.le_of_ble_eq_true rfl) (Nat.le_of_ble_eq_true rfl) (Nat.le_of_ble_eq_true rfl) (by dsimp only [mh_rm]; omega) (by dsimp only [mh_rm]; omega) (fun w5 H locs ⟨hN2, hF5⟩ hX hS => ?_)
          refine W.eq (g2 := F0 m 87 ls [.ref q, .int (nI j), .ref q11]) rfl ?_
          obtain ⟨b1, b3, b0⟩ := hN2.fst
          refine mh_aastX 6 rfl rfl K0 hX hS ((hF5 11 0 (by omega)).trans (mh_kp h11 (by omega))) b0 (by omega) (by omega) d_MH_init_87 (fun H locs hX hS => ?_)
          have fs78 := mh_self hX
          refine lv_iinc (v := nI (j + 1)) (k := 0) (lv' := [(1, .int (nI (j + 1))), (0, .ref x0)]) hx hb d_MH_init_88 hl rfl (mh_inc j) (by decide) rfl (fun ls hl => ?_)
          refine lv_goto (tgt := 69) hx hb d_MH_init_91 (by decide) ?_
          refine mh_cs (c2 := 28 + 4 * (j + 1)) (s2 := 2131 + 263 * (j + 1)) (by first | rfl | (dsimp only [mh_rm]; omega)) (by first | rfl | (dsimp only [mh_rm]; omega)) ?_
          refine ih (j + 1) _ _ _ _ _ hX hS hl (by omega) (mh_kp ((hF5 0 0 (by omega)).trans (mh_kp hxo (by omega))) (by omega)) (hL4.to (by rw [mh_set_ne _ _ _ _ (by omega), hF5 _ _ (by omega), mh_set_ne _ _ _ _ (by omega)]) (fun i => by rw [mh_set_ne _ _ _ _ (by omega), hF5 _ _ (by omega), mh_set_ne _ _ _ _ (by omega)]) (fun _ _ => rfl)) ((show _ = w4 3 0 from by rw [mh_set_ne _ _ _ _ (by omega), hF5 _ _ (by omega), mh_set_ne _ _ _ _ (by omega)]).trans h3) ((show _ = w4 10 0 from by rw [mh_set_ne _ _ _ _ (by omega), hF5 _ _ (by omega), mh_set_ne _ _ _ _ (by omega)]).trans h10) fs78 (fun z hz => ?_) (fun z hz => ?_) (fun k i h1 h2 => (show _ = w4 k i from by rw [mh_set_ne _ _ _ _ (by omega), hF5 _ _ (by omega), mh_set_ne _ _ _ _ (by omega)]).trans (hFr4 k i h1 h2))
          · obtain ⟨a, e1, e2⟩ := hsv4 z hz; exact ⟨a, e1, e2.to (fun k h1 h2 => by rw [mh_set_ne _ _ _ _ (by omega), hF5 _ _ (by omega), mh_set_ne _ _ _ _ (by omega)]) (fun _ _ => rfl) (fun _ _ => rfl)⟩
          · by_cases e9 : z = j
            · subst e9; rw [va_up_self]; exact ⟨q, rfl, hN2.to (fun k h1 => mh_set_ne _ _ _ _ (by omega)) (fun _ _ => rfl)⟩
            · rw [va_up_ne _ _ e9]; obtain ⟨a, e1, e2⟩ := hvw z (by omega); exact ⟨a, e1, e2.to (fun k h1 => by rw [mh_set_ne _ _ _ _ (by omega), hF5 _ _ (by omega), mh_set_ne _ _ _ _ (by omega)]) (fun _ _ => rfl)⟩
      refine mh_cs (c2 := 28 + 4 * 0) (s2 := 2131 + 263 * 0) (by first | rfl | (dsimp only [mh_rm]; omega)) (by first | rfl | (dsimp only [mh_rm]; omega)) ?_
      refine LP2 16 0 _ _ _ _ _ hX hS hl rfl fs75 (hL2.to (by rw [mh_set_ne _ _ _ _ (by omega), mh_set_ne _ _ _ _ (by omega), mh_set_ne _ _ _ _ (by omega), mh_set_ne _ _ _ _ (by omega)]) (fun i => by rw [mh_set_ne _ _ _ _ (by omega), mh_set_ne _ _ _ _ (by omega), mh_set_ne _ _ _ _ (by omega), mh_set_ne _ _ _ _ (by omega)]) (fun _ _ => rfl)) (mh_kp (mh_kp (mh_kp (mh_kp h3 (by omega)) (by omega)) (by omega)) (by omega)) (mh_kp (mh_kp (mh_kp fs72 (by omega)) (by omega)) (by omega)) (mh_kp fs74 (by omega)) (fun z hz => ?_) (fun z hz => absurd hz (Nat.not_lt_zero z)) (fun k i h1 h2 => (show _ = w2 k i from by rw [mh_set_ne _ _ _ _ (by omega), mh_set_ne _ _ _ _ (by omega), mh_set_ne _ _ _ _ (by omega), mh_set_ne _ _ _ _ (by omega)]).trans (hFr k i h1 h2))
      obtain ⟨a, e1, e2⟩ := hsv z hz; exact ⟨a, e1, e2.to (fun k h1 h2 => by rw [mh_set_ne _ _ _ _ (by omega), mh_set_ne _ _ _ _ (by omega), mh_set_ne _ _ _ _ (by omega), mh_set_ne _ _ _ _ (by omega)]) (fun _ _ => rfl) (fun _ _ => rfl)⟩
    | succ n ih =>
      intro j w2 sv1 H locs ls hX hS hl hn9 hxo hL2 h3 hsv hFr
      refine lv_iload_n hx hb d_MH_init_25 rfl (lv_at hl 0 rfl) ?_
      refine lv_iconst (v := nI 4) hx hb d_MH_init_26 (by decide) ?_
      refine mh_icmp_ge (tgt := 49) hx hb (by omega) (by omega) d_MH_init_27 (by decide) (fun z => absurd z (by omega)) (fun _ => ?_)
      refine lv_aload_n hx hb d_MH_init_30 rfl (lv_at hl 1 rfl) ?_
      refine mh_get K0 hX hxo f_MH_18 rfl d_MH_init_31 ?_
      refine lv_iload_n hx hb d_MH_init_34 rfl (lv_at hl 0 rfl) ?_
      refine mh_new 4 j K0 hX hS hb0 (ci := 3) rfl i_SV ty_SV ty_SV_ok k59 k61 k5 (fs := [.null, .null, .int (nI 0), .int (nI 0)]) (by decide) (by dsimp only [mh_rm]; omega) (by dsimp only [mh_rm]; omega) d_MH_init_35 (fun q H hX hS => ?_)
      have fs79 := mh_self hX
      refine lv_dup hx hb d_MH_init_38 rfl ?_
      refine mh_callV (mh_sI (rest := [.ref q, .int (nI j), .ref q3]) (av := []) K0 e_SV_init l_MH_22 k63 rfl rfl rfl d_MH_init_39) (c_SV_init (mh_set_eq _ _ _ _)) K0 hOK hml hl.1 e_SV_init hX hS d_MH_init_39 (Nat.le_of_ble_eq_true rfl) (Nat.le_of_ble_eq_true rfl) (Nat.le_of_ble_eq_true rfl) (by dsimp only [mh_rm]; omega) (by dsimp only [mh_rm]; omega) (fun w3 H locs ⟨hS2, hF2⟩ hX hS => ?_)
      refine W.eq (g2 := F0 m 42 ls [.ref q, .int (nI j), .ref q3]) rfl ?_
      have hS3 := hS2
      obtain ⟨b5, b9, bf, b0, -⟩ := hS3
      refine mh_aastX 4 rfl rfl K0 hX hS ((hF2 3 0 (by omega)).trans (mh_kp h3 (by omega))) b0 (by omega) (by omega) d_MH_init_42 (fun H locs hX hS => ?_)
      have fs80 := mh_self hX
      refine lv_iinc (v := nI (j + 1)) (k := 0) (lv' := [(1, .int (nI (j + 1))), (0, .ref x0)]) hx hb d_MH_init_43 hl rfl (mh_inc j) (by decide) rfl (fun ls hl => ?_)
      refine lv_goto (tgt := 25) hx hb d_MH_init_46 (by decide) ?_
      refine mh_cs (c2 := 2 + 6 * (j + 1)) (s2 := 7 + 523 * (j + 1)) (by first | rfl | (dsimp only [mh_rm]; omega)) (by first | rfl | (dsimp only [mh_rm]; omega)) ?_
      refine ih (j + 1) _ _ _ _ _ hX hS hl (by omega) (mh_kp ((hF2 0 0 (by omega)).trans (mh_kp hxo (by omega))) (by omega)) (hL2.to (by rw [mh_set_ne _ _ _ _ (by omega), hF2 _ _ (by omega), mh_set_ne _ _ _ _ (by omega)]) (fun i => by rw [mh_set_ne _ _ _ _ (by omega), hF2 _ _ (by omega), mh_set_ne _ _ _ _ (by omega)]) (fun _ _ => rfl)) fs80 (fun z hz => ?_) (fun k i h1 h2 => (show _ = w2 k i from by rw [mh_set_ne _ _ _ _ (by omega), hF2 _ _ (by omega), mh_set_ne _ _ _ _ (by omega)]).trans (hFr k i h1 h2))
      by_cases e9 : z = j
      · subst e9; rw [va_up_self]; exact ⟨q, rfl, hS2.to (fun k h1 h2 => mh_set_ne _ _ _ _ (by omega)) (fun _ _ => rfl) (fun _ _ => rfl)⟩
      · rw [va_up_ne _ _ e9]; obtain ⟨a, e1, e2⟩ := hsv z (by omega); exact ⟨a, e1, e2.to (fun k h1 h2 => by rw [mh_set_ne _ _ _ _ (by omega), hF2 _ _ (by omega), mh_set_ne _ _ _ _ (by omega)]) (fun _ _ => rfl) (fun _ _ => rfl)⟩
  refine mh_cs (c2 := 2 + 6 * 0) (s2 := 7 + 523 * 0) (by first | rfl | (dsimp only [mh_rm]; omega)) (by first | rfl | (dsimp only [mh_rm]; omega)) ?_
  exact LP 4 0 _ _ _ _ _ hX hS hl rfl fs71 (hL.to (by rw [mh_set_ne _ _ _ _ (by omega), mh_set_ne _ _ _ _ (by omega), mh_set_ne _ _ _ _ (by omega)]) (fun i => by rw [mh_set_ne _ _ _ _ (by omega), mh_set_ne _ _ _ _ (by omega), mh_set_ne _ _ _ _ (by omega)]) (fun _ _ => rfl)) (mh_kp fs70 (by omega)) (fun z hz => absurd hz (Nat.not_lt_zero z)) (fun k i h1 h2 => by rw [mh_set_ne _ _ _ _ (by omega), mh_set_ne _ _ _ _ (by omega), mh_set_ne _ _ _ _ (by omega), hF _ _ (by omega), mh_set_ne _ _ _ _ (by omega)])
end
