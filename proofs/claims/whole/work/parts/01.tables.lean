-- ===== PART A: goes FIRST, ahead of the names: the tables' words, and 'selects' of the private methods out of them =====
/-- a private method of a class that the tables say can be made, by its rows of tables_1 -/
def lw_okq (q : MethodName × Nat) : Prop := (q.1.cls ≠ "java/lang/invoke/MethodHandle" ∧ q.1.cls ≠ "java/lang/invoke/VarHandle") ∧ Cond.instantiable q.1.cls q.2 ∈ tables_1 ∧ Cond.privateMethod q.1 ∈ tables_1 ∧ Cond.instanceMethod q.1 ∈ tables_1
theorem lw_p0 : lw_okq (⟨"UseOdds", "forgetCounts", "()V"⟩, 9) := ⟨⟨by decide +kernel, by decide +kernel⟩, List.mem_of_getElem? (i := 18) (by decide +kernel), List.mem_of_getElem? (i := 168) (by decide +kernel), List.mem_of_getElem? (i := 169) (by decide +kernel)⟩
theorem lw_p1 : lw_okq (⟨"UseOdds", "flowOf", "(I)I"⟩, 9) := ⟨⟨by decide +kernel, by decide +kernel⟩, List.mem_of_getElem? (i := 18) (by decide +kernel), List.mem_of_getElem? (i := 207) (by decide +kernel), List.mem_of_getElem? (i := 208) (by decide +kernel)⟩
theorem lw_p2 : lw_okq (⟨"UseOdds", "countOf", "(II)I"⟩, 9) := ⟨⟨by decide +kernel, by decide +kernel⟩, List.mem_of_getElem? (i := 18) (by decide +kernel), List.mem_of_getElem? (i := 211) (by decide +kernel), List.mem_of_getElem? (i := 212) (by decide +kernel)⟩
theorem lw_p3 : lw_okq (⟨"java/lang/Throwable", "fillInStackTrace", "(I)Ljava/lang/Throwable;"⟩, 6) := ⟨⟨by decide +kernel, by decide +kernel⟩, List.mem_of_getElem? (i := 316) (by decide +kernel), List.mem_of_getElem? (i := 314) (by decide +kernel), List.mem_of_getElem? (i := 315) (by decide +kernel)⟩
theorem lw_p4 : lw_okq (⟨"UseOdds", "requirePipeAndKind", "(II)V"⟩, 9) := ⟨⟨by decide +kernel, by decide +kernel⟩, List.mem_of_getElem? (i := 18) (by decide +kernel), List.mem_of_getElem? (i := 392) (by decide +kernel), List.mem_of_getElem? (i := 393) (by decide +kernel)⟩
theorem lw_p5 : lw_okq (⟨"UseOdds", "requirePipe", "(I)V"⟩, 9) := ⟨⟨by decide +kernel, by decide +kernel⟩, List.mem_of_getElem? (i := 18) (by decide +kernel), List.mem_of_getElem? (i := 521) (by decide +kernel), List.mem_of_getElem? (i := 522) (by decide +kernel)⟩
theorem lw_p6 : lw_okq (⟨"UseOdds", "lossOf", "(I)J"⟩, 9) := ⟨⟨by decide +kernel, by decide +kernel⟩, List.mem_of_getElem? (i := 18) (by decide +kernel), List.mem_of_getElem? (i := 539) (by decide +kernel), List.mem_of_getElem? (i := 540) (by decide +kernel)⟩
theorem lw_p7 : lw_okq (⟨"UseOddsModel", "no", "(II)Z"⟩, 18) := ⟨⟨by decide +kernel, by decide +kernel⟩, List.mem_of_getElem? (i := 562) (by decide +kernel), List.mem_of_getElem? (i := 644) (by decide +kernel), List.mem_of_getElem? (i := 645) (by decide +kernel)⟩
theorem lw_p8 : lw_okq (⟨"UseOddsModel", "carries", "(II)I"⟩, 18) := ⟨⟨by decide +kernel, by decide +kernel⟩, List.mem_of_getElem? (i := 562) (by decide +kernel), List.mem_of_getElem? (i := 666) (by decide +kernel), List.mem_of_getElem? (i := 667) (by decide +kernel)⟩
theorem lw_p9 : lw_okq (⟨"UseOddsModel", "hangs", "(II)Z"⟩, 18) := ⟨⟨by decide +kernel, by decide +kernel⟩, List.mem_of_getElem? (i := 562) (by decide +kernel), List.mem_of_getElem? (i := 670) (by decide +kernel), List.mem_of_getElem? (i := 671) (by decide +kernel)⟩
theorem lw_p10 : lw_okq (⟨"UseOddsModel", "countOf", "(II)I"⟩, 18) := ⟨⟨by decide +kernel, by decide +kernel⟩, List.mem_of_getElem? (i := 562) (by decide +kernel), List.mem_of_getElem? (i := 678) (by decide +kernel), List.mem_of_getElem? (i := 679) (by decide +kernel)⟩
theorem lw_p11 : lw_okq (⟨"UseOddsModel", "power", "(IJI)V"⟩, 18) := ⟨⟨by decide +kernel, by decide +kernel⟩, List.mem_of_getElem? (i := 562) (by decide +kernel), List.mem_of_getElem? (i := 682) (by decide +kernel), List.mem_of_getElem? (i := 683) (by decide +kernel)⟩
theorem lw_p12 : lw_okq (⟨"UseOddsModel", "set", "(IJ)V"⟩, 18) := ⟨⟨by decide +kernel, by decide +kernel⟩, List.mem_of_getElem? (i := 562) (by decide +kernel), List.mem_of_getElem? (i := 686) (by decide +kernel), List.mem_of_getElem? (i := 687) (by decide +kernel)⟩
theorem lw_p13 : lw_okq (⟨"UseOddsModel", "times", "(IJ)V"⟩, 18) := ⟨⟨by decide +kernel, by decide +kernel⟩, List.mem_of_getElem? (i := 562) (by decide +kernel), List.mem_of_getElem? (i := 690) (by decide +kernel), List.mem_of_getElem? (i := 691) (by decide +kernel)⟩
theorem lw_p14 : lw_okq (⟨"UseOddsModel", "copy", "(II)V"⟩, 18) := ⟨⟨by decide +kernel, by decide +kernel⟩, List.mem_of_getElem? (i := 562) (by decide +kernel), List.mem_of_getElem? (i := 694) (by decide +kernel), List.mem_of_getElem? (i := 695) (by decide +kernel)⟩
theorem lw_p15 : lw_okq (⟨"UseOddsModel", "add", "(II)V"⟩, 18) := ⟨⟨by decide +kernel, by decide +kernel⟩, List.mem_of_getElem? (i := 562) (by decide +kernel), List.mem_of_getElem? (i := 698) (by decide +kernel), List.mem_of_getElem? (i := 699) (by decide +kernel)⟩
def lw_privs_1 : List (MethodName × Nat) := [(⟨"UseOdds", "forgetCounts", "()V"⟩, 9), (⟨"UseOdds", "flowOf", "(I)I"⟩, 9), (⟨"UseOdds", "countOf", "(II)I"⟩, 9), (⟨"java/lang/Throwable", "fillInStackTrace", "(I)Ljava/lang/Throwable;"⟩, 6), (⟨"UseOdds", "requirePipeAndKind", "(II)V"⟩, 9), (⟨"UseOdds", "requirePipe", "(I)V"⟩, 9), (⟨"UseOdds", "lossOf", "(I)J"⟩, 9), (⟨"UseOddsModel", "no", "(II)Z"⟩, 18), (⟨"UseOddsModel", "carries", "(II)I"⟩, 18), (⟨"UseOddsModel", "hangs", "(II)Z"⟩, 18), (⟨"UseOddsModel", "countOf", "(II)I"⟩, 18), (⟨"UseOddsModel", "power", "(IJI)V"⟩, 18), (⟨"UseOddsModel", "set", "(IJ)V"⟩, 18), (⟨"UseOddsModel", "times", "(IJ)V"⟩, 18), (⟨"UseOddsModel", "copy", "(II)V"⟩, 18), (⟨"UseOddsModel", "add", "(II)V"⟩, 18)]
theorem lw_r1 : ∀ q ∈ lw_privs_1, lw_okq q := List.forall_mem_cons.mpr ⟨lw_p0, List.forall_mem_cons.mpr ⟨lw_p1, List.forall_mem_cons.mpr ⟨lw_p2, List.forall_mem_cons.mpr ⟨lw_p3, List.forall_mem_cons.mpr ⟨lw_p4, List.forall_mem_cons.mpr ⟨lw_p5, List.forall_mem_cons.mpr ⟨lw_p6, List.forall_mem_cons.mpr ⟨lw_p7, List.forall_mem_cons.mpr ⟨lw_p8, List.forall_mem_cons.mpr ⟨lw_p9, List.forall_mem_cons.mpr ⟨lw_p10, List.forall_mem_cons.mpr ⟨lw_p11, List.forall_mem_cons.mpr ⟨lw_p12, List.forall_mem_cons.mpr ⟨lw_p13, List.forall_mem_cons.mpr ⟨lw_p14, List.forall_mem_cons.mpr ⟨lw_p15, fun _ h => absurd h List.not_mem_nil⟩⟩⟩⟩⟩⟩⟩⟩⟩⟩⟩⟩⟩⟩⟩⟩
theorem lw_p16 : lw_okq (⟨"UseOddsModel", "isAbove", "(II)Z"⟩, 18) := ⟨⟨by decide +kernel, by decide +kernel⟩, List.mem_of_getElem? (i := 562) (by decide +kernel), List.mem_of_getElem? (i := 702) (by decide +kernel), List.mem_of_getElem? (i := 703) (by decide +kernel)⟩
theorem lw_p17 : lw_okq (⟨"UseOddsModel", "down", "(III)V"⟩, 18) := ⟨⟨by decide +kernel, by decide +kernel⟩, List.mem_of_getElem? (i := 562) (by decide +kernel), List.mem_of_getElem? (i := 706) (by decide +kernel), List.mem_of_getElem? (i := 707) (by decide +kernel)⟩
theorem lw_p18 : lw_okq (⟨"UseOddsModel", "divide", "(IJ)J"⟩, 18) := ⟨⟨by decide +kernel, by decide +kernel⟩, List.mem_of_getElem? (i := 562) (by decide +kernel), List.mem_of_getElem? (i := 710) (by decide +kernel), List.mem_of_getElem? (i := 711) (by decide +kernel)⟩
theorem lw_p19 : lw_okq (⟨"UseOddsModel", "isNone", "(I)Z"⟩, 18) := ⟨⟨by decide +kernel, by decide +kernel⟩, List.mem_of_getElem? (i := 562) (by decide +kernel), List.mem_of_getElem? (i := 718) (by decide +kernel), List.mem_of_getElem? (i := 719) (by decide +kernel)⟩
theorem lw_p20 : lw_okq (⟨"UseOddsModel", "leaves", "(IJ)J"⟩, 18) := ⟨⟨by decide +kernel, by decide +kernel⟩, List.mem_of_getElem? (i := 562) (by decide +kernel), List.mem_of_getElem? (i := 722) (by decide +kernel), List.mem_of_getElem? (i := 723) (by decide +kernel)⟩
theorem lw_p21 : lw_okq (⟨"UseOddsModel", "digitsOf", "(I)I"⟩, 18) := ⟨⟨by decide +kernel, by decide +kernel⟩, List.mem_of_getElem? (i := 562) (by decide +kernel), List.mem_of_getElem? (i := 726) (by decide +kernel), List.mem_of_getElem? (i := 727) (by decide +kernel)⟩
theorem lw_p22 : lw_okq (⟨"UseOddsModel", "noPipe", "(I)Z"⟩, 18) := ⟨⟨by decide +kernel, by decide +kernel⟩, List.mem_of_getElem? (i := 562) (by decide +kernel), List.mem_of_getElem? (i := 752) (by decide +kernel), List.mem_of_getElem? (i := 753) (by decide +kernel)⟩
theorem lw_p23 : lw_okq (⟨"UseOddsModel", "flowOf", "(I)I"⟩, 18) := ⟨⟨by decide +kernel, by decide +kernel⟩, List.mem_of_getElem? (i := 562) (by decide +kernel), List.mem_of_getElem? (i := 756) (by decide +kernel), List.mem_of_getElem? (i := 757) (by decide +kernel)⟩
theorem lw_p24 : lw_okq (⟨"UseOddsModel", "sizeOf", "(I)I"⟩, 18) := ⟨⟨by decide +kernel, by decide +kernel⟩, List.mem_of_getElem? (i := 562) (by decide +kernel), List.mem_of_getElem? (i := 764) (by decide +kernel), List.mem_of_getElem? (i := 765) (by decide +kernel)⟩
theorem lw_p25 : lw_okq (⟨"UseOddsModel", "lossOf", "(I)J"⟩, 18) := ⟨⟨by decide +kernel, by decide +kernel⟩, List.mem_of_getElem? (i := 562) (by decide +kernel), List.mem_of_getElem? (i := 777) (by decide +kernel), List.mem_of_getElem? (i := 778) (by decide +kernel)⟩
theorem lw_p26 : lw_okq (⟨"UseOddsModel", "lost", "(I)J"⟩, 18) := ⟨⟨by decide +kernel, by decide +kernel⟩, List.mem_of_getElem? (i := 562) (by decide +kernel), List.mem_of_getElem? (i := 786) (by decide +kernel), List.mem_of_getElem? (i := 787) (by decide +kernel)⟩
def lw_privs_2 : List (MethodName × Nat) := [(⟨"UseOddsModel", "isAbove", "(II)Z"⟩, 18), (⟨"UseOddsModel", "down", "(III)V"⟩, 18), (⟨"UseOddsModel", "divide", "(IJ)J"⟩, 18), (⟨"UseOddsModel", "isNone", "(I)Z"⟩, 18), (⟨"UseOddsModel", "leaves", "(IJ)J"⟩, 18), (⟨"UseOddsModel", "digitsOf", "(I)I"⟩, 18), (⟨"UseOddsModel", "noPipe", "(I)Z"⟩, 18), (⟨"UseOddsModel", "flowOf", "(I)I"⟩, 18), (⟨"UseOddsModel", "sizeOf", "(I)I"⟩, 18), (⟨"UseOddsModel", "lossOf", "(I)J"⟩, 18), (⟨"UseOddsModel", "lost", "(I)J"⟩, 18)]
theorem lw_r2 : ∀ q ∈ lw_privs_2, lw_okq q := List.forall_mem_cons.mpr ⟨lw_p16, List.forall_mem_cons.mpr ⟨lw_p17, List.forall_mem_cons.mpr ⟨lw_p18, List.forall_mem_cons.mpr ⟨lw_p19, List.forall_mem_cons.mpr ⟨lw_p20, List.forall_mem_cons.mpr ⟨lw_p21, List.forall_mem_cons.mpr ⟨lw_p22, List.forall_mem_cons.mpr ⟨lw_p23, List.forall_mem_cons.mpr ⟨lw_p24, List.forall_mem_cons.mpr ⟨lw_p25, List.forall_mem_cons.mpr ⟨lw_p26, fun _ h => absurd h List.not_mem_nil⟩⟩⟩⟩⟩⟩⟩⟩⟩⟩⟩
def lw_privs : List (MethodName × Nat) := lw_privs_1 ++ (lw_privs_2)
def lw_tbl : List Cond := k2_sels lw_privs ++ tables_1
theorem lw_privs_ok : ∀ q ∈ lw_privs, lw_okq q := by
  show ∀ q ∈ lw_privs_1 ++ (lw_privs_2), lw_okq q
  exact List.forall_mem_append.mpr ⟨lw_r1, lw_r2⟩
/-! the words that the tables alone decide, and that stay -/
def TWg (w : Cond) : Bool := w.onTables && w.keepsH
def TW : List Cond := lw_tbl.filter TWg
theorem tw_mk {w : Cond} (h : w ∈ lw_tbl) (g : TWg w = true) : w ∈ TW := List.mem_filter.mpr ⟨h, g⟩
theorem tw_t1 {w : Cond} {i : Nat} (h : tables_1_1[i]? = some w) (g : TWg w = true) : w ∈ TW := tw_mk (List.mem_append_right _ (List.mem_append_left _ (List.mem_of_getElem? h))) g
theorem tw_t2 {w : Cond} {i : Nat} (h : tables_1_2[i]? = some w) (g : TWg w = true) : w ∈ TW := tw_mk (List.mem_append_right _ (List.mem_append_right _ (List.mem_append_left _ (List.mem_of_getElem? h)))) g
theorem tw_t3 {w : Cond} {i : Nat} (h : tables_1_3[i]? = some w) (g : TWg w = true) : w ∈ TW := tw_mk (List.mem_append_right _ (List.mem_append_right _ (List.mem_append_right _ (List.mem_append_left _ (List.mem_of_getElem? h))))) g
theorem tw_t4 {w : Cond} {i : Nat} (h : tables_1_4[i]? = some w) (g : TWg w = true) : w ∈ TW := tw_mk (List.mem_append_right _ (List.mem_append_right _ (List.mem_append_right _ (List.mem_append_right _ (List.mem_of_getElem? h))))) g
theorem tw0 : .initialized "UseOddsLaw" ∈ TW := tw_t1 (i := 0) rfl rfl
theorem tw1 : .initialized "UseOdds" ∈ TW := tw_t1 (i := 1) rfl rfl
theorem tw2 : .initialized "UseOdds$Kinds" ∈ TW := tw_t1 (i := 2) rfl rfl
theorem tw3 : .initialized "UseOdds$Tree" ∈ TW := tw_t1 (i := 3) rfl rfl
theorem tw4 : .initialized "UseOdds$PriceList" ∈ TW := tw_t1 (i := 4) rfl rfl
theorem tw5 : .initialized "UseOdds$Odds" ∈ TW := tw_t1 (i := 5) rfl rfl
theorem tw6 : .initialized "UseOdds$Whole" ∈ TW := tw_t1 (i := 6) rfl rfl
theorem tw7 : .initialized "UseOdds$Paper" ∈ TW := tw_t1 (i := 7) rfl rfl
theorem tw8 : .initialized "java/util/Arrays" ∈ TW := tw_t1 (i := 8) rfl rfl
theorem tw9 : .initialized "UseOddsModel" ∈ TW := tw_t1 (i := 9) rfl rfl
theorem tw10 : .initialized "java/lang/Throwable" ∈ TW := tw_t1 (i := 10) rfl rfl
theorem tw11 : .initialized "java/lang/Exception" ∈ TW := tw_t1 (i := 11) rfl rfl
theorem tw12 : .initialized "java/lang/RuntimeException" ∈ TW := tw_t1 (i := 12) rfl rfl
theorem tw13 : .initialized "java/lang/IllegalArgumentException" ∈ TW := tw_t1 (i := 13) rfl rfl
theorem tw14 : .initialized "java/lang/IllegalStateException" ∈ TW := tw_t1 (i := 14) rfl rfl
theorem tw15 : .initialized "java/lang/Math" ∈ TW := tw_t1 (i := 15) rfl rfl
theorem tw16 : .initialized "java/lang/System" ∈ TW := tw_t1 (i := 16) rfl rfl
theorem tw17 : .classLink "UseOddsLaw" 8 "UseOdds" ∈ TW := tw_t1 (i := 17) rfl rfl
theorem tw18 : .instantiable "UseOdds" 9 ∈ TW := tw_t1 (i := 18) rfl rfl
theorem tw19 : .methodLink "UseOddsLaw" 72 ⟨"UseOdds", "<init>", "()V"⟩ ∈ TW := tw_t1 (i := 19) rfl rfl
theorem tw20 : .instanceMethod ⟨"UseOdds", "<init>", "()V"⟩ ∈ TW := tw_t1 (i := 20) rfl rfl
theorem tw21 : .code ⟨"UseOdds", "<init>", "()V"⟩ prog_1_method_1_code 1 none ∈ TW := tw_t1 (i := 21) rfl rfl
theorem tw22 : .methodLink "UseOdds" 1 ⟨"java/lang/Object", "<init>", "()V"⟩ ∈ TW := tw_t1 (i := 22) rfl rfl
theorem tw23 : .instanceMethod ⟨"java/lang/Object", "<init>", "()V"⟩ ∈ TW := tw_t1 (i := 23) rfl rfl
theorem tw24 : .code ⟨"java/lang/Object", "<init>", "()V"⟩ object_method_1_code 1 none ∈ TW := tw_t1 (i := 24) rfl rfl
theorem tw25 : .classLink "UseOdds" 7 "UseOdds$Kinds" ∈ TW := tw_t1 (i := 25) rfl rfl
theorem tw26 : .instantiable "UseOdds$Kinds" 4 ∈ TW := tw_t1 (i := 26) rfl rfl
theorem tw27 : .methodLinkNest "UseOdds" 9 ⟨"UseOdds$Kinds", "<init>", "()V"⟩ "UseOdds" ∈ TW := tw_t1 (i := 27) rfl rfl
theorem tw28 : .instanceMethod ⟨"UseOdds$Kinds", "<init>", "()V"⟩ ∈ TW := tw_t1 (i := 28) rfl rfl
theorem tw29 : .code ⟨"UseOdds$Kinds", "<init>", "()V"⟩ prog_2_method_1_code 1 none ∈ TW := tw_t1 (i := 29) rfl rfl
theorem tw30 : .methodLink "UseOdds$Kinds" 3 ⟨"java/lang/Object", "<init>", "()V"⟩ ∈ TW := tw_t1 (i := 30) rfl rfl
theorem tw31 : .fieldLink "UseOdds$Kinds" 9 "UseOdds$Kinds" "number" "I" ∈ TW := tw_t1 (i := 31) rfl rfl
theorem tw32 : .fieldLinkNest "UseOdds" 71 "UseOdds$Kinds" "number" "I" "UseOdds" ∈ TW := tw_t1 (i := 32) rfl rfl
theorem tw33 : .fieldLink "UseOdds$Kinds" 15 "UseOdds$Kinds" "flows" "[I" ∈ TW := tw_t1 (i := 33) rfl rfl
theorem tw34 : .fieldLinkNest "UseOdds" 219 "UseOdds$Kinds" "flows" "[I" "UseOdds" ∈ TW := tw_t1 (i := 34) rfl rfl
theorem tw35 : .fieldLink "UseOdds$Kinds" 19 "UseOdds$Kinds" "overs" "[I" ∈ TW := tw_t1 (i := 35) rfl rfl
theorem tw36 : .fieldLinkNest "UseOdds" 123 "UseOdds$Kinds" "overs" "[I" "UseOdds" ∈ TW := tw_t1 (i := 36) rfl rfl
theorem tw37 : .fieldLink "UseOdds$Kinds" 22 "UseOdds$Kinds" "unders" "[I" ∈ TW := tw_t1 (i := 37) rfl rfl
theorem tw38 : .fieldLinkNest "UseOdds" 119 "UseOdds$Kinds" "unders" "[I" "UseOdds" ∈ TW := tw_t1 (i := 38) rfl rfl
theorem tw39 : .lays "UseOdds$Kinds" "UseOdds$Kinds" "number" "I" ∈ TW := tw_t1 (i := 39) rfl rfl
theorem tw41 : .laysFinal "UseOdds$Kinds" "UseOdds$Kinds" "flows" "[I" ∈ TW := tw_t1 (i := 41) rfl rfl
theorem tw43 : .laysFinal "UseOdds$Kinds" "UseOdds$Kinds" "overs" "[I" ∈ TW := tw_t1 (i := 43) rfl rfl
theorem tw45 : .laysFinal "UseOdds$Kinds" "UseOdds$Kinds" "unders" "[I" ∈ TW := tw_t1 (i := 45) rfl rfl
theorem tw49 : .classLink "UseOdds" 16 "UseOdds$Tree" ∈ TW := tw_t1 (i := 49) rfl rfl
theorem tw50 : .instantiable "UseOdds$Tree" 5 ∈ TW := tw_t1 (i := 50) rfl rfl
theorem tw51 : .methodLinkNest "UseOdds" 18 ⟨"UseOdds$Tree", "<init>", "()V"⟩ "UseOdds" ∈ TW := tw_t1 (i := 51) rfl rfl
theorem tw52 : .instanceMethod ⟨"UseOdds$Tree", "<init>", "()V"⟩ ∈ TW := tw_t1 (i := 52) rfl rfl
theorem tw53 : .code ⟨"UseOdds$Tree", "<init>", "()V"⟩ prog_6_method_1_code 1 none ∈ TW := tw_t1 (i := 53) rfl rfl
theorem tw54 : .methodLink "UseOdds$Tree" 3 ⟨"java/lang/Object", "<init>", "()V"⟩ ∈ TW := tw_t1 (i := 54) rfl rfl
theorem tw55 : .classLink "UseOdds$Tree" 22 "[[I" ∈ TW := tw_t1 (i := 55) rfl rfl
theorem tw57 : .fieldLink "UseOdds$Tree" 9 "UseOdds$Tree" "number" "I" ∈ TW := tw_t1 (i := 57) rfl rfl
theorem tw58 : .fieldLinkNest "UseOdds" 85 "UseOdds$Tree" "number" "I" "UseOdds" ∈ TW := tw_t1 (i := 58) rfl rfl
theorem tw59 : .fieldLink "UseOdds$Tree" 15 "UseOdds$Tree" "parents" "[I" ∈ TW := tw_t1 (i := 59) rfl rfl
theorem tw60 : .fieldLinkNest "UseOdds" 203 "UseOdds$Tree" "parents" "[I" "UseOdds" ∈ TW := tw_t1 (i := 60) rfl rfl
theorem tw61 : .fieldLink "UseOdds$Tree" 19 "UseOdds$Tree" "lengths" "[I" ∈ TW := tw_t1 (i := 61) rfl rfl
theorem tw62 : .fieldLinkNest "UseOdds" 187 "UseOdds$Tree" "lengths" "[I" "UseOdds" ∈ TW := tw_t1 (i := 62) rfl rfl
theorem tw63 : .fieldLink "UseOdds$Tree" 24 "UseOdds$Tree" "own" "[[I" ∈ TW := tw_t1 (i := 63) rfl rfl
theorem tw64 : .fieldLinkNest "UseOdds" 108 "UseOdds$Tree" "own" "[[I" "UseOdds" ∈ TW := tw_t1 (i := 64) rfl rfl
theorem tw65 : .fieldLink "UseOdds$Tree" 27 "UseOdds$Tree" "carried" "[[I" ∈ TW := tw_t1 (i := 65) rfl rfl
theorem tw66 : .fieldLinkNest "UseOdds" 99 "UseOdds$Tree" "carried" "[[I" "UseOdds" ∈ TW := tw_t1 (i := 66) rfl rfl
theorem tw67 : .lays "UseOdds$Tree" "UseOdds$Tree" "number" "I" ∈ TW := tw_t1 (i := 67) rfl rfl
theorem tw69 : .laysFinal "UseOdds$Tree" "UseOdds$Tree" "parents" "[I" ∈ TW := tw_t1 (i := 69) rfl rfl
theorem tw71 : .laysFinal "UseOdds$Tree" "UseOdds$Tree" "lengths" "[I" ∈ TW := tw_t1 (i := 71) rfl rfl
theorem tw73 : .laysFinal "UseOdds$Tree" "UseOdds$Tree" "own" "[[I" ∈ TW := tw_t1 (i := 73) rfl rfl
theorem tw75 : .laysFinal "UseOdds$Tree" "UseOdds$Tree" "carried" "[[I" ∈ TW := tw_t1 (i := 75) rfl rfl
theorem tw78 : .classLink "UseOdds" 23 "UseOdds$PriceList" ∈ TW := tw_t1 (i := 78) rfl rfl
theorem tw79 : .instantiable "UseOdds$PriceList" 4 ∈ TW := tw_t1 (i := 79) rfl rfl
theorem tw80 : .methodLinkNest "UseOdds" 25 ⟨"UseOdds$PriceList", "<init>", "()V"⟩ "UseOdds" ∈ TW := tw_t1 (i := 80) rfl rfl
theorem tw81 : .instanceMethod ⟨"UseOdds$PriceList", "<init>", "()V"⟩ ∈ TW := tw_t1 (i := 81) rfl rfl
theorem tw82 : .code ⟨"UseOdds$PriceList", "<init>", "()V"⟩ prog_5_method_1_code 1 none ∈ TW := tw_t1 (i := 82) rfl rfl
theorem tw83 : .methodLink "UseOdds$PriceList" 3 ⟨"java/lang/Object", "<init>", "()V"⟩ ∈ TW := tw_t1 (i := 83) rfl rfl
theorem tw84 : .fieldLink "UseOdds$PriceList" 9 "UseOdds$PriceList" "number" "I" ∈ TW := tw_t1 (i := 84) rfl rfl
theorem tw85 : .fieldLinkNest "UseOdds" 112 "UseOdds$PriceList" "number" "I" "UseOdds" ∈ TW := tw_t1 (i := 85) rfl rfl
theorem tw86 : .fieldLink "UseOdds$PriceList" 15 "UseOdds$PriceList" "capacities" "[I" ∈ TW := tw_t1 (i := 86) rfl rfl
theorem tw87 : .fieldLink "UseOdds$PriceList" 19 "UseOdds$PriceList" "widths" "[I" ∈ TW := tw_t1 (i := 87) rfl rfl
theorem tw88 : .fieldLinkNest "UseOdds" 222 "UseOdds$PriceList" "widths" "[I" "UseOdds" ∈ TW := tw_t1 (i := 88) rfl rfl
theorem tw89 : .fieldLink "UseOdds$PriceList" 22 "UseOdds$PriceList" "prices" "[I" ∈ TW := tw_t1 (i := 89) rfl rfl
theorem tw90 : .fieldLinkNest "UseOdds" 190 "UseOdds$PriceList" "prices" "[I" "UseOdds" ∈ TW := tw_t1 (i := 90) rfl rfl
theorem tw91 : .lays "UseOdds$PriceList" "UseOdds$PriceList" "number" "I" ∈ TW := tw_t1 (i := 91) rfl rfl
theorem tw93 : .laysFinal "UseOdds$PriceList" "UseOdds$PriceList" "capacities" "[I" ∈ TW := tw_t1 (i := 93) rfl rfl
theorem tw95 : .laysFinal "UseOdds$PriceList" "UseOdds$PriceList" "widths" "[I" ∈ TW := tw_t1 (i := 95) rfl rfl
theorem tw97 : .laysFinal "UseOdds$PriceList" "UseOdds$PriceList" "prices" "[I" ∈ TW := tw_t1 (i := 97) rfl rfl
theorem tw100 : .classLink "UseOdds" 30 "UseOdds$Odds" ∈ TW := tw_t1 (i := 100) rfl rfl
theorem tw101 : .instantiable "UseOdds$Odds" 7 ∈ TW := tw_t1 (i := 101) rfl rfl
theorem tw102 : .methodLinkNest "UseOdds" 32 ⟨"UseOdds$Odds", "<init>", "()V"⟩ "UseOdds" ∈ TW := tw_t1 (i := 102) rfl rfl
theorem tw103 : .instanceMethod ⟨"UseOdds$Odds", "<init>", "()V"⟩ ∈ TW := tw_t1 (i := 103) rfl rfl
theorem tw104 : .code ⟨"UseOdds$Odds", "<init>", "()V"⟩ prog_3_method_1_code 1 none ∈ TW := tw_t1 (i := 104) rfl rfl
theorem tw105 : .methodLink "UseOdds$Odds" 1 ⟨"java/lang/Object", "<init>", "()V"⟩ ∈ TW := tw_t1 (i := 105) rfl rfl
theorem tw106 : .classLink "UseOdds$Odds" 7 "UseOdds$Whole" ∈ TW := tw_t1 (i := 106) rfl rfl
theorem tw107 : .instantiable "UseOdds$Whole" 2 ∈ TW := tw_t1 (i := 107) rfl rfl
theorem tw108 : .methodLinkNest "UseOdds$Odds" 9 ⟨"UseOdds$Whole", "<init>", "()V"⟩ "UseOdds" ∈ TW := tw_t1 (i := 108) rfl rfl
theorem tw109 : .instanceMethod ⟨"UseOdds$Whole", "<init>", "()V"⟩ ∈ TW := tw_t1 (i := 109) rfl rfl
theorem tw110 : .code ⟨"UseOdds$Whole", "<init>", "()V"⟩ prog_7_method_1_code 1 none ∈ TW := tw_t1 (i := 110) rfl rfl
theorem tw111 : .methodLink "UseOdds$Whole" 1 ⟨"java/lang/Object", "<init>", "()V"⟩ ∈ TW := tw_t1 (i := 111) rfl rfl
theorem tw112 : .fieldLink "UseOdds$Whole" 9 "UseOdds$Whole" "groups" "[J" ∈ TW := tw_t1 (i := 112) rfl rfl
theorem tw113 : .fieldLink "UseOdds$Whole" 13 "UseOdds$Whole" "used" "I" ∈ TW := tw_t1 (i := 113) rfl rfl
theorem tw114 : .laysFinal "UseOdds$Whole" "UseOdds$Whole" "groups" "[J" ∈ TW := tw_t1 (i := 114) rfl rfl
theorem tw116 : .lays "UseOdds$Whole" "UseOdds$Whole" "used" "I" ∈ TW := tw_t1 (i := 116) rfl rfl
theorem tw120 : .fieldLink "UseOdds$Odds" 10 "UseOdds$Odds" "all" "LUseOdds$Whole;" ∈ TW := tw_t1 (i := 120) rfl rfl
theorem tw121 : .fieldLinkNest "UseOdds" 139 "UseOdds$Odds" "all" "LUseOdds$Whole;" "UseOdds" ∈ TW := tw_t1 (i := 121) rfl rfl
theorem tw122 : .fieldLink "UseOdds$Odds" 16 "UseOdds$Odds" "just" "LUseOdds$Whole;" ∈ TW := tw_t1 (i := 122) rfl rfl
theorem tw123 : .fieldLinkNest "UseOdds" 136 "UseOdds$Odds" "just" "LUseOdds$Whole;" "UseOdds" ∈ TW := tw_t1 (i := 123) rfl rfl
theorem tw124 : .fieldLink "UseOdds$Odds" 19 "UseOdds$Odds" "more" "LUseOdds$Whole;" ∈ TW := tw_t1 (i := 124) rfl rfl
theorem tw125 : .fieldLinkNest "UseOdds" 132 "UseOdds$Odds" "more" "LUseOdds$Whole;" "UseOdds" ∈ TW := tw_t1 (i := 125) rfl rfl
theorem tw126 : .fieldLink "UseOdds$Odds" 22 "UseOdds$Odds" "on" "I" ∈ TW := tw_t1 (i := 126) rfl rfl
theorem tw127 : .fieldLink "UseOdds$Odds" 26 "UseOdds$Odds" "off" "I" ∈ TW := tw_t1 (i := 127) rfl rfl
theorem tw128 : .fieldLink "UseOdds$Odds" 29 "UseOdds$Odds" "taps" "I" ∈ TW := tw_t1 (i := 128) rfl rfl
theorem tw129 : .fieldLink "UseOdds$Odds" 32 "UseOdds$Odds" "k" "I" ∈ TW := tw_t1 (i := 129) rfl rfl
theorem tw130 : .laysFinal "UseOdds$Odds" "UseOdds$Odds" "all" "LUseOdds$Whole;" ∈ TW := tw_t1 (i := 130) rfl rfl
theorem tw132 : .laysFinal "UseOdds$Odds" "UseOdds$Odds" "just" "LUseOdds$Whole;" ∈ TW := tw_t1 (i := 132) rfl rfl
theorem tw134 : .laysFinal "UseOdds$Odds" "UseOdds$Odds" "more" "LUseOdds$Whole;" ∈ TW := tw_t1 (i := 134) rfl rfl
theorem tw136 : .lays "UseOdds$Odds" "UseOdds$Odds" "on" "I" ∈ TW := tw_t1 (i := 136) rfl rfl
theorem tw138 : .lays "UseOdds$Odds" "UseOdds$Odds" "off" "I" ∈ TW := tw_t1 (i := 138) rfl rfl
theorem tw140 : .lays "UseOdds$Odds" "UseOdds$Odds" "taps" "I" ∈ TW := tw_t1 (i := 140) rfl rfl
theorem tw142 : .lays "UseOdds$Odds" "UseOdds$Odds" "k" "I" ∈ TW := tw_t1 (i := 142) rfl rfl
theorem tw145 : .classLink "UseOdds" 37 "UseOdds$Paper" ∈ TW := tw_t1 (i := 145) rfl rfl
theorem tw146 : .instantiable "UseOdds$Paper" 3 ∈ TW := tw_t1 (i := 146) rfl rfl
theorem tw147 : .methodLinkNest "UseOdds" 39 ⟨"UseOdds$Paper", "<init>", "()V"⟩ "UseOdds" ∈ TW := tw_t1 (i := 147) rfl rfl
theorem tw148 : .instanceMethod ⟨"UseOdds$Paper", "<init>", "()V"⟩ ∈ TW := tw_t1 (i := 148) rfl rfl
theorem tw149 : .code ⟨"UseOdds$Paper", "<init>", "()V"⟩ prog_4_method_1_code 1 none ∈ TW := tw_t1 (i := 149) rfl rfl
theorem tw150 : .methodLink "UseOdds$Paper" 1 ⟨"java/lang/Object", "<init>", "()V"⟩ ∈ TW := tw_t1 (i := 150) rfl rfl
theorem tw151 : .classLink "UseOdds$Paper" 13 "UseOdds$Whole" ∈ TW := tw_t1 (i := 151) rfl rfl
theorem tw152 : .methodLinkNest "UseOdds$Paper" 15 ⟨"UseOdds$Whole", "<init>", "()V"⟩ "UseOdds" ∈ TW := tw_t1 (i := 152) rfl rfl
theorem tw153 : .fieldLink "UseOdds$Paper" 7 "UseOdds$Paper" "written" "Z" ∈ TW := tw_t1 (i := 153) rfl rfl
theorem tw154 : .fieldLinkNest "UseOdds" 168 "UseOdds$Paper" "written" "Z" "UseOdds" ∈ TW := tw_t1 (i := 154) rfl rfl
theorem tw155 : .fieldLink "UseOdds$Paper" 16 "UseOdds$Paper" "upper" "LUseOdds$Whole;" ∈ TW := tw_t1 (i := 155) rfl rfl
theorem tw156 : .fieldLinkNest "UseOdds" 146 "UseOdds$Paper" "upper" "LUseOdds$Whole;" "UseOdds" ∈ TW := tw_t1 (i := 156) rfl rfl
theorem tw157 : .fieldLink "UseOdds$Paper" 20 "UseOdds$Paper" "lower" "LUseOdds$Whole;" ∈ TW := tw_t1 (i := 157) rfl rfl
theorem tw158 : .fieldLinkNest "UseOdds" 155 "UseOdds$Paper" "lower" "LUseOdds$Whole;" "UseOdds" ∈ TW := tw_t1 (i := 158) rfl rfl
theorem tw159 : .lays "UseOdds$Paper" "UseOdds$Paper" "written" "Z" ∈ TW := tw_t1 (i := 159) rfl rfl
theorem tw161 : .laysFinal "UseOdds$Paper" "UseOdds$Paper" "upper" "LUseOdds$Whole;" ∈ TW := tw_t1 (i := 161) rfl rfl
theorem tw163 : .laysFinal "UseOdds$Paper" "UseOdds$Paper" "lower" "LUseOdds$Whole;" ∈ TW := tw_t1 (i := 163) rfl rfl
theorem tw166 : .classLink "UseOdds" 51 "[[I" ∈ TW := tw_t1 (i := 166) rfl rfl
theorem tw167 : .methodLink "UseOdds" 60 ⟨"UseOdds", "forgetCounts", "()V"⟩ ∈ TW := tw_t1 (i := 167) rfl rfl
theorem tw169 : .instanceMethod ⟨"UseOdds", "forgetCounts", "()V"⟩ ∈ TW := tw_t1 (i := 169) rfl rfl
theorem tw170 : .code ⟨"UseOdds", "forgetCounts", "()V"⟩ prog_1_method_20_code 2 none ∈ TW := tw_t1 (i := 170) rfl rfl
theorem tw171 : .methodLink "UseOdds" 210 ⟨"java/util/Arrays", "fill", "([II)V"⟩ ∈ TW := tw_t1 (i := 171) rfl rfl
theorem tw172 : .static ⟨"java/util/Arrays", "fill", "([II)V"⟩ ∈ TW := tw_t1 (i := 172) rfl rfl
theorem tw173 : .code ⟨"java/util/Arrays", "fill", "([II)V"⟩ prog_18_method_103_code 4 none ∈ TW := tw_t1 (i := 173) rfl rfl
theorem tw174 : .fieldLink "UseOdds" 10 "UseOdds" "kinds" "LUseOdds$Kinds;" ∈ TW := tw_t1 (i := 174) rfl rfl
theorem tw175 : .fieldLink "UseOdds" 19 "UseOdds" "tree" "LUseOdds$Tree;" ∈ TW := tw_t1 (i := 175) rfl rfl
theorem tw176 : .fieldLink "UseOdds" 26 "UseOdds" "list" "LUseOdds$PriceList;" ∈ TW := tw_t1 (i := 176) rfl rfl
theorem tw177 : .fieldLink "UseOdds" 33 "UseOdds" "odds" "LUseOdds$Odds;" ∈ TW := tw_t1 (i := 177) rfl rfl
theorem tw178 : .fieldLink "UseOdds" 40 "UseOdds" "paper" "LUseOdds$Paper;" ∈ TW := tw_t1 (i := 178) rfl rfl
theorem tw179 : .fieldLink "UseOdds" 44 "UseOdds" "shareAbove" "I" ∈ TW := tw_t1 (i := 179) rfl rfl
theorem tw180 : .fieldLink "UseOdds" 48 "UseOdds" "shareBelow" "I" ∈ TW := tw_t1 (i := 180) rfl rfl
theorem tw181 : .fieldLink "UseOdds" 53 "UseOdds" "counts" "[[I" ∈ TW := tw_t1 (i := 181) rfl rfl
theorem tw182 : .fieldLink "UseOdds" 56 "UseOdds" "drops" "[J" ∈ TW := tw_t1 (i := 182) rfl rfl
theorem tw183 : .laysFinal "UseOdds" "UseOdds" "kinds" "LUseOdds$Kinds;" ∈ TW := tw_t1 (i := 183) rfl rfl
theorem tw185 : .laysFinal "UseOdds" "UseOdds" "tree" "LUseOdds$Tree;" ∈ TW := tw_t1 (i := 185) rfl rfl
theorem tw187 : .laysFinal "UseOdds" "UseOdds" "list" "LUseOdds$PriceList;" ∈ TW := tw_t1 (i := 187) rfl rfl
theorem tw189 : .laysFinal "UseOdds" "UseOdds" "odds" "LUseOdds$Odds;" ∈ TW := tw_t1 (i := 189) rfl rfl
theorem tw191 : .laysFinal "UseOdds" "UseOdds" "paper" "LUseOdds$Paper;" ∈ TW := tw_t1 (i := 191) rfl rfl
theorem tw193 : .lays "UseOdds" "UseOdds" "shareAbove" "I" ∈ TW := tw_t1 (i := 193) rfl rfl
theorem tw195 : .lays "UseOdds" "UseOdds" "shareBelow" "I" ∈ TW := tw_t1 (i := 195) rfl rfl
theorem tw197 : .laysFinal "UseOdds" "UseOdds" "counts" "[[I" ∈ TW := tw_t1 (i := 197) rfl rfl
theorem tw199 : .laysFinal "UseOdds" "UseOdds" "drops" "[J" ∈ TW := tw_t1 (i := 199) rfl rfl
theorem tw202 : .methodLink "UseOddsLaw" 128 ⟨"UseOdds", "cost", "()I"⟩ ∈ TW := tw_t1 (i := 202) rfl rfl
theorem tw203 : .instanceMethod ⟨"UseOdds", "cost", "()I"⟩ ∈ TW := tw_t1 (i := 203) rfl rfl
theorem tw204 : .selects "UseOdds" ⟨"UseOdds", "cost", "()I"⟩ ⟨"UseOdds", "cost", "()I"⟩ ∈ TW := tw_t1 (i := 204) rfl rfl
theorem tw205 : .code ⟨"UseOdds", "cost", "()I"⟩ prog_1_method_16_code 4 (some .int) ∈ TW := tw_t1 (i := 205) rfl rfl
theorem tw206 : .methodLink "UseOdds" 181 ⟨"UseOdds", "flowOf", "(I)I"⟩ ∈ TW := tw_t1 (i := 206) rfl rfl
theorem tw208 : .instanceMethod ⟨"UseOdds", "flowOf", "(I)I"⟩ ∈ TW := tw_t1 (i := 208) rfl rfl
theorem tw209 : .code ⟨"UseOdds", "flowOf", "(I)I"⟩ prog_1_method_22_code 4 (some .int) ∈ TW := tw_t1 (i := 209) rfl rfl
theorem tw210 : .methodLink "UseOdds" 116 ⟨"UseOdds", "countOf", "(II)I"⟩ ∈ TW := tw_t1 (i := 210) rfl rfl
theorem tw212 : .instanceMethod ⟨"UseOdds", "countOf", "(II)I"⟩ ∈ TW := tw_t1 (i := 212) rfl rfl
theorem tw213 : .code ⟨"UseOdds", "countOf", "(II)I"⟩ prog_1_method_21_code 4 (some .int) ∈ TW := tw_t1 (i := 213) rfl rfl
theorem tw214 : .methodLink "UseOdds" 126 ⟨"UseOdds$Odds", "begin", "(III)V"⟩ ∈ TW := tw_t1 (i := 214) rfl rfl
theorem tw215 : .instanceMethod ⟨"UseOdds$Odds", "begin", "(III)V"⟩ ∈ TW := tw_t1 (i := 215) rfl rfl
theorem tw216 : .selects "UseOdds$Odds" ⟨"UseOdds$Odds", "begin", "(III)V"⟩ ⟨"UseOdds$Odds", "begin", "(III)V"⟩ ∈ TW := tw_t1 (i := 216) rfl rfl
theorem tw217 : .code ⟨"UseOdds$Odds", "begin", "(III)V"⟩ prog_3_method_2_code 4 none ∈ TW := tw_t1 (i := 217) rfl rfl
theorem tw218 : .methodLink "UseOdds$Odds" 35 ⟨"UseOdds$Whole", "becomePower", "(II)V"⟩ ∈ TW := tw_t1 (i := 218) rfl rfl
theorem tw219 : .instanceMethod ⟨"UseOdds$Whole", "becomePower", "(II)V"⟩ ∈ TW := tw_t1 (i := 219) rfl rfl
theorem tw220 : .selects "UseOdds$Whole" ⟨"UseOdds$Whole", "becomePower", "(II)V"⟩ ⟨"UseOdds$Whole", "becomePower", "(II)V"⟩ ∈ TW := tw_t1 (i := 220) rfl rfl
theorem tw221 : .code ⟨"UseOdds$Whole", "becomePower", "(II)V"⟩ prog_7_method_4_code 4 none ∈ TW := tw_t1 (i := 221) rfl rfl
theorem tw222 : .methodLink "UseOdds$Whole" 29 ⟨"UseOdds$Whole", "become", "(I)V"⟩ ∈ TW := tw_t1 (i := 222) rfl rfl
theorem tw223 : .instanceMethod ⟨"UseOdds$Whole", "become", "(I)V"⟩ ∈ TW := tw_t1 (i := 223) rfl rfl
theorem tw224 : .selects "UseOdds$Whole" ⟨"UseOdds$Whole", "become", "(I)V"⟩ ⟨"UseOdds$Whole", "become", "(I)V"⟩ ∈ TW := tw_t1 (i := 224) rfl rfl
theorem tw225 : .code ⟨"UseOdds$Whole", "become", "(I)V"⟩ prog_7_method_2_code 2 none ∈ TW := tw_t1 (i := 225) rfl rfl
theorem tw226 : .methodLink "UseOdds$Whole" 17 ⟨"java/util/Arrays", "fill", "([JJ)V"⟩ ∈ TW := tw_t1 (i := 226) rfl rfl
theorem tw227 : .static ⟨"java/util/Arrays", "fill", "([JJ)V"⟩ ∈ TW := tw_t1 (i := 227) rfl rfl
theorem tw228 : .code ⟨"java/util/Arrays", "fill", "([JJ)V"⟩ prog_18_method_101_code 5 none ∈ TW := tw_t1 (i := 228) rfl rfl
theorem tw229 : .methodLink "UseOdds$Whole" 33 ⟨"UseOdds$Whole", "multiply", "(I)V"⟩ ∈ TW := tw_t1 (i := 229) rfl rfl
theorem tw230 : .instanceMethod ⟨"UseOdds$Whole", "multiply", "(I)V"⟩ ∈ TW := tw_t1 (i := 230) rfl rfl
theorem tw231 : .selects "UseOdds$Whole" ⟨"UseOdds$Whole", "multiply", "(I)V"⟩ ⟨"UseOdds$Whole", "multiply", "(I)V"⟩ ∈ TW := tw_t1 (i := 231) rfl rfl
theorem tw232 : .code ⟨"UseOdds$Whole", "multiply", "(I)V"⟩ prog_7_method_5_code 7 none ∈ TW := tw_t1 (i := 232) rfl rfl
theorem tw233 : .constantLong "UseOdds$Whole" 36 (1000000000000) ∈ TW := tw_t1 (i := 233) rfl rfl
theorem tw234 : .methodLink "UseOdds$Odds" 39 ⟨"UseOdds$Whole", "become", "(I)V"⟩ ∈ TW := tw_t1 (i := 234) rfl rfl
theorem tw235 : .methodLink "UseOdds" 216 ⟨"UseOdds$Odds", "leastCount", "(II)I"⟩ ∈ TW := tw_t1 (i := 235) rfl rfl
theorem tw236 : .instanceMethod ⟨"UseOdds$Odds", "leastCount", "(II)I"⟩ ∈ TW := tw_t1 (i := 236) rfl rfl
theorem tw237 : .selects "UseOdds$Odds" ⟨"UseOdds$Odds", "leastCount", "(II)I"⟩ ⟨"UseOdds$Odds", "leastCount", "(II)I"⟩ ∈ TW := tw_t1 (i := 237) rfl rfl
theorem tw238 : .code ⟨"UseOdds$Odds", "leastCount", "(II)I"⟩ prog_3_method_4_code 4 (some .int) ∈ TW := tw_t1 (i := 238) rfl rfl
theorem tw239 : .methodLink "UseOdds$Odds" 47 ⟨"UseOdds$Whole", "multiply", "(I)V"⟩ ∈ TW := tw_t1 (i := 239) rfl rfl
theorem tw240 : .methodLink "UseOdds$Odds" 50 ⟨"UseOdds$Whole", "divide", "(I)V"⟩ ∈ TW := tw_t2 (i := 0) rfl rfl
theorem tw241 : .instanceMethod ⟨"UseOdds$Whole", "divide", "(I)V"⟩ ∈ TW := tw_t2 (i := 1) rfl rfl
theorem tw242 : .selects "UseOdds$Whole" ⟨"UseOdds$Whole", "divide", "(I)V"⟩ ⟨"UseOdds$Whole", "divide", "(I)V"⟩ ∈ TW := tw_t2 (i := 2) rfl rfl
theorem tw243 : .code ⟨"UseOdds$Whole", "divide", "(I)V"⟩ prog_7_method_7_code 7 none ∈ TW := tw_t2 (i := 3) rfl rfl
theorem tw244 : .methodLink "UseOdds$Odds" 53 ⟨"UseOdds$Odds", "oneFewer", "()V"⟩ ∈ TW := tw_t2 (i := 4) rfl rfl
theorem tw245 : .instanceMethod ⟨"UseOdds$Odds", "oneFewer", "()V"⟩ ∈ TW := tw_t2 (i := 5) rfl rfl
theorem tw246 : .selects "UseOdds$Odds" ⟨"UseOdds$Odds", "oneFewer", "()V"⟩ ⟨"UseOdds$Odds", "oneFewer", "()V"⟩ ∈ TW := tw_t2 (i := 6) rfl rfl
theorem tw247 : .code ⟨"UseOdds$Odds", "oneFewer", "()V"⟩ prog_3_method_3_code 1 none ∈ TW := tw_t2 (i := 7) rfl rfl
theorem tw248 : .methodLink "UseOdds$Odds" 43 ⟨"UseOdds$Whole", "add", "(LUseOdds$Whole;)V"⟩ ∈ TW := tw_t2 (i := 8) rfl rfl
theorem tw249 : .instanceMethod ⟨"UseOdds$Whole", "add", "(LUseOdds$Whole;)V"⟩ ∈ TW := tw_t2 (i := 9) rfl rfl
theorem tw250 : .selects "UseOdds$Whole" ⟨"UseOdds$Whole", "add", "(LUseOdds$Whole;)V"⟩ ⟨"UseOdds$Whole", "add", "(LUseOdds$Whole;)V"⟩ ∈ TW := tw_t2 (i := 10) rfl rfl
theorem tw251 : .code ⟨"UseOdds$Whole", "add", "(LUseOdds$Whole;)V"⟩ prog_7_method_6_code 7 none ∈ TW := tw_t2 (i := 11) rfl rfl
theorem tw252 : .methodLink "UseOdds$Whole" 38 ⟨"java/lang/Math", "max", "(II)I"⟩ ∈ TW := tw_t2 (i := 12) rfl rfl
theorem tw253 : .static ⟨"java/lang/Math", "max", "(II)I"⟩ ∈ TW := tw_t2 (i := 13) rfl rfl
theorem tw254 : .code ⟨"java/lang/Math", "max", "(II)I"⟩ prog_13_method_65_code 2 (some .int) ∈ TW := tw_t2 (i := 14) rfl rfl
theorem tw255 : .methodLink "UseOdds$Odds" 56 ⟨"UseOdds$Whole", "exceeds", "(LUseOdds$Whole;)Z"⟩ ∈ TW := tw_t2 (i := 15) rfl rfl
theorem tw256 : .instanceMethod ⟨"UseOdds$Whole", "exceeds", "(LUseOdds$Whole;)Z"⟩ ∈ TW := tw_t2 (i := 16) rfl rfl
theorem tw257 : .selects "UseOdds$Whole" ⟨"UseOdds$Whole", "exceeds", "(LUseOdds$Whole;)Z"⟩ ⟨"UseOdds$Whole", "exceeds", "(LUseOdds$Whole;)Z"⟩ ∈ TW := tw_t2 (i := 17) rfl rfl
theorem tw258 : .code ⟨"UseOdds$Whole", "exceeds", "(LUseOdds$Whole;)Z"⟩ prog_7_method_9_code 3 (some .boolean) ∈ TW := tw_t2 (i := 18) rfl rfl
theorem tw259 : .methodLink "UseOdds" 184 ⟨"UseOdds$PriceList", "cheapestFor", "(I)I"⟩ ∈ TW := tw_t2 (i := 19) rfl rfl
theorem tw260 : .instanceMethod ⟨"UseOdds$PriceList", "cheapestFor", "(I)I"⟩ ∈ TW := tw_t2 (i := 20) rfl rfl
theorem tw261 : .selects "UseOdds$PriceList" ⟨"UseOdds$PriceList", "cheapestFor", "(I)I"⟩ ⟨"UseOdds$PriceList", "cheapestFor", "(I)I"⟩ ∈ TW := tw_t2 (i := 21) rfl rfl
theorem tw262 : .code ⟨"UseOdds$PriceList", "cheapestFor", "(I)I"⟩ prog_5_method_3_code 4 (some .int) ∈ TW := tw_t2 (i := 22) rfl rfl
theorem tw263 : .methodLink "UseOddsLaw" 76 ⟨"UseOddsLaw", "kind", "(LUseOdds;III[J)I"⟩ ∈ TW := tw_t2 (i := 23) rfl rfl
theorem tw264 : .static ⟨"UseOddsLaw", "kind", "(LUseOdds;III[J)I"⟩ ∈ TW := tw_t2 (i := 24) rfl rfl
theorem tw265 : .codeWith ⟨"UseOddsLaw", "kind", "(LUseOdds;III[J)I"⟩ method_3_code 6 (some .int) [(0, 12, 15, 13), (0, 12, 19, 15)] ∈ TW := tw_t2 (i := 25) rfl rfl
theorem tw266 : .classLink "UseOddsLaw" 13 "java/lang/IllegalArgumentException" ∈ TW := tw_t2 (i := 26) rfl rfl
theorem tw267 : .classLink "UseOddsLaw" 15 "java/lang/IllegalStateException" ∈ TW := tw_t2 (i := 27) rfl rfl
theorem tw268 : .methodLink "UseOddsLaw" 7 ⟨"UseOdds", "kind", "(III)I"⟩ ∈ TW := tw_t2 (i := 28) rfl rfl
theorem tw269 : .instanceMethod ⟨"UseOdds", "kind", "(III)I"⟩ ∈ TW := tw_t2 (i := 29) rfl rfl
theorem tw270 : .selects "UseOdds" ⟨"UseOdds", "kind", "(III)I"⟩ ⟨"UseOdds", "kind", "(III)I"⟩ ∈ TW := tw_t2 (i := 30) rfl rfl
theorem tw271 : .code ⟨"UseOdds", "kind", "(III)I"⟩ prog_1_method_2_code 4 (some .int) ∈ TW := tw_t2 (i := 31) rfl rfl
theorem tw272 : .methodLink "UseOdds" 63 ⟨"UseOdds", "isWithin", "(III)Z"⟩ ∈ TW := tw_t2 (i := 32) rfl rfl
theorem tw273 : .static ⟨"UseOdds", "isWithin", "(III)Z"⟩ ∈ TW := tw_t2 (i := 33) rfl rfl
theorem tw274 : .code ⟨"UseOdds", "isWithin", "(III)Z"⟩ prog_1_method_27_code 3 (some .boolean) ∈ TW := tw_t2 (i := 34) rfl rfl
theorem tw275 : .methodLink "UseOdds" 67 ⟨"UseOdds", "require", "(Z)V"⟩ ∈ TW := tw_t2 (i := 35) rfl rfl
theorem tw276 : .static ⟨"UseOdds", "require", "(Z)V"⟩ ∈ TW := tw_t2 (i := 36) rfl rfl
theorem tw277 : .code ⟨"UseOdds", "require", "(Z)V"⟩ prog_1_method_26_code 1 none ∈ TW := tw_t2 (i := 37) rfl rfl
theorem tw278 : .classLink "UseOdds" 226 "java/lang/IllegalArgumentException" ∈ TW := tw_t2 (i := 38) rfl rfl
theorem tw279 : .instantiable "java/lang/IllegalArgumentException" 6 ∈ TW := tw_t2 (i := 39) rfl rfl
theorem tw287 : .selects "java/lang/IllegalArgumentException" ⟨"java/lang/Throwable", "fillInStackTrace", "(I)Ljava/lang/Throwable;"⟩ ⟨"java/lang/Throwable", "fillInStackTrace", "(I)Ljava/lang/Throwable;"⟩ ∈ TW := tw_t2 (i := 47) rfl rfl
theorem tw288 : .selects "java/lang/IllegalArgumentException" ⟨"java/lang/Throwable", "fillInStackTrace", "()Ljava/lang/Throwable;"⟩ ⟨"java/lang/Throwable", "fillInStackTrace", "()Ljava/lang/Throwable;"⟩ ∈ TW := tw_t2 (i := 48) rfl rfl
theorem tw289 : .lays "java/lang/IllegalArgumentException" "java/lang/Throwable" "cause" "Ljava/lang/Throwable;" ∈ TW := tw_t2 (i := 49) rfl rfl
theorem tw290 : .lays "java/lang/Throwable" "java/lang/Throwable" "cause" "Ljava/lang/Throwable;" ∈ TW := tw_t2 (i := 50) rfl rfl
theorem tw291 : .lays "java/lang/IllegalArgumentException" "java/lang/Throwable" "stackTrace" "[Ljava/lang/StackTraceElement;" ∈ TW := tw_t2 (i := 51) rfl rfl
theorem tw292 : .lays "java/lang/Throwable" "java/lang/Throwable" "stackTrace" "[Ljava/lang/StackTraceElement;" ∈ TW := tw_t2 (i := 52) rfl rfl
theorem tw293 : .lays "java/lang/IllegalArgumentException" "java/lang/Throwable" "suppressedExceptions" "Ljava/util/List;" ∈ TW := tw_t2 (i := 53) rfl rfl
theorem tw294 : .lays "java/lang/Throwable" "java/lang/Throwable" "suppressedExceptions" "Ljava/util/List;" ∈ TW := tw_t2 (i := 54) rfl rfl
theorem tw295 : .lays "java/lang/IllegalArgumentException" "java/lang/Throwable" "detailMessage" "Ljava/lang/String;" ∈ TW := tw_t2 (i := 55) rfl rfl
theorem tw296 : .lays "java/lang/Throwable" "java/lang/Throwable" "detailMessage" "Ljava/lang/String;" ∈ TW := tw_t2 (i := 56) rfl rfl
theorem tw297 : .lays "java/lang/IllegalArgumentException" "java/lang/Throwable" "backtrace" "Ljava/lang/Object;" ∈ TW := tw_t2 (i := 57) rfl rfl
theorem tw298 : .lays "java/lang/Throwable" "java/lang/Throwable" "backtrace" "Ljava/lang/Object;" ∈ TW := tw_t2 (i := 58) rfl rfl
theorem tw299 : .fieldLink "java/lang/Throwable" 198 "java/lang/Throwable" "backtrace" "Ljava/lang/Object;" ∈ TW := tw_t2 (i := 59) rfl rfl
theorem tw301 : .instanceMethod ⟨"java/lang/Throwable", "<init>", "()V"⟩ ∈ TW := tw_t2 (i := 61) rfl rfl
theorem tw302 : .code ⟨"java/lang/Throwable", "<init>", "()V"⟩ prog_17_method_1_code 1 none ∈ TW := tw_t2 (i := 62) rfl rfl
theorem tw303 : .methodLink "java/lang/Throwable" 1 ⟨"java/lang/Object", "<init>", "()V"⟩ ∈ TW := tw_t2 (i := 63) rfl rfl
theorem tw304 : .fieldLink "java/lang/Throwable" 13 "java/lang/Throwable" "UNASSIGNED_STACK" "[Ljava/lang/StackTraceElement;" ∈ TW := tw_t2 (i := 64) rfl rfl
theorem tw306 : .fieldLink "java/lang/Throwable" 20 "java/lang/Throwable" "SUPPRESSED_SENTINEL" "Ljava/util/List;" ∈ TW := tw_t2 (i := 66) rfl rfl
theorem tw308 : .methodLink "java/lang/Throwable" 27 ⟨"java/lang/Throwable", "fillInStackTrace", "()Ljava/lang/Throwable;"⟩ ∈ TW := tw_t2 (i := 68) rfl rfl
theorem tw309 : .instanceMethod ⟨"java/lang/Throwable", "fillInStackTrace", "()Ljava/lang/Throwable;"⟩ ∈ TW := tw_t2 (i := 69) rfl rfl
theorem tw310 : .sameMethod "java/lang/Throwable" "java/lang/Throwable" "fillInStackTrace" "()Ljava/lang/Throwable;" ∈ TW := tw_t2 (i := 70) rfl rfl
theorem tw311 : .selects "java/lang/IllegalStateException" ⟨"java/lang/Throwable", "fillInStackTrace", "()Ljava/lang/Throwable;"⟩ ⟨"java/lang/Throwable", "fillInStackTrace", "()Ljava/lang/Throwable;"⟩ ∈ TW := tw_t2 (i := 71) rfl rfl
theorem tw313 : .methodLink "java/lang/Throwable" 202 ⟨"java/lang/Throwable", "fillInStackTrace", "(I)Ljava/lang/Throwable;"⟩ ∈ TW := tw_t2 (i := 73) rfl rfl
theorem tw315 : .instanceMethod ⟨"java/lang/Throwable", "fillInStackTrace", "(I)Ljava/lang/Throwable;"⟩ ∈ TW := tw_t2 (i := 75) rfl rfl
theorem tw316 : .instantiable "java/lang/Throwable" 6 ∈ TW := tw_t2 (i := 76) rfl rfl
theorem tw317 : .native ⟨"java/lang/Throwable", "fillInStackTrace", "(I)Ljava/lang/Throwable;"⟩ ∈ TW := tw_t2 (i := 77) rfl rfl
theorem tw319 : .methodLink "UseOdds" 230 ⟨"java/lang/IllegalArgumentException", "<init>", "(Ljava/lang/String;)V"⟩ ∈ TW := tw_t2 (i := 79) rfl rfl
theorem tw320 : .instanceMethod ⟨"java/lang/IllegalArgumentException", "<init>", "(Ljava/lang/String;)V"⟩ ∈ TW := tw_t2 (i := 80) rfl rfl
theorem tw321 : .code ⟨"java/lang/IllegalArgumentException", "<init>", "(Ljava/lang/String;)V"⟩ prog_11_method_2_code 2 none ∈ TW := tw_t2 (i := 81) rfl rfl
theorem tw322 : .methodLink "java/lang/IllegalArgumentException" 7 ⟨"java/lang/RuntimeException", "<init>", "(Ljava/lang/String;)V"⟩ ∈ TW := tw_t2 (i := 82) rfl rfl
theorem tw323 : .instanceMethod ⟨"java/lang/RuntimeException", "<init>", "(Ljava/lang/String;)V"⟩ ∈ TW := tw_t2 (i := 83) rfl rfl
theorem tw324 : .code ⟨"java/lang/RuntimeException", "<init>", "(Ljava/lang/String;)V"⟩ prog_14_method_2_code 2 none ∈ TW := tw_t2 (i := 84) rfl rfl
theorem tw325 : .methodLink "java/lang/RuntimeException" 7 ⟨"java/lang/Exception", "<init>", "(Ljava/lang/String;)V"⟩ ∈ TW := tw_t2 (i := 85) rfl rfl
theorem tw326 : .instanceMethod ⟨"java/lang/Exception", "<init>", "(Ljava/lang/String;)V"⟩ ∈ TW := tw_t2 (i := 86) rfl rfl
theorem tw327 : .code ⟨"java/lang/Exception", "<init>", "(Ljava/lang/String;)V"⟩ prog_10_method_2_code 2 none ∈ TW := tw_t2 (i := 87) rfl rfl
theorem tw328 : .methodLink "java/lang/Exception" 7 ⟨"java/lang/Throwable", "<init>", "(Ljava/lang/String;)V"⟩ ∈ TW := tw_t2 (i := 88) rfl rfl
theorem tw329 : .instanceMethod ⟨"java/lang/Throwable", "<init>", "(Ljava/lang/String;)V"⟩ ∈ TW := tw_t2 (i := 89) rfl rfl
theorem tw330 : .code ⟨"java/lang/Throwable", "<init>", "(Ljava/lang/String;)V"⟩ prog_17_method_2_code 2 none ∈ TW := tw_t2 (i := 90) rfl rfl
theorem tw331 : .fieldLink "java/lang/Throwable" 198 "java/lang/Throwable" "backtrace" "Ljava/lang/Object;" ∈ TW := tw_t2 (i := 91) rfl rfl
theorem tw332 : .fieldLink "java/lang/Throwable" 31 "java/lang/Throwable" "detailMessage" "Ljava/lang/String;" ∈ TW := tw_t2 (i := 92) rfl rfl
theorem tw333 : .fieldLink "java/lang/Throwable" 7 "java/lang/Throwable" "cause" "Ljava/lang/Throwable;" ∈ TW := tw_t2 (i := 93) rfl rfl
theorem tw334 : .fieldLink "java/lang/Throwable" 17 "java/lang/Throwable" "stackTrace" "[Ljava/lang/StackTraceElement;" ∈ TW := tw_t2 (i := 94) rfl rfl
theorem tw335 : .fieldLink "java/lang/Throwable" 24 "java/lang/Throwable" "suppressedExceptions" "Ljava/util/List;" ∈ TW := tw_t2 (i := 95) rfl rfl
theorem tw340 : .lays "java/lang/IllegalArgumentException" "java/lang/Throwable" "depth" "I" ∈ TW := tw_t2 (i := 100) rfl rfl
theorem tw345 : .classLink "UseOdds" 74 "java/lang/IllegalStateException" ∈ TW := tw_t2 (i := 105) rfl rfl
theorem tw346 : .instantiable "java/lang/IllegalStateException" 6 ∈ TW := tw_t2 (i := 106) rfl rfl
theorem tw348 : .selects "java/lang/IllegalStateException" ⟨"java/lang/Throwable", "fillInStackTrace", "(I)Ljava/lang/Throwable;"⟩ ⟨"java/lang/Throwable", "fillInStackTrace", "(I)Ljava/lang/Throwable;"⟩ ∈ TW := tw_t2 (i := 108) rfl rfl
theorem tw349 : .lays "java/lang/IllegalStateException" "java/lang/Throwable" "cause" "Ljava/lang/Throwable;" ∈ TW := tw_t2 (i := 109) rfl rfl
theorem tw350 : .lays "java/lang/IllegalStateException" "java/lang/Throwable" "stackTrace" "[Ljava/lang/StackTraceElement;" ∈ TW := tw_t2 (i := 110) rfl rfl
theorem tw351 : .lays "java/lang/IllegalStateException" "java/lang/Throwable" "suppressedExceptions" "Ljava/util/List;" ∈ TW := tw_t2 (i := 111) rfl rfl
theorem tw352 : .lays "java/lang/IllegalStateException" "java/lang/Throwable" "detailMessage" "Ljava/lang/String;" ∈ TW := tw_t2 (i := 112) rfl rfl
theorem tw353 : .lays "java/lang/IllegalStateException" "java/lang/Throwable" "backtrace" "Ljava/lang/Object;" ∈ TW := tw_t2 (i := 113) rfl rfl
theorem tw355 : .methodLink "UseOdds" 78 ⟨"java/lang/IllegalStateException", "<init>", "(Ljava/lang/String;)V"⟩ ∈ TW := tw_t2 (i := 115) rfl rfl
theorem tw356 : .instanceMethod ⟨"java/lang/IllegalStateException", "<init>", "(Ljava/lang/String;)V"⟩ ∈ TW := tw_t2 (i := 116) rfl rfl
theorem tw357 : .code ⟨"java/lang/IllegalStateException", "<init>", "(Ljava/lang/String;)V"⟩ prog_12_method_2_code 2 none ∈ TW := tw_t2 (i := 117) rfl rfl
theorem tw358 : .methodLink "java/lang/IllegalStateException" 7 ⟨"java/lang/RuntimeException", "<init>", "(Ljava/lang/String;)V"⟩ ∈ TW := tw_t2 (i := 118) rfl rfl
theorem tw359 : .lays "java/lang/IllegalStateException" "java/lang/Throwable" "depth" "I" ∈ TW := tw_t2 (i := 119) rfl rfl
theorem tw361 : .methodLink "UseOdds" 81 ⟨"UseOdds$Kinds", "append", "(III)I"⟩ ∈ TW := tw_t2 (i := 121) rfl rfl
theorem tw362 : .instanceMethod ⟨"UseOdds$Kinds", "append", "(III)I"⟩ ∈ TW := tw_t2 (i := 122) rfl rfl
theorem tw363 : .selects "UseOdds$Kinds" ⟨"UseOdds$Kinds", "append", "(III)I"⟩ ⟨"UseOdds$Kinds", "append", "(III)I"⟩ ∈ TW := tw_t2 (i := 123) rfl rfl
theorem tw364 : .code ⟨"UseOdds$Kinds", "append", "(III)I"⟩ prog_2_method_3_code 5 (some .int) ∈ TW := tw_t2 (i := 124) rfl rfl
theorem tw365 : .methodLinkNest "UseOdds$Kinds" 25 ⟨"UseOdds", "commonDivisor", "(II)I"⟩ "UseOdds" ∈ TW := tw_t2 (i := 125) rfl rfl
theorem tw366 : .static ⟨"UseOdds", "commonDivisor", "(II)I"⟩ ∈ TW := tw_t2 (i := 126) rfl rfl
theorem tw367 : .code ⟨"UseOdds", "commonDivisor", "(II)I"⟩ prog_1_method_28_code 6 (some .int) ∈ TW := tw_t2 (i := 127) rfl rfl
theorem tw368 : .methodLink "UseOddsLaw" 85 ⟨"UseOddsLaw", "pipe", "(LUseOdds;II[J)I"⟩ ∈ TW := tw_t2 (i := 128) rfl rfl
theorem tw369 : .static ⟨"UseOddsLaw", "pipe", "(LUseOdds;II[J)I"⟩ ∈ TW := tw_t2 (i := 129) rfl rfl
theorem tw370 : .codeWith ⟨"UseOddsLaw", "pipe", "(LUseOdds;II[J)I"⟩ method_4_code 5 (some .int) [(0, 10, 13, 13), (0, 10, 17, 15)] ∈ TW := tw_t2 (i := 130) rfl rfl
theorem tw371 : .methodLink "UseOddsLaw" 17 ⟨"UseOdds", "pipe", "(II)I"⟩ ∈ TW := tw_t2 (i := 131) rfl rfl
theorem tw372 : .instanceMethod ⟨"UseOdds", "pipe", "(II)I"⟩ ∈ TW := tw_t2 (i := 132) rfl rfl
theorem tw373 : .selects "UseOdds" ⟨"UseOdds", "pipe", "(II)I"⟩ ⟨"UseOdds", "pipe", "(II)I"⟩ ∈ TW := tw_t2 (i := 133) rfl rfl
theorem tw374 : .code ⟨"UseOdds", "pipe", "(II)I"⟩ prog_1_method_3_code 3 (some .int) ∈ TW := tw_t2 (i := 134) rfl rfl
theorem tw375 : .methodLink "UseOdds" 86 ⟨"UseOdds$Tree", "has", "(I)Z"⟩ ∈ TW := tw_t2 (i := 135) rfl rfl
theorem tw376 : .instanceMethod ⟨"UseOdds$Tree", "has", "(I)Z"⟩ ∈ TW := tw_t2 (i := 136) rfl rfl
theorem tw377 : .selects "UseOdds$Tree" ⟨"UseOdds$Tree", "has", "(I)Z"⟩ ⟨"UseOdds$Tree", "has", "(I)Z"⟩ ∈ TW := tw_t2 (i := 137) rfl rfl
theorem tw378 : .code ⟨"UseOdds$Tree", "has", "(I)Z"⟩ prog_6_method_2_code 2 (some .boolean) ∈ TW := tw_t2 (i := 138) rfl rfl
theorem tw380 : .methodLink "UseOdds" 92 ⟨"UseOdds$Tree", "append", "(II)I"⟩ ∈ TW := tw_t2 (i := 140) rfl rfl
theorem tw381 : .instanceMethod ⟨"UseOdds$Tree", "append", "(II)I"⟩ ∈ TW := tw_t2 (i := 141) rfl rfl
theorem tw382 : .selects "UseOdds$Tree" ⟨"UseOdds$Tree", "append", "(II)I"⟩ ⟨"UseOdds$Tree", "append", "(II)I"⟩ ∈ TW := tw_t2 (i := 142) rfl rfl
theorem tw383 : .code ⟨"UseOdds$Tree", "append", "(II)I"⟩ prog_6_method_3_code 3 (some .int) ∈ TW := tw_t2 (i := 143) rfl rfl
theorem tw384 : .methodLink "UseOddsLaw" 89 ⟨"UseOddsLaw", "taps", "(LUseOdds;III[J)I"⟩ ∈ TW := tw_t2 (i := 144) rfl rfl
theorem tw385 : .static ⟨"UseOddsLaw", "taps", "(LUseOdds;III[J)I"⟩ ∈ TW := tw_t2 (i := 145) rfl rfl
theorem tw386 : .codeWith ⟨"UseOddsLaw", "taps", "(LUseOdds;III[J)I"⟩ method_5_code 6 (some .int) [(0, 12, 15, 13), (0, 12, 19, 15)] ∈ TW := tw_t2 (i := 146) rfl rfl
theorem tw387 : .methodLink "UseOddsLaw" 21 ⟨"UseOdds", "taps", "(III)I"⟩ ∈ TW := tw_t2 (i := 147) rfl rfl
theorem tw388 : .instanceMethod ⟨"UseOdds", "taps", "(III)I"⟩ ∈ TW := tw_t2 (i := 148) rfl rfl
theorem tw389 : .selects "UseOdds" ⟨"UseOdds", "taps", "(III)I"⟩ ⟨"UseOdds", "taps", "(III)I"⟩ ∈ TW := tw_t2 (i := 149) rfl rfl
theorem tw390 : .code ⟨"UseOdds", "taps", "(III)I"⟩ prog_1_method_4_code 4 (some .int) ∈ TW := tw_t2 (i := 150) rfl rfl
theorem tw391 : .methodLink "UseOdds" 95 ⟨"UseOdds", "requirePipeAndKind", "(II)V"⟩ ∈ TW := tw_t2 (i := 151) rfl rfl
theorem tw393 : .instanceMethod ⟨"UseOdds", "requirePipeAndKind", "(II)V"⟩ ∈ TW := tw_t2 (i := 153) rfl rfl
theorem tw394 : .code ⟨"UseOdds", "requirePipeAndKind", "(II)V"⟩ prog_1_method_25_code 3 none ∈ TW := tw_t2 (i := 154) rfl rfl
theorem tw395 : .methodLink "UseOdds" 225 ⟨"UseOdds$Kinds", "has", "(I)Z"⟩ ∈ TW := tw_t2 (i := 155) rfl rfl
theorem tw396 : .instanceMethod ⟨"UseOdds$Kinds", "has", "(I)Z"⟩ ∈ TW := tw_t2 (i := 156) rfl rfl
theorem tw397 : .selects "UseOdds$Kinds" ⟨"UseOdds$Kinds", "has", "(I)Z"⟩ ⟨"UseOdds$Kinds", "has", "(I)Z"⟩ ∈ TW := tw_t2 (i := 157) rfl rfl
theorem tw398 : .code ⟨"UseOdds$Kinds", "has", "(I)Z"⟩ prog_2_method_2_code 2 (some .boolean) ∈ TW := tw_t2 (i := 158) rfl rfl
theorem tw400 : .methodLink "UseOdds" 104 ⟨"UseOdds$Tree", "change", "(III)V"⟩ ∈ TW := tw_t2 (i := 160) rfl rfl
theorem tw401 : .instanceMethod ⟨"UseOdds$Tree", "change", "(III)V"⟩ ∈ TW := tw_t2 (i := 161) rfl rfl
theorem tw402 : .selects "UseOdds$Tree" ⟨"UseOdds$Tree", "change", "(III)V"⟩ ⟨"UseOdds$Tree", "change", "(III)V"⟩ ∈ TW := tw_t2 (i := 162) rfl rfl
theorem tw403 : .code ⟨"UseOdds$Tree", "change", "(III)V"⟩ prog_6_method_4_code 6 none ∈ TW := tw_t2 (i := 163) rfl rfl
theorem tw404 : .methodLink "UseOdds$Tree" 30 ⟨"UseOdds$Tree", "has", "(I)Z"⟩ ∈ TW := tw_t2 (i := 164) rfl rfl
theorem tw405 : .methodLink "UseOddsLaw" 92 ⟨"UseOddsLaw", "gone", "(LUseOdds;III[J)I"⟩ ∈ TW := tw_t2 (i := 165) rfl rfl
theorem tw406 : .static ⟨"UseOddsLaw", "gone", "(LUseOdds;III[J)I"⟩ ∈ TW := tw_t2 (i := 166) rfl rfl
theorem tw407 : .codeWith ⟨"UseOddsLaw", "gone", "(LUseOdds;III[J)I"⟩ method_6_code 6 (some .int) [(0, 12, 15, 13)] ∈ TW := tw_t2 (i := 167) rfl rfl
theorem tw408 : .methodLink "UseOddsLaw" 24 ⟨"UseOdds", "gone", "(III)I"⟩ ∈ TW := tw_t2 (i := 168) rfl rfl
theorem tw409 : .instanceMethod ⟨"UseOdds", "gone", "(III)I"⟩ ∈ TW := tw_t2 (i := 169) rfl rfl
theorem tw410 : .selects "UseOdds" ⟨"UseOdds", "gone", "(III)I"⟩ ⟨"UseOdds", "gone", "(III)I"⟩ ∈ TW := tw_t2 (i := 170) rfl rfl
theorem tw411 : .code ⟨"UseOdds", "gone", "(III)I"⟩ prog_1_method_5_code 4 (some .int) ∈ TW := tw_t2 (i := 171) rfl rfl
theorem tw412 : .methodLink "UseOddsLaw" 95 ⟨"UseOddsLaw", "share", "(LUseOdds;II)I"⟩ ∈ TW := tw_t2 (i := 172) rfl rfl
theorem tw413 : .static ⟨"UseOddsLaw", "share", "(LUseOdds;II)I"⟩ ∈ TW := tw_t2 (i := 173) rfl rfl
theorem tw414 : .codeWith ⟨"UseOddsLaw", "share", "(LUseOdds;II)I"⟩ method_7_code 4 (some .int) [(0, 6, 9, 13)] ∈ TW := tw_t2 (i := 174) rfl rfl
theorem tw415 : .methodLink "UseOddsLaw" 27 ⟨"UseOdds", "share", "(II)V"⟩ ∈ TW := tw_t2 (i := 175) rfl rfl
theorem tw416 : .instanceMethod ⟨"UseOdds", "share", "(II)V"⟩ ∈ TW := tw_t2 (i := 176) rfl rfl
theorem tw417 : .selects "UseOdds" ⟨"UseOdds", "share", "(II)V"⟩ ⟨"UseOdds", "share", "(II)V"⟩ ∈ TW := tw_t2 (i := 177) rfl rfl
theorem tw418 : .code ⟨"UseOdds", "share", "(II)V"⟩ prog_1_method_6_code 3 none ∈ TW := tw_t2 (i := 178) rfl rfl
theorem tw419 : .constant "UseOdds" 111 (1000000) ∈ TW := tw_t2 (i := 179) rfl rfl
theorem tw420 : .methodLink "UseOddsLaw" 99 ⟨"UseOddsLaw", "entry", "(LUseOdds;III[J)I"⟩ ∈ TW := tw_t2 (i := 180) rfl rfl
theorem tw421 : .static ⟨"UseOddsLaw", "entry", "(LUseOdds;III[J)I"⟩ ∈ TW := tw_t2 (i := 181) rfl rfl
theorem tw422 : .codeWith ⟨"UseOddsLaw", "entry", "(LUseOdds;III[J)I"⟩ method_8_code 6 (some .int) [(0, 12, 15, 13), (0, 12, 19, 15)] ∈ TW := tw_t2 (i := 182) rfl rfl
theorem tw423 : .methodLink "UseOddsLaw" 31 ⟨"UseOdds", "entry", "(III)I"⟩ ∈ TW := tw_t2 (i := 183) rfl rfl
theorem tw424 : .instanceMethod ⟨"UseOdds", "entry", "(III)I"⟩ ∈ TW := tw_t2 (i := 184) rfl rfl
theorem tw425 : .selects "UseOdds" ⟨"UseOdds", "entry", "(III)I"⟩ ⟨"UseOdds", "entry", "(III)I"⟩ ∈ TW := tw_t2 (i := 185) rfl rfl
theorem tw426 : .code ⟨"UseOdds", "entry", "(III)I"⟩ prog_1_method_7_code 4 (some .int) ∈ TW := tw_t2 (i := 186) rfl rfl
theorem tw428 : .methodLink "UseOdds" 115 ⟨"UseOdds$PriceList", "append", "(III)I"⟩ ∈ TW := tw_t2 (i := 188) rfl rfl
theorem tw429 : .instanceMethod ⟨"UseOdds$PriceList", "append", "(III)I"⟩ ∈ TW := tw_t2 (i := 189) rfl rfl
theorem tw430 : .selects "UseOdds$PriceList" ⟨"UseOdds$PriceList", "append", "(III)I"⟩ ⟨"UseOdds$PriceList", "append", "(III)I"⟩ ∈ TW := tw_t2 (i := 190) rfl rfl
theorem tw431 : .code ⟨"UseOdds$PriceList", "append", "(III)I"⟩ prog_5_method_2_code 4 (some .int) ∈ TW := tw_t2 (i := 191) rfl rfl
theorem tw432 : .methodLink "UseOddsLaw" 102 ⟨"UseOddsLaw", "many", "(LUseOdds;II[J)I"⟩ ∈ TW := tw_t2 (i := 192) rfl rfl
theorem tw433 : .static ⟨"UseOddsLaw", "many", "(LUseOdds;II[J)I"⟩ ∈ TW := tw_t2 (i := 193) rfl rfl
theorem tw434 : .codeWith ⟨"UseOddsLaw", "many", "(LUseOdds;II[J)I"⟩ method_9_code 5 (some .int) [(0, 10, 13, 13)] ∈ TW := tw_t2 (i := 194) rfl rfl
theorem tw435 : .methodLink "UseOddsLaw" 34 ⟨"UseOdds", "many", "(II)I"⟩ ∈ TW := tw_t2 (i := 195) rfl rfl
theorem tw436 : .instanceMethod ⟨"UseOdds", "many", "(II)I"⟩ ∈ TW := tw_t2 (i := 196) rfl rfl
theorem tw437 : .selects "UseOdds" ⟨"UseOdds", "many", "(II)I"⟩ ⟨"UseOdds", "many", "(II)I"⟩ ∈ TW := tw_t2 (i := 197) rfl rfl
theorem tw438 : .code ⟨"UseOdds", "many", "(II)I"⟩ prog_1_method_8_code 3 (some .int) ∈ TW := tw_t2 (i := 198) rfl rfl
theorem tw439 : .methodLink "UseOddsLaw" 105 ⟨"UseOddsLaw", "count", "(LUseOdds;II[J)I"⟩ ∈ TW := tw_t2 (i := 199) rfl rfl
theorem tw440 : .static ⟨"UseOddsLaw", "count", "(LUseOdds;II[J)I"⟩ ∈ TW := tw_t2 (i := 200) rfl rfl
theorem tw441 : .codeWith ⟨"UseOddsLaw", "count", "(LUseOdds;II[J)I"⟩ method_10_code 5 (some .int) [(0, 10, 13, 13)] ∈ TW := tw_t2 (i := 201) rfl rfl
theorem tw442 : .methodLink "UseOddsLaw" 37 ⟨"UseOdds", "count", "(II)I"⟩ ∈ TW := tw_t2 (i := 202) rfl rfl
theorem tw443 : .instanceMethod ⟨"UseOdds", "count", "(II)I"⟩ ∈ TW := tw_t2 (i := 203) rfl rfl
theorem tw444 : .selects "UseOdds" ⟨"UseOdds", "count", "(II)I"⟩ ⟨"UseOdds", "count", "(II)I"⟩ ∈ TW := tw_t2 (i := 204) rfl rfl
theorem tw445 : .code ⟨"UseOdds", "count", "(II)I"⟩ prog_1_method_9_code 3 (some .int) ∈ TW := tw_t2 (i := 205) rfl rfl
theorem tw446 : .methodLink "UseOddsLaw" 108 ⟨"UseOddsLaw", "write", "(LUseOdds;IIIZ[J)I"⟩ ∈ TW := tw_t2 (i := 206) rfl rfl
theorem tw447 : .static ⟨"UseOddsLaw", "write", "(LUseOdds;IIIZ[J)I"⟩ ∈ TW := tw_t2 (i := 207) rfl rfl
theorem tw448 : .codeWith ⟨"UseOddsLaw", "write", "(LUseOdds;IIIZ[J)I"⟩ method_11_code 7 (some .int) [(0, 14, 17, 13)] ∈ TW := tw_t2 (i := 208) rfl rfl
theorem tw449 : .methodLink "UseOddsLaw" 40 ⟨"UseOdds", "write", "(IIIZ)I"⟩ ∈ TW := tw_t2 (i := 209) rfl rfl
theorem tw450 : .instanceMethod ⟨"UseOdds", "write", "(IIIZ)I"⟩ ∈ TW := tw_t2 (i := 210) rfl rfl
theorem tw451 : .selects "UseOdds" ⟨"UseOdds", "write", "(IIIZ)I"⟩ ⟨"UseOdds", "write", "(IIIZ)I"⟩ ∈ TW := tw_t2 (i := 211) rfl rfl
theorem tw452 : .code ⟨"UseOdds", "write", "(IIIZ)I"⟩ prog_1_method_10_code 8 (some .int) ∈ TW := tw_t2 (i := 212) rfl rfl
theorem tw453 : .methodLink "UseOdds" 129 ⟨"UseOdds$Odds", "oneFewer", "()V"⟩ ∈ TW := tw_t2 (i := 213) rfl rfl
theorem tw454 : .methodLink "UseOdds" 142 ⟨"UseOdds$Paper", "take", "(LUseOdds$Whole;LUseOdds$Whole;I)V"⟩ ∈ TW := tw_t2 (i := 214) rfl rfl
theorem tw455 : .instanceMethod ⟨"UseOdds$Paper", "take", "(LUseOdds$Whole;LUseOdds$Whole;I)V"⟩ ∈ TW := tw_t2 (i := 215) rfl rfl
theorem tw456 : .selects "UseOdds$Paper" ⟨"UseOdds$Paper", "take", "(LUseOdds$Whole;LUseOdds$Whole;I)V"⟩ ⟨"UseOdds$Paper", "take", "(LUseOdds$Whole;LUseOdds$Whole;I)V"⟩ ∈ TW := tw_t2 (i := 216) rfl rfl
theorem tw457 : .code ⟨"UseOdds$Paper", "take", "(LUseOdds$Whole;LUseOdds$Whole;I)V"⟩ prog_4_method_2_code 6 none ∈ TW := tw_t2 (i := 217) rfl rfl
theorem tw458 : .methodLink "UseOdds$Paper" 23 ⟨"UseOdds$Whole", "become", "(LUseOdds$Whole;)V"⟩ ∈ TW := tw_t2 (i := 218) rfl rfl
theorem tw459 : .instanceMethod ⟨"UseOdds$Whole", "become", "(LUseOdds$Whole;)V"⟩ ∈ TW := tw_t2 (i := 219) rfl rfl
theorem tw460 : .selects "UseOdds$Whole" ⟨"UseOdds$Whole", "become", "(LUseOdds$Whole;)V"⟩ ⟨"UseOdds$Whole", "become", "(LUseOdds$Whole;)V"⟩ ∈ TW := tw_t2 (i := 220) rfl rfl
theorem tw461 : .code ⟨"UseOdds$Whole", "become", "(LUseOdds$Whole;)V"⟩ prog_7_method_3_code 2 none ∈ TW := tw_t2 (i := 221) rfl rfl
theorem tw462 : .methodLink "UseOdds$Whole" 23 ⟨"java/lang/System", "arraycopy", "(Ljava/lang/Object;ILjava/lang/Object;II)V"⟩ ∈ TW := tw_t2 (i := 222) rfl rfl
theorem tw463 : .static ⟨"java/lang/System", "arraycopy", "(Ljava/lang/Object;ILjava/lang/Object;II)V"⟩ ∈ TW := tw_t2 (i := 223) rfl rfl
theorem tw464 : .native ⟨"java/lang/System", "arraycopy", "(Ljava/lang/Object;ILjava/lang/Object;II)V"⟩ ∈ TW := tw_t2 (i := 224) rfl rfl
theorem tw465 : .methodLink "UseOdds$Paper" 27 ⟨"UseOdds$Whole", "remainder", "(I)I"⟩ ∈ TW := tw_t2 (i := 225) rfl rfl
theorem tw466 : .instanceMethod ⟨"UseOdds$Whole", "remainder", "(I)I"⟩ ∈ TW := tw_t2 (i := 226) rfl rfl
theorem tw467 : .selects "UseOdds$Whole" ⟨"UseOdds$Whole", "remainder", "(I)I"⟩ ⟨"UseOdds$Whole", "remainder", "(I)I"⟩ ∈ TW := tw_t2 (i := 227) rfl rfl
theorem tw468 : .code ⟨"UseOdds$Whole", "remainder", "(I)I"⟩ prog_7_method_8_code 5 (some .int) ∈ TW := tw_t2 (i := 228) rfl rfl
theorem tw469 : .methodLinkNest "UseOdds$Paper" 31 ⟨"UseOdds", "commonDivisor", "(II)I"⟩ "UseOdds" ∈ TW := tw_t2 (i := 229) rfl rfl
theorem tw470 : .methodLink "UseOdds$Paper" 37 ⟨"UseOdds$Whole", "divide", "(I)V"⟩ ∈ TW := tw_t2 (i := 230) rfl rfl
theorem tw471 : .methodLink "UseOdds" 149 ⟨"UseOdds$Whole", "length", "()I"⟩ ∈ TW := tw_t2 (i := 231) rfl rfl
theorem tw472 : .instanceMethod ⟨"UseOdds$Whole", "length", "()I"⟩ ∈ TW := tw_t2 (i := 232) rfl rfl
theorem tw473 : .selects "UseOdds$Whole" ⟨"UseOdds$Whole", "length", "()I"⟩ ⟨"UseOdds$Whole", "length", "()I"⟩ ∈ TW := tw_t2 (i := 233) rfl rfl
theorem tw474 : .code ⟨"UseOdds$Whole", "length", "()I"⟩ prog_7_method_10_code 5 (some .int) ∈ TW := tw_t2 (i := 234) rfl rfl
theorem tw475 : .constantLong "UseOdds$Whole" 44 (10) ∈ TW := tw_t2 (i := 235) rfl rfl
theorem tw476 : .methodLink "UseOddsLaw" 112 ⟨"UseOddsLaw", "digits", "(LUseOdds;I[J)I"⟩ ∈ TW := tw_t2 (i := 236) rfl rfl
theorem tw477 : .static ⟨"UseOddsLaw", "digits", "(LUseOdds;I[J)I"⟩ ∈ TW := tw_t2 (i := 237) rfl rfl
theorem tw478 : .codeWith ⟨"UseOddsLaw", "digits", "(LUseOdds;I[J)I"⟩ method_12_code 4 (some .int) [(0, 9, 12, 13)] ∈ TW := tw_t2 (i := 238) rfl rfl
theorem tw479 : .methodLink "UseOddsLaw" 44 ⟨"UseOdds", "digits", "(I)I"⟩ ∈ TW := tw_t2 (i := 239) rfl rfl
theorem tw480 : .instanceMethod ⟨"UseOdds", "digits", "(I)I"⟩ ∈ TW := tw_t3 (i := 0) rfl rfl
theorem tw481 : .selects "UseOdds" ⟨"UseOdds", "digits", "(I)I"⟩ ⟨"UseOdds", "digits", "(I)I"⟩ ∈ TW := tw_t3 (i := 1) rfl rfl
theorem tw482 : .code ⟨"UseOdds", "digits", "(I)I"⟩ prog_1_method_11_code 2 (some .int) ∈ TW := tw_t3 (i := 2) rfl rfl
theorem tw483 : .methodLink "UseOdds" 158 ⟨"UseOdds$Paper", "lengthOf", "(I)I"⟩ ∈ TW := tw_t3 (i := 3) rfl rfl
theorem tw484 : .instanceMethod ⟨"UseOdds$Paper", "lengthOf", "(I)I"⟩ ∈ TW := tw_t3 (i := 4) rfl rfl
theorem tw485 : .selects "UseOdds$Paper" ⟨"UseOdds$Paper", "lengthOf", "(I)I"⟩ ⟨"UseOdds$Paper", "lengthOf", "(I)I"⟩ ∈ TW := tw_t3 (i := 5) rfl rfl
theorem tw486 : .code ⟨"UseOdds$Paper", "lengthOf", "(I)I"⟩ prog_4_method_4_code 2 (some .int) ∈ TW := tw_t3 (i := 6) rfl rfl
theorem tw487 : .methodLink "UseOdds$Paper" 41 ⟨"UseOdds$Paper", "number", "(I)LUseOdds$Whole;"⟩ ∈ TW := tw_t3 (i := 7) rfl rfl
theorem tw488 : .instanceMethod ⟨"UseOdds$Paper", "number", "(I)LUseOdds$Whole;"⟩ ∈ TW := tw_t3 (i := 8) rfl rfl
theorem tw489 : .selects "UseOdds$Paper" ⟨"UseOdds$Paper", "number", "(I)LUseOdds$Whole;"⟩ ⟨"UseOdds$Paper", "number", "(I)LUseOdds$Whole;"⟩ ∈ TW := tw_t3 (i := 9) rfl rfl
theorem tw490 : .code ⟨"UseOdds$Paper", "number", "(I)LUseOdds$Whole;"⟩ prog_4_method_3_code 2 (some (.object "UseOdds$Whole")) ∈ TW := tw_t3 (i := 10) rfl rfl
theorem tw491 : .methodLink "UseOdds$Paper" 45 ⟨"UseOdds$Whole", "length", "()I"⟩ ∈ TW := tw_t3 (i := 11) rfl rfl
theorem tw492 : .methodLink "UseOddsLaw" 116 ⟨"UseOddsLaw", "digit", "(LUseOdds;II[J)I"⟩ ∈ TW := tw_t3 (i := 12) rfl rfl
theorem tw493 : .static ⟨"UseOddsLaw", "digit", "(LUseOdds;II[J)I"⟩ ∈ TW := tw_t3 (i := 13) rfl rfl
theorem tw494 : .codeWith ⟨"UseOddsLaw", "digit", "(LUseOdds;II[J)I"⟩ method_13_code 5 (some .int) [(0, 10, 13, 13)] ∈ TW := tw_t3 (i := 14) rfl rfl
theorem tw495 : .methodLink "UseOddsLaw" 48 ⟨"UseOdds", "digit", "(II)I"⟩ ∈ TW := tw_t3 (i := 15) rfl rfl
theorem tw496 : .instanceMethod ⟨"UseOdds", "digit", "(II)I"⟩ ∈ TW := tw_t3 (i := 16) rfl rfl
theorem tw497 : .selects "UseOdds" ⟨"UseOdds", "digit", "(II)I"⟩ ⟨"UseOdds", "digit", "(II)I"⟩ ∈ TW := tw_t3 (i := 17) rfl rfl
theorem tw498 : .code ⟨"UseOdds", "digit", "(II)I"⟩ prog_1_method_12_code 4 (some .int) ∈ TW := tw_t3 (i := 18) rfl rfl
theorem tw499 : .methodLink "UseOdds" 162 ⟨"UseOdds$Paper", "number", "(I)LUseOdds$Whole;"⟩ ∈ TW := tw_t3 (i := 19) rfl rfl
theorem tw500 : .methodLink "UseOdds" 165 ⟨"UseOdds$Whole", "digitAt", "(I)I"⟩ ∈ TW := tw_t3 (i := 20) rfl rfl
theorem tw501 : .instanceMethod ⟨"UseOdds$Whole", "digitAt", "(I)I"⟩ ∈ TW := tw_t3 (i := 21) rfl rfl
theorem tw502 : .selects "UseOdds$Whole" ⟨"UseOdds$Whole", "digitAt", "(I)I"⟩ ⟨"UseOdds$Whole", "digitAt", "(I)I"⟩ ∈ TW := tw_t3 (i := 22) rfl rfl
theorem tw503 : .code ⟨"UseOdds$Whole", "digitAt", "(I)I"⟩ prog_7_method_11_code 5 (some .int) ∈ TW := tw_t3 (i := 23) rfl rfl
theorem tw504 : .methodLink "UseOddsLaw" 119 ⟨"UseOddsLaw", "rest", "(LUseOdds;II[J)I"⟩ ∈ TW := tw_t3 (i := 24) rfl rfl
theorem tw505 : .static ⟨"UseOddsLaw", "rest", "(LUseOdds;II[J)I"⟩ ∈ TW := tw_t3 (i := 25) rfl rfl
theorem tw506 : .codeWith ⟨"UseOddsLaw", "rest", "(LUseOdds;II[J)I"⟩ method_14_code 5 (some .int) [(0, 10, 13, 13), (0, 10, 17, 15)] ∈ TW := tw_t3 (i := 26) rfl rfl
theorem tw507 : .methodLink "UseOddsLaw" 51 ⟨"UseOdds", "rest", "(II)I"⟩ ∈ TW := tw_t3 (i := 27) rfl rfl
theorem tw508 : .instanceMethod ⟨"UseOdds", "rest", "(II)I"⟩ ∈ TW := tw_t3 (i := 28) rfl rfl
theorem tw509 : .selects "UseOdds" ⟨"UseOdds", "rest", "(II)I"⟩ ⟨"UseOdds", "rest", "(II)I"⟩ ∈ TW := tw_t3 (i := 29) rfl rfl
theorem tw510 : .code ⟨"UseOdds", "rest", "(II)I"⟩ prog_1_method_13_code 3 (some .int) ∈ TW := tw_t3 (i := 30) rfl rfl
theorem tw512 : .methodLink "UseOdds" 174 ⟨"UseOdds$Whole", "remainder", "(I)I"⟩ ∈ TW := tw_t3 (i := 32) rfl rfl
theorem tw513 : .methodLink "UseOddsLaw" 122 ⟨"UseOddsLaw", "flow", "(LUseOdds;I[J)I"⟩ ∈ TW := tw_t3 (i := 33) rfl rfl
theorem tw514 : .static ⟨"UseOddsLaw", "flow", "(LUseOdds;I[J)I"⟩ ∈ TW := tw_t3 (i := 34) rfl rfl
theorem tw515 : .codeWith ⟨"UseOddsLaw", "flow", "(LUseOdds;I[J)I"⟩ method_15_code 4 (some .int) [(0, 9, 12, 13)] ∈ TW := tw_t3 (i := 35) rfl rfl
theorem tw516 : .methodLink "UseOddsLaw" 54 ⟨"UseOdds", "flow", "(I)I"⟩ ∈ TW := tw_t3 (i := 36) rfl rfl
theorem tw517 : .instanceMethod ⟨"UseOdds", "flow", "(I)I"⟩ ∈ TW := tw_t3 (i := 37) rfl rfl
theorem tw518 : .selects "UseOdds" ⟨"UseOdds", "flow", "(I)I"⟩ ⟨"UseOdds", "flow", "(I)I"⟩ ∈ TW := tw_t3 (i := 38) rfl rfl
theorem tw519 : .code ⟨"UseOdds", "flow", "(I)I"⟩ prog_1_method_14_code 2 (some .int) ∈ TW := tw_t3 (i := 39) rfl rfl
theorem tw520 : .methodLink "UseOdds" 177 ⟨"UseOdds", "requirePipe", "(I)V"⟩ ∈ TW := tw_t3 (i := 40) rfl rfl
theorem tw522 : .instanceMethod ⟨"UseOdds", "requirePipe", "(I)V"⟩ ∈ TW := tw_t3 (i := 42) rfl rfl
theorem tw523 : .code ⟨"UseOdds", "requirePipe", "(I)V"⟩ prog_1_method_24_code 2 none ∈ TW := tw_t3 (i := 43) rfl rfl
theorem tw524 : .methodLink "UseOddsLaw" 125 ⟨"UseOddsLaw", "size", "(LUseOdds;I[J)I"⟩ ∈ TW := tw_t3 (i := 44) rfl rfl
theorem tw525 : .static ⟨"UseOddsLaw", "size", "(LUseOdds;I[J)I"⟩ ∈ TW := tw_t3 (i := 45) rfl rfl
theorem tw526 : .codeWith ⟨"UseOddsLaw", "size", "(LUseOdds;I[J)I"⟩ method_16_code 4 (some .int) [(0, 9, 12, 13)] ∈ TW := tw_t3 (i := 46) rfl rfl
theorem tw527 : .methodLink "UseOddsLaw" 57 ⟨"UseOdds", "size", "(I)I"⟩ ∈ TW := tw_t3 (i := 47) rfl rfl
theorem tw528 : .instanceMethod ⟨"UseOdds", "size", "(I)I"⟩ ∈ TW := tw_t3 (i := 48) rfl rfl
theorem tw529 : .selects "UseOdds" ⟨"UseOdds", "size", "(I)I"⟩ ⟨"UseOdds", "size", "(I)I"⟩ ∈ TW := tw_t3 (i := 49) rfl rfl
theorem tw530 : .code ⟨"UseOdds", "size", "(I)I"⟩ prog_1_method_15_code 2 (some .int) ∈ TW := tw_t3 (i := 50) rfl rfl
theorem tw531 : .methodLink "UseOddsLaw" 132 ⟨"UseOddsLaw", "loss", "(LUseOdds;I[J)I"⟩ ∈ TW := tw_t3 (i := 51) rfl rfl
theorem tw532 : .static ⟨"UseOddsLaw", "loss", "(LUseOdds;I[J)I"⟩ ∈ TW := tw_t3 (i := 52) rfl rfl
theorem tw533 : .codeWith ⟨"UseOddsLaw", "loss", "(LUseOdds;I[J)I"⟩ method_17_code 4 (some .int) [(0, 8, 11, 13)] ∈ TW := tw_t3 (i := 53) rfl rfl
theorem tw534 : .methodLink "UseOddsLaw" 60 ⟨"UseOdds", "loss", "(I)J"⟩ ∈ TW := tw_t3 (i := 54) rfl rfl
theorem tw535 : .instanceMethod ⟨"UseOdds", "loss", "(I)J"⟩ ∈ TW := tw_t3 (i := 55) rfl rfl
theorem tw536 : .selects "UseOdds" ⟨"UseOdds", "loss", "(I)J"⟩ ⟨"UseOdds", "loss", "(I)J"⟩ ∈ TW := tw_t3 (i := 56) rfl rfl
theorem tw537 : .code ⟨"UseOdds", "loss", "(I)J"⟩ prog_1_method_17_code 2 (some .long) ∈ TW := tw_t3 (i := 57) rfl rfl
theorem tw538 : .methodLink "UseOdds" 193 ⟨"UseOdds", "lossOf", "(I)J"⟩ ∈ TW := tw_t3 (i := 58) rfl rfl
theorem tw540 : .instanceMethod ⟨"UseOdds", "lossOf", "(I)J"⟩ ∈ TW := tw_t3 (i := 60) rfl rfl
theorem tw541 : .code ⟨"UseOdds", "lossOf", "(I)J"⟩ prog_1_method_23_code 8 (some .long) ∈ TW := tw_t3 (i := 61) rfl rfl
theorem tw542 : .constantLong "UseOdds" 199 (-1) ∈ TW := tw_t3 (i := 62) rfl rfl
theorem tw543 : .methodLink "UseOddsLaw" 137 ⟨"UseOddsLaw", "pressure", "(LUseOdds;IJ[J)I"⟩ ∈ TW := tw_t3 (i := 63) rfl rfl
theorem tw544 : .static ⟨"UseOddsLaw", "pressure", "(LUseOdds;IJ[J)I"⟩ ∈ TW := tw_t3 (i := 64) rfl rfl
theorem tw545 : .codeWith ⟨"UseOddsLaw", "pressure", "(LUseOdds;IJ[J)I"⟩ method_18_code 6 (some .int) [(0, 10, 13, 13), (0, 10, 17, 15)] ∈ TW := tw_t3 (i := 65) rfl rfl
theorem tw546 : .methodLink "UseOddsLaw" 64 ⟨"UseOdds", "pressure", "(IJ)J"⟩ ∈ TW := tw_t3 (i := 66) rfl rfl
theorem tw547 : .instanceMethod ⟨"UseOdds", "pressure", "(IJ)J"⟩ ∈ TW := tw_t3 (i := 67) rfl rfl
theorem tw548 : .selects "UseOdds" ⟨"UseOdds", "pressure", "(IJ)J"⟩ ⟨"UseOdds", "pressure", "(IJ)J"⟩ ∈ TW := tw_t3 (i := 68) rfl rfl
theorem tw549 : .code ⟨"UseOdds", "pressure", "(IJ)J"⟩ prog_1_method_18_code 10 (some .long) ∈ TW := tw_t3 (i := 69) rfl rfl
theorem tw550 : .constantLong "UseOdds" 197 (1000000000000) ∈ TW := tw_t3 (i := 70) rfl rfl
theorem tw552 : .methodLink "UseOddsLaw" 141 ⟨"UseOddsLaw", "farthest", "(LUseOdds;[J)I"⟩ ∈ TW := tw_t3 (i := 72) rfl rfl
theorem tw553 : .static ⟨"UseOddsLaw", "farthest", "(LUseOdds;[J)I"⟩ ∈ TW := tw_t3 (i := 73) rfl rfl
theorem tw554 : .codeWith ⟨"UseOddsLaw", "farthest", "(LUseOdds;[J)I"⟩ method_19_code 3 (some .int) [(0, 8, 11, 15)] ∈ TW := tw_t3 (i := 74) rfl rfl
theorem tw555 : .methodLink "UseOddsLaw" 68 ⟨"UseOdds", "farthest", "()I"⟩ ∈ TW := tw_t3 (i := 75) rfl rfl
theorem tw556 : .instanceMethod ⟨"UseOdds", "farthest", "()I"⟩ ∈ TW := tw_t3 (i := 76) rfl rfl
theorem tw557 : .selects "UseOdds" ⟨"UseOdds", "farthest", "()I"⟩ ⟨"UseOdds", "farthest", "()I"⟩ ∈ TW := tw_t3 (i := 77) rfl rfl
theorem tw558 : .code ⟨"UseOdds", "farthest", "()I"⟩ prog_1_method_19_code 6 (some .int) ∈ TW := tw_t3 (i := 78) rfl rfl
theorem tw561 : .classLink "UseOddsLaw" 73 "UseOddsModel" ∈ TW := tw_t3 (i := 81) rfl rfl
theorem tw562 : .instantiable "UseOddsModel" 18 ∈ TW := tw_t3 (i := 82) rfl rfl
theorem tw563 : .methodLink "UseOddsLaw" 75 ⟨"UseOddsModel", "<init>", "()V"⟩ ∈ TW := tw_t3 (i := 83) rfl rfl
theorem tw564 : .instanceMethod ⟨"UseOddsModel", "<init>", "()V"⟩ ∈ TW := tw_t3 (i := 84) rfl rfl
theorem tw565 : .code ⟨"UseOddsModel", "<init>", "()V"⟩ prog_9_method_1_code 1 none ∈ TW := tw_t3 (i := 85) rfl rfl
theorem tw566 : .methodLink "UseOddsModel" 1 ⟨"java/lang/Object", "<init>", "()V"⟩ ∈ TW := tw_t3 (i := 86) rfl rfl
theorem tw567 : .fieldLink "UseOddsModel" 51 "UseOddsModel" "thrown" "I" ∈ TW := tw_t3 (i := 87) rfl rfl
theorem tw568 : .fieldLink "UseOddsModel" 69 "UseOddsModel" "kinds" "I" ∈ TW := tw_t3 (i := 88) rfl rfl
theorem tw569 : .fieldLink "UseOddsModel" 7 "UseOddsModel" "flows" "[I" ∈ TW := tw_t3 (i := 89) rfl rfl
theorem tw570 : .fieldLink "UseOddsModel" 13 "UseOddsModel" "as" "[I" ∈ TW := tw_t3 (i := 90) rfl rfl
theorem tw571 : .fieldLink "UseOddsModel" 16 "UseOddsModel" "bs" "[I" ∈ TW := tw_t3 (i := 91) rfl rfl
theorem tw572 : .fieldLink "UseOddsModel" 74 "UseOddsModel" "pipes" "I" ∈ TW := tw_t3 (i := 92) rfl rfl
theorem tw573 : .fieldLink "UseOddsModel" 19 "UseOddsModel" "parents" "[I" ∈ TW := tw_t3 (i := 93) rfl rfl
theorem tw574 : .fieldLink "UseOddsModel" 22 "UseOddsModel" "lengths" "[I" ∈ TW := tw_t3 (i := 94) rfl rfl
theorem tw575 : .fieldLink "UseOddsModel" 25 "UseOddsModel" "taps" "[I" ∈ TW := tw_t3 (i := 95) rfl rfl
theorem tw576 : .fieldLink "UseOddsModel" 28 "UseOddsModel" "above" "I" ∈ TW := tw_t3 (i := 96) rfl rfl
theorem tw577 : .fieldLink "UseOddsModel" 32 "UseOddsModel" "below" "I" ∈ TW := tw_t3 (i := 97) rfl rfl
theorem tw578 : .fieldLink "UseOddsModel" 83 "UseOddsModel" "entries" "I" ∈ TW := tw_t3 (i := 98) rfl rfl
theorem tw579 : .fieldLink "UseOddsModel" 35 "UseOddsModel" "capacities" "[I" ∈ TW := tw_t3 (i := 99) rfl rfl
theorem tw580 : .fieldLink "UseOddsModel" 38 "UseOddsModel" "widths" "[I" ∈ TW := tw_t3 (i := 100) rfl rfl
theorem tw581 : .fieldLink "UseOddsModel" 41 "UseOddsModel" "costs" "[I" ∈ TW := tw_t3 (i := 101) rfl rfl
theorem tw582 : .fieldLink "UseOddsModel" 44 "UseOddsModel" "row" "[J" ∈ TW := tw_t3 (i := 102) rfl rfl
theorem tw583 : .fieldLink "UseOddsModel" 129 "UseOddsModel" "paper" "Z" ∈ TW := tw_t3 (i := 103) rfl rfl
theorem tw584 : .fieldLink "UseOddsModel" 48 "UseOddsModel" "known" "[I" ∈ TW := tw_t3 (i := 104) rfl rfl
theorem tw585 : .lays "UseOddsModel" "UseOddsModel" "thrown" "I" ∈ TW := tw_t3 (i := 105) rfl rfl
theorem tw587 : .lays "UseOddsModel" "UseOddsModel" "kinds" "I" ∈ TW := tw_t3 (i := 107) rfl rfl
theorem tw589 : .laysFinal "UseOddsModel" "UseOddsModel" "flows" "[I" ∈ TW := tw_t3 (i := 109) rfl rfl
theorem tw591 : .laysFinal "UseOddsModel" "UseOddsModel" "as" "[I" ∈ TW := tw_t3 (i := 111) rfl rfl
theorem tw593 : .laysFinal "UseOddsModel" "UseOddsModel" "bs" "[I" ∈ TW := tw_t3 (i := 113) rfl rfl
theorem tw595 : .lays "UseOddsModel" "UseOddsModel" "pipes" "I" ∈ TW := tw_t3 (i := 115) rfl rfl
theorem tw597 : .laysFinal "UseOddsModel" "UseOddsModel" "parents" "[I" ∈ TW := tw_t3 (i := 117) rfl rfl
theorem tw599 : .laysFinal "UseOddsModel" "UseOddsModel" "lengths" "[I" ∈ TW := tw_t3 (i := 119) rfl rfl
theorem tw601 : .laysFinal "UseOddsModel" "UseOddsModel" "taps" "[I" ∈ TW := tw_t3 (i := 121) rfl rfl
theorem tw603 : .lays "UseOddsModel" "UseOddsModel" "above" "I" ∈ TW := tw_t3 (i := 123) rfl rfl
theorem tw605 : .lays "UseOddsModel" "UseOddsModel" "below" "I" ∈ TW := tw_t3 (i := 125) rfl rfl
theorem tw607 : .lays "UseOddsModel" "UseOddsModel" "entries" "I" ∈ TW := tw_t3 (i := 127) rfl rfl
theorem tw609 : .laysFinal "UseOddsModel" "UseOddsModel" "capacities" "[I" ∈ TW := tw_t3 (i := 129) rfl rfl
theorem tw611 : .laysFinal "UseOddsModel" "UseOddsModel" "widths" "[I" ∈ TW := tw_t3 (i := 131) rfl rfl
theorem tw613 : .laysFinal "UseOddsModel" "UseOddsModel" "costs" "[I" ∈ TW := tw_t3 (i := 133) rfl rfl
theorem tw615 : .laysFinal "UseOddsModel" "UseOddsModel" "row" "[J" ∈ TW := tw_t3 (i := 135) rfl rfl
theorem tw617 : .lays "UseOddsModel" "UseOddsModel" "paper" "Z" ∈ TW := tw_t3 (i := 137) rfl rfl
theorem tw619 : .laysFinal "UseOddsModel" "UseOddsModel" "known" "[I" ∈ TW := tw_t3 (i := 139) rfl rfl
theorem tw622 : .methodLink "UseOddsLaw" 82 ⟨"UseOddsModel", "thrown", "()I"⟩ ∈ TW := tw_t3 (i := 142) rfl rfl
theorem tw623 : .instanceMethod ⟨"UseOddsModel", "thrown", "()I"⟩ ∈ TW := tw_t3 (i := 143) rfl rfl
theorem tw624 : .selects "UseOddsModel" ⟨"UseOddsModel", "thrown", "()I"⟩ ⟨"UseOddsModel", "thrown", "()I"⟩ ∈ TW := tw_t3 (i := 144) rfl rfl
theorem tw625 : .code ⟨"UseOddsModel", "thrown", "()I"⟩ prog_9_method_2_code 1 (some .int) ∈ TW := tw_t3 (i := 145) rfl rfl
theorem tw626 : .methodLink "UseOddsLaw" 81 ⟨"UseOddsModel", "kind", "(III)I"⟩ ∈ TW := tw_t3 (i := 146) rfl rfl
theorem tw627 : .instanceMethod ⟨"UseOddsModel", "kind", "(III)I"⟩ ∈ TW := tw_t3 (i := 147) rfl rfl
theorem tw628 : .selects "UseOddsModel" ⟨"UseOddsModel", "kind", "(III)I"⟩ ⟨"UseOddsModel", "kind", "(III)I"⟩ ∈ TW := tw_t3 (i := 148) rfl rfl
theorem tw629 : .code ⟨"UseOddsModel", "kind", "(III)I"⟩ prog_9_method_13_code 4 (some .int) ∈ TW := tw_t3 (i := 149) rfl rfl
theorem tw630 : .constantLong "UseOddsModel" 63 (10000) ∈ TW := tw_t3 (i := 150) rfl rfl
theorem tw631 : .methodLink "UseOddsModel" 65 ⟨"UseOddsModel", "isIn", "(JJJ)Z"⟩ ∈ TW := tw_t3 (i := 151) rfl rfl
theorem tw632 : .static ⟨"UseOddsModel", "isIn", "(JJJ)Z"⟩ ∈ TW := tw_t3 (i := 152) rfl rfl
theorem tw633 : .code ⟨"UseOddsModel", "isIn", "(JJJ)Z"⟩ prog_9_method_3_code 6 (some .boolean) ∈ TW := tw_t3 (i := 153) rfl rfl
theorem tw634 : .methodLink "UseOddsLaw" 88 ⟨"UseOddsModel", "pipe", "(II)I"⟩ ∈ TW := tw_t3 (i := 154) rfl rfl
theorem tw635 : .instanceMethod ⟨"UseOddsModel", "pipe", "(II)I"⟩ ∈ TW := tw_t3 (i := 155) rfl rfl
theorem tw636 : .selects "UseOddsModel" ⟨"UseOddsModel", "pipe", "(II)I"⟩ ⟨"UseOddsModel", "pipe", "(II)I"⟩ ∈ TW := tw_t3 (i := 156) rfl rfl
theorem tw637 : .code ⟨"UseOddsModel", "pipe", "(II)I"⟩ prog_9_method_14_code 4 (some .int) ∈ TW := tw_t3 (i := 157) rfl rfl
theorem tw638 : .constantLong "UseOddsModel" 72 (1000) ∈ TW := tw_t3 (i := 158) rfl rfl
theorem tw639 : .methodLink "UseOddsLaw" 91 ⟨"UseOddsModel", "taps", "(III)I"⟩ ∈ TW := tw_t3 (i := 159) rfl rfl
theorem tw640 : .instanceMethod ⟨"UseOddsModel", "taps", "(III)I"⟩ ∈ TW := tw_t3 (i := 160) rfl rfl
theorem tw641 : .selects "UseOddsModel" ⟨"UseOddsModel", "taps", "(III)I"⟩ ⟨"UseOddsModel", "taps", "(III)I"⟩ ∈ TW := tw_t3 (i := 161) rfl rfl
theorem tw642 : .code ⟨"UseOddsModel", "taps", "(III)I"⟩ prog_9_method_16_code 6 (some .int) ∈ TW := tw_t3 (i := 162) rfl rfl
theorem tw643 : .methodLink "UseOddsModel" 77 ⟨"UseOddsModel", "no", "(II)Z"⟩ ∈ TW := tw_t3 (i := 163) rfl rfl
theorem tw645 : .instanceMethod ⟨"UseOddsModel", "no", "(II)Z"⟩ ∈ TW := tw_t3 (i := 165) rfl rfl
theorem tw646 : .code ⟨"UseOddsModel", "no", "(II)Z"⟩ prog_9_method_15_code 3 (some .boolean) ∈ TW := tw_t3 (i := 166) rfl rfl
theorem tw647 : .constantLong "UseOddsModel" 81 (60) ∈ TW := tw_t3 (i := 167) rfl rfl
theorem tw648 : .methodLink "UseOddsLaw" 94 ⟨"UseOddsModel", "gone", "(III)I"⟩ ∈ TW := tw_t3 (i := 168) rfl rfl
theorem tw649 : .instanceMethod ⟨"UseOddsModel", "gone", "(III)I"⟩ ∈ TW := tw_t3 (i := 169) rfl rfl
theorem tw650 : .selects "UseOddsModel" ⟨"UseOddsModel", "gone", "(III)I"⟩ ⟨"UseOddsModel", "gone", "(III)I"⟩ ∈ TW := tw_t3 (i := 170) rfl rfl
theorem tw651 : .code ⟨"UseOddsModel", "gone", "(III)I"⟩ prog_9_method_17_code 4 (some .int) ∈ TW := tw_t3 (i := 171) rfl rfl
theorem tw652 : .methodLink "UseOddsLaw" 98 ⟨"UseOddsModel", "share", "(II)V"⟩ ∈ TW := tw_t3 (i := 172) rfl rfl
theorem tw653 : .instanceMethod ⟨"UseOddsModel", "share", "(II)V"⟩ ∈ TW := tw_t3 (i := 173) rfl rfl
theorem tw654 : .selects "UseOddsModel" ⟨"UseOddsModel", "share", "(II)V"⟩ ⟨"UseOddsModel", "share", "(II)V"⟩ ∈ TW := tw_t3 (i := 174) rfl rfl
theorem tw655 : .code ⟨"UseOddsModel", "share", "(II)V"⟩ prog_9_method_18_code 4 none ∈ TW := tw_t3 (i := 175) rfl rfl
theorem tw656 : .constantLong "UseOddsModel" 54 (1000000) ∈ TW := tw_t3 (i := 176) rfl rfl
theorem tw657 : .methodLink "UseOddsLaw" 101 ⟨"UseOddsModel", "entry", "(III)I"⟩ ∈ TW := tw_t3 (i := 177) rfl rfl
theorem tw658 : .instanceMethod ⟨"UseOddsModel", "entry", "(III)I"⟩ ∈ TW := tw_t3 (i := 178) rfl rfl
theorem tw659 : .selects "UseOddsModel" ⟨"UseOddsModel", "entry", "(III)I"⟩ ⟨"UseOddsModel", "entry", "(III)I"⟩ ∈ TW := tw_t3 (i := 179) rfl rfl
theorem tw660 : .code ⟨"UseOddsModel", "entry", "(III)I"⟩ prog_9_method_19_code 4 (some .int) ∈ TW := tw_t3 (i := 180) rfl rfl
theorem tw661 : .methodLink "UseOddsLaw" 104 ⟨"UseOddsModel", "many", "(II)I"⟩ ∈ TW := tw_t3 (i := 181) rfl rfl
theorem tw662 : .instanceMethod ⟨"UseOddsModel", "many", "(II)I"⟩ ∈ TW := tw_t3 (i := 182) rfl rfl
theorem tw663 : .selects "UseOddsModel" ⟨"UseOddsModel", "many", "(II)I"⟩ ⟨"UseOddsModel", "many", "(II)I"⟩ ∈ TW := tw_t3 (i := 183) rfl rfl
theorem tw664 : .code ⟨"UseOddsModel", "many", "(II)I"⟩ prog_9_method_22_code 3 (some .int) ∈ TW := tw_t3 (i := 184) rfl rfl
theorem tw665 : .methodLink "UseOddsModel" 89 ⟨"UseOddsModel", "carries", "(II)I"⟩ ∈ TW := tw_t3 (i := 185) rfl rfl
theorem tw667 : .instanceMethod ⟨"UseOddsModel", "carries", "(II)I"⟩ ∈ TW := tw_t3 (i := 187) rfl rfl
theorem tw668 : .code ⟨"UseOddsModel", "carries", "(II)I"⟩ prog_9_method_21_code 5 (some .int) ∈ TW := tw_t3 (i := 188) rfl rfl
theorem tw669 : .methodLink "UseOddsModel" 86 ⟨"UseOddsModel", "hangs", "(II)Z"⟩ ∈ TW := tw_t3 (i := 189) rfl rfl
theorem tw671 : .instanceMethod ⟨"UseOddsModel", "hangs", "(II)Z"⟩ ∈ TW := tw_t3 (i := 191) rfl rfl
theorem tw672 : .code ⟨"UseOddsModel", "hangs", "(II)Z"⟩ prog_9_method_20_code 4 (some .boolean) ∈ TW := tw_t3 (i := 192) rfl rfl
theorem tw673 : .methodLink "UseOddsLaw" 107 ⟨"UseOddsModel", "count", "(II)I"⟩ ∈ TW := tw_t3 (i := 193) rfl rfl
theorem tw674 : .instanceMethod ⟨"UseOddsModel", "count", "(II)I"⟩ ∈ TW := tw_t3 (i := 194) rfl rfl
theorem tw675 : .selects "UseOddsModel" ⟨"UseOddsModel", "count", "(II)I"⟩ ⟨"UseOddsModel", "count", "(II)I"⟩ ∈ TW := tw_t3 (i := 195) rfl rfl
theorem tw676 : .code ⟨"UseOddsModel", "count", "(II)I"⟩ prog_9_method_25_code 3 (some .int) ∈ TW := tw_t3 (i := 196) rfl rfl
theorem tw677 : .methodLink "UseOddsModel" 115 ⟨"UseOddsModel", "countOf", "(II)I"⟩ ∈ TW := tw_t3 (i := 197) rfl rfl
theorem tw679 : .instanceMethod ⟨"UseOddsModel", "countOf", "(II)I"⟩ ∈ TW := tw_t3 (i := 199) rfl rfl
theorem tw680 : .code ⟨"UseOddsModel", "countOf", "(II)I"⟩ prog_9_method_24_code 6 (some .int) ∈ TW := tw_t3 (i := 200) rfl rfl
theorem tw681 : .methodLink "UseOddsModel" 97 ⟨"UseOddsModel", "power", "(IJI)V"⟩ ∈ TW := tw_t3 (i := 201) rfl rfl
theorem tw683 : .instanceMethod ⟨"UseOddsModel", "power", "(IJI)V"⟩ ∈ TW := tw_t3 (i := 203) rfl rfl
theorem tw684 : .code ⟨"UseOddsModel", "power", "(IJI)V"⟩ prog_9_method_12_code 6 none ∈ TW := tw_t3 (i := 204) rfl rfl
theorem tw685 : .methodLink "UseOddsModel" 56 ⟨"UseOddsModel", "set", "(IJ)V"⟩ ∈ TW := tw_t3 (i := 205) rfl rfl
theorem tw687 : .instanceMethod ⟨"UseOddsModel", "set", "(IJ)V"⟩ ∈ TW := tw_t3 (i := 207) rfl rfl
theorem tw688 : .code ⟨"UseOddsModel", "set", "(IJ)V"⟩ prog_9_method_4_code 5 none ∈ TW := tw_t3 (i := 208) rfl rfl
theorem tw689 : .methodLink "UseOddsModel" 60 ⟨"UseOddsModel", "times", "(IJ)V"⟩ ∈ TW := tw_t3 (i := 209) rfl rfl
theorem tw691 : .instanceMethod ⟨"UseOddsModel", "times", "(IJ)V"⟩ ∈ TW := tw_t3 (i := 211) rfl rfl
theorem tw692 : .code ⟨"UseOddsModel", "times", "(IJ)V"⟩ prog_9_method_6_code 9 none ∈ TW := tw_t3 (i := 212) rfl rfl
theorem tw693 : .methodLink "UseOddsModel" 101 ⟨"UseOddsModel", "copy", "(II)V"⟩ ∈ TW := tw_t3 (i := 213) rfl rfl
theorem tw695 : .instanceMethod ⟨"UseOddsModel", "copy", "(II)V"⟩ ∈ TW := tw_t3 (i := 215) rfl rfl
theorem tw696 : .code ⟨"UseOddsModel", "copy", "(II)V"⟩ prog_9_method_5_code 4 none ∈ TW := tw_t3 (i := 216) rfl rfl
theorem tw697 : .methodLink "UseOddsModel" 105 ⟨"UseOddsModel", "add", "(II)V"⟩ ∈ TW := tw_t3 (i := 217) rfl rfl
theorem tw699 : .instanceMethod ⟨"UseOddsModel", "add", "(II)V"⟩ ∈ TW := tw_t3 (i := 219) rfl rfl
theorem tw700 : .code ⟨"UseOddsModel", "add", "(II)V"⟩ prog_9_method_9_code 8 none ∈ TW := tw_t3 (i := 220) rfl rfl
theorem tw701 : .methodLink "UseOddsModel" 108 ⟨"UseOddsModel", "isAbove", "(II)Z"⟩ ∈ TW := tw_t3 (i := 221) rfl rfl
theorem tw703 : .instanceMethod ⟨"UseOddsModel", "isAbove", "(II)Z"⟩ ∈ TW := tw_t3 (i := 223) rfl rfl
theorem tw704 : .code ⟨"UseOddsModel", "isAbove", "(II)Z"⟩ prog_9_method_10_code 4 (some .boolean) ∈ TW := tw_t3 (i := 224) rfl rfl
theorem tw705 : .methodLink "UseOddsModel" 111 ⟨"UseOddsModel", "down", "(III)V"⟩ ∈ TW := tw_t3 (i := 225) rfl rfl
theorem tw707 : .instanceMethod ⟨"UseOddsModel", "down", "(III)V"⟩ ∈ TW := tw_t3 (i := 227) rfl rfl
theorem tw708 : .code ⟨"UseOddsModel", "down", "(III)V"⟩ prog_9_method_23_code 6 none ∈ TW := tw_t3 (i := 228) rfl rfl
theorem tw709 : .methodLink "UseOddsModel" 93 ⟨"UseOddsModel", "divide", "(IJ)J"⟩ ∈ TW := tw_t3 (i := 229) rfl rfl
theorem tw711 : .instanceMethod ⟨"UseOddsModel", "divide", "(IJ)J"⟩ ∈ TW := tw_t3 (i := 231) rfl rfl
theorem tw712 : .code ⟨"UseOddsModel", "divide", "(IJ)J"⟩ prog_9_method_7_code 9 (some .long) ∈ TW := tw_t3 (i := 232) rfl rfl
theorem tw713 : .methodLink "UseOddsLaw" 111 ⟨"UseOddsModel", "write", "(IIIZ)I"⟩ ∈ TW := tw_t3 (i := 233) rfl rfl
theorem tw714 : .instanceMethod ⟨"UseOddsModel", "write", "(IIIZ)I"⟩ ∈ TW := tw_t3 (i := 234) rfl rfl
theorem tw715 : .selects "UseOddsModel" ⟨"UseOddsModel", "write", "(IIIZ)I"⟩ ⟨"UseOddsModel", "write", "(IIIZ)I"⟩ ∈ TW := tw_t3 (i := 235) rfl rfl
theorem tw716 : .code ⟨"UseOddsModel", "write", "(IIIZ)I"⟩ prog_9_method_27_code 9 (some .int) ∈ TW := tw_t3 (i := 236) rfl rfl
theorem tw717 : .methodLink "UseOddsModel" 122 ⟨"UseOddsModel", "isNone", "(I)Z"⟩ ∈ TW := tw_t3 (i := 237) rfl rfl
theorem tw719 : .instanceMethod ⟨"UseOddsModel", "isNone", "(I)Z"⟩ ∈ TW := tw_t3 (i := 239) rfl rfl
theorem tw720 : .code ⟨"UseOddsModel", "isNone", "(I)Z"⟩ prog_9_method_11_code 4 (some .boolean) ∈ TW := tw_t4 (i := 0) rfl rfl
theorem tw721 : .methodLink "UseOddsModel" 126 ⟨"UseOddsModel", "leaves", "(IJ)J"⟩ ∈ TW := tw_t4 (i := 1) rfl rfl
theorem tw723 : .instanceMethod ⟨"UseOddsModel", "leaves", "(IJ)J"⟩ ∈ TW := tw_t4 (i := 3) rfl rfl
theorem tw724 : .code ⟨"UseOddsModel", "leaves", "(IJ)J"⟩ prog_9_method_8_code 7 (some .long) ∈ TW := tw_t4 (i := 4) rfl rfl
theorem tw725 : .methodLink "UseOddsModel" 133 ⟨"UseOddsModel", "digitsOf", "(I)I"⟩ ∈ TW := tw_t4 (i := 5) rfl rfl
theorem tw727 : .instanceMethod ⟨"UseOddsModel", "digitsOf", "(I)I"⟩ ∈ TW := tw_t4 (i := 7) rfl rfl
theorem tw728 : .code ⟨"UseOddsModel", "digitsOf", "(I)I"⟩ prog_9_method_26_code 6 (some .int) ∈ TW := tw_t4 (i := 8) rfl rfl
theorem tw729 : .constantLong "UseOddsModel" 118 (9) ∈ TW := tw_t4 (i := 9) rfl rfl
theorem tw730 : .constantLong "UseOddsModel" 120 (10) ∈ TW := tw_t4 (i := 10) rfl rfl
theorem tw731 : .methodLink "UseOddsLaw" 115 ⟨"UseOddsModel", "digits", "(I)I"⟩ ∈ TW := tw_t4 (i := 11) rfl rfl
theorem tw732 : .instanceMethod ⟨"UseOddsModel", "digits", "(I)I"⟩ ∈ TW := tw_t4 (i := 12) rfl rfl
theorem tw733 : .selects "UseOddsModel" ⟨"UseOddsModel", "digits", "(I)I"⟩ ⟨"UseOddsModel", "digits", "(I)I"⟩ ∈ TW := tw_t4 (i := 13) rfl rfl
theorem tw734 : .code ⟨"UseOddsModel", "digits", "(I)I"⟩ prog_9_method_29_code 2 (some .int) ∈ TW := tw_t4 (i := 14) rfl rfl
theorem tw735 : .methodLink "UseOddsModel" 137 ⟨"UseOddsModel", "numberOf", "(I)I"⟩ ∈ TW := tw_t4 (i := 15) rfl rfl
theorem tw736 : .static ⟨"UseOddsModel", "numberOf", "(I)I"⟩ ∈ TW := tw_t4 (i := 16) rfl rfl
theorem tw737 : .code ⟨"UseOddsModel", "numberOf", "(I)I"⟩ prog_9_method_28_code 1 (some .int) ∈ TW := tw_t4 (i := 17) rfl rfl
theorem tw738 : .methodLink "UseOddsLaw" 118 ⟨"UseOddsModel", "digit", "(II)I"⟩ ∈ TW := tw_t4 (i := 18) rfl rfl
theorem tw739 : .instanceMethod ⟨"UseOddsModel", "digit", "(II)I"⟩ ∈ TW := tw_t4 (i := 19) rfl rfl
theorem tw740 : .selects "UseOddsModel" ⟨"UseOddsModel", "digit", "(II)I"⟩ ⟨"UseOddsModel", "digit", "(II)I"⟩ ∈ TW := tw_t4 (i := 20) rfl rfl
theorem tw741 : .code ⟨"UseOddsModel", "digit", "(II)I"⟩ prog_9_method_30_code 8 (some .int) ∈ TW := tw_t4 (i := 21) rfl rfl
theorem tw742 : .methodLink "UseOddsLaw" 121 ⟨"UseOddsModel", "rest", "(II)I"⟩ ∈ TW := tw_t4 (i := 22) rfl rfl
theorem tw743 : .instanceMethod ⟨"UseOddsModel", "rest", "(II)I"⟩ ∈ TW := tw_t4 (i := 23) rfl rfl
theorem tw744 : .selects "UseOddsModel" ⟨"UseOddsModel", "rest", "(II)I"⟩ ⟨"UseOddsModel", "rest", "(II)I"⟩ ∈ TW := tw_t4 (i := 24) rfl rfl
theorem tw745 : .code ⟨"UseOddsModel", "rest", "(II)I"⟩ prog_9_method_31_code 3 (some .int) ∈ TW := tw_t4 (i := 25) rfl rfl
theorem tw746 : .constantLong "UseOddsModel" 140 (2) ∈ TW := tw_t4 (i := 26) rfl rfl
theorem tw747 : .methodLink "UseOddsLaw" 124 ⟨"UseOddsModel", "flow", "(I)I"⟩ ∈ TW := tw_t4 (i := 27) rfl rfl
theorem tw748 : .instanceMethod ⟨"UseOddsModel", "flow", "(I)I"⟩ ∈ TW := tw_t4 (i := 28) rfl rfl
theorem tw749 : .selects "UseOddsModel" ⟨"UseOddsModel", "flow", "(I)I"⟩ ⟨"UseOddsModel", "flow", "(I)I"⟩ ∈ TW := tw_t4 (i := 29) rfl rfl
theorem tw750 : .code ⟨"UseOddsModel", "flow", "(I)I"⟩ prog_9_method_36_code 2 (some .int) ∈ TW := tw_t4 (i := 30) rfl rfl
theorem tw751 : .methodLink "UseOddsModel" 148 ⟨"UseOddsModel", "noPipe", "(I)Z"⟩ ∈ TW := tw_t4 (i := 31) rfl rfl
theorem tw753 : .instanceMethod ⟨"UseOddsModel", "noPipe", "(I)Z"⟩ ∈ TW := tw_t4 (i := 33) rfl rfl
theorem tw754 : .code ⟨"UseOddsModel", "noPipe", "(I)Z"⟩ prog_9_method_35_code 2 (some .boolean) ∈ TW := tw_t4 (i := 34) rfl rfl
theorem tw755 : .methodLink "UseOddsModel" 142 ⟨"UseOddsModel", "flowOf", "(I)I"⟩ ∈ TW := tw_t4 (i := 35) rfl rfl
theorem tw757 : .instanceMethod ⟨"UseOddsModel", "flowOf", "(I)I"⟩ ∈ TW := tw_t4 (i := 37) rfl rfl
theorem tw758 : .code ⟨"UseOddsModel", "flowOf", "(I)I"⟩ prog_9_method_32_code 4 (some .int) ∈ TW := tw_t4 (i := 38) rfl rfl
theorem tw759 : .methodLink "UseOddsLaw" 127 ⟨"UseOddsModel", "size", "(I)I"⟩ ∈ TW := tw_t4 (i := 39) rfl rfl
theorem tw760 : .instanceMethod ⟨"UseOddsModel", "size", "(I)I"⟩ ∈ TW := tw_t4 (i := 40) rfl rfl
theorem tw761 : .selects "UseOddsModel" ⟨"UseOddsModel", "size", "(I)I"⟩ ⟨"UseOddsModel", "size", "(I)I"⟩ ∈ TW := tw_t4 (i := 41) rfl rfl
theorem tw762 : .code ⟨"UseOddsModel", "size", "(I)I"⟩ prog_9_method_37_code 2 (some .int) ∈ TW := tw_t4 (i := 42) rfl rfl
theorem tw763 : .methodLink "UseOddsModel" 145 ⟨"UseOddsModel", "sizeOf", "(I)I"⟩ ∈ TW := tw_t4 (i := 43) rfl rfl
theorem tw765 : .instanceMethod ⟨"UseOddsModel", "sizeOf", "(I)I"⟩ ∈ TW := tw_t4 (i := 45) rfl rfl
theorem tw766 : .code ⟨"UseOddsModel", "sizeOf", "(I)I"⟩ prog_9_method_33_code 5 (some .int) ∈ TW := tw_t4 (i := 46) rfl rfl
theorem tw767 : .methodLink "UseOddsLaw" 131 ⟨"UseOddsModel", "cost", "()I"⟩ ∈ TW := tw_t4 (i := 47) rfl rfl
theorem tw768 : .instanceMethod ⟨"UseOddsModel", "cost", "()I"⟩ ∈ TW := tw_t4 (i := 48) rfl rfl
theorem tw769 : .selects "UseOddsModel" ⟨"UseOddsModel", "cost", "()I"⟩ ⟨"UseOddsModel", "cost", "()I"⟩ ∈ TW := tw_t4 (i := 49) rfl rfl
theorem tw770 : .code ⟨"UseOddsModel", "cost", "()I"⟩ prog_9_method_38_code 4 (some .int) ∈ TW := tw_t4 (i := 50) rfl rfl
theorem tw771 : .methodLink "UseOddsLaw" 134 ⟨"UseOddsModel", "loss", "(I)J"⟩ ∈ TW := tw_t4 (i := 51) rfl rfl
theorem tw772 : .instanceMethod ⟨"UseOddsModel", "loss", "(I)J"⟩ ∈ TW := tw_t4 (i := 52) rfl rfl
theorem tw773 : .selects "UseOddsModel" ⟨"UseOddsModel", "loss", "(I)J"⟩ ⟨"UseOddsModel", "loss", "(I)J"⟩ ∈ TW := tw_t4 (i := 53) rfl rfl
theorem tw774 : .code ⟨"UseOddsModel", "loss", "(I)J"⟩ prog_9_method_39_code 2 (some .long) ∈ TW := tw_t4 (i := 54) rfl rfl
theorem tw775 : .constantLong "UseOddsModel" 151 (-1) ∈ TW := tw_t4 (i := 55) rfl rfl
theorem tw776 : .methodLink "UseOddsModel" 153 ⟨"UseOddsModel", "lossOf", "(I)J"⟩ ∈ TW := tw_t4 (i := 56) rfl rfl
theorem tw778 : .instanceMethod ⟨"UseOddsModel", "lossOf", "(I)J"⟩ ∈ TW := tw_t4 (i := 58) rfl rfl
theorem tw779 : .code ⟨"UseOddsModel", "lossOf", "(I)J"⟩ prog_9_method_34_code 6 (some .long) ∈ TW := tw_t4 (i := 59) rfl rfl
theorem tw780 : .methodLink "UseOddsLaw" 140 ⟨"UseOddsModel", "pressure", "(IJ)J"⟩ ∈ TW := tw_t4 (i := 60) rfl rfl
theorem tw781 : .instanceMethod ⟨"UseOddsModel", "pressure", "(IJ)J"⟩ ∈ TW := tw_t4 (i := 61) rfl rfl
theorem tw782 : .selects "UseOddsModel" ⟨"UseOddsModel", "pressure", "(IJ)J"⟩ ⟨"UseOddsModel", "pressure", "(IJ)J"⟩ ∈ TW := tw_t4 (i := 62) rfl rfl
theorem tw783 : .code ⟨"UseOddsModel", "pressure", "(IJ)J"⟩ prog_9_method_41_code 6 (some .long) ∈ TW := tw_t4 (i := 63) rfl rfl
theorem tw784 : .constantLong "UseOddsModel" 157 (1000000000000) ∈ TW := tw_t4 (i := 64) rfl rfl
theorem tw785 : .methodLink "UseOddsModel" 159 ⟨"UseOddsModel", "lost", "(I)J"⟩ ∈ TW := tw_t4 (i := 65) rfl rfl
theorem tw787 : .instanceMethod ⟨"UseOddsModel", "lost", "(I)J"⟩ ∈ TW := tw_t4 (i := 67) rfl rfl
theorem tw788 : .code ⟨"UseOddsModel", "lost", "(I)J"⟩ prog_9_method_40_code 5 (some .long) ∈ TW := tw_t4 (i := 68) rfl rfl
theorem tw789 : .methodLink "UseOddsLaw" 144 ⟨"UseOddsModel", "farthest", "()I"⟩ ∈ TW := tw_t4 (i := 69) rfl rfl
theorem tw790 : .instanceMethod ⟨"UseOddsModel", "farthest", "()I"⟩ ∈ TW := tw_t4 (i := 70) rfl rfl
theorem tw791 : .selects "UseOddsModel" ⟨"UseOddsModel", "farthest", "()I"⟩ ⟨"UseOddsModel", "farthest", "()I"⟩ ∈ TW := tw_t4 (i := 71) rfl rfl
theorem tw792 : .code ⟨"UseOddsModel", "farthest", "()I"⟩ prog_9_method_42_code 7 (some .int) ∈ TW := tw_t4 (i := 72) rfl rfl
theorem tw793 : .constantLong "UseOddsLaw" 135 (4294967295) ∈ TW := tw_t4 (i := 73) rfl rfl
theorem tw794 : .sameMethod "java/lang/Throwable" "java/lang/Throwable" "fillInStackTrace" "(I)Ljava/lang/Throwable;" ∈ TW := tw_t4 (i := 74) rfl rfl
def TK_ : u_T := fun k => match k with
  | 0 => ("UseOdds$Kinds", "number", "I", false)
  | 1 => ("UseOdds$Kinds", "flows", "[I", true)
  | 2 => ("UseOdds$Kinds", "overs", "[I", true)
  | _ => ("UseOdds$Kinds", "unders", "[I", true)
def YK_ : Nat → FieldType := fun k => match k with
  | 0 => .int
  | 1 => .array .int
  | 2 => .array .int
  | _ => .array .int
theorem NK_ : ∀ a, a < 4 → ∀ b, b < 4 → a ≠ b → (TK_ a).2.1 ≠ (TK_ b).2.1 := by decide +kernel
theorem QK_ : ∀ k, k < 4 → parseFieldDescriptor (TK_ k).2.2.1 = some (YK_ k) := by decide +kernel
theorem IK_ : ∀ w ∈ u_ws "UseOdds$Kinds" TK_ 4, w ∈ TW := by
  intro w hw
  obtain ⟨k, hk, rfl⟩ := List.mem_map.mp hw
  have hk := List.mem_range.mp hk
  match k, hk with
  | 0, _ => exact tw39
  | 1, _ => exact tw41
  | 2, _ => exact tw43
  | 3, _ => exact tw45
  | k + 4, h => omega
def TO_ : u_T := fun k => match k with
  | 0 => ("UseOdds$Odds", "all", "LUseOdds$Whole;", true)
  | 1 => ("UseOdds$Odds", "just", "LUseOdds$Whole;", true)
  | 2 => ("UseOdds$Odds", "more", "LUseOdds$Whole;", true)
  | 3 => ("UseOdds$Odds", "on", "I", false)
  | 4 => ("UseOdds$Odds", "off", "I", false)
  | 5 => ("UseOdds$Odds", "taps", "I", false)
  | _ => ("UseOdds$Odds", "k", "I", false)
def YO_ : Nat → FieldType := fun k => match k with
  | 0 => .object "UseOdds$Whole"
  | 1 => .object "UseOdds$Whole"
  | 2 => .object "UseOdds$Whole"
  | 3 => .int
  | 4 => .int
  | 5 => .int
  | _ => .int
theorem NO_ : ∀ a, a < 7 → ∀ b, b < 7 → a ≠ b → (TO_ a).2.1 ≠ (TO_ b).2.1 := by decide +kernel
theorem QO_ : ∀ k, k < 7 → parseFieldDescriptor (TO_ k).2.2.1 = some (YO_ k) := by decide +kernel
theorem IO_ : ∀ w ∈ u_ws "UseOdds$Odds" TO_ 7, w ∈ TW := by
  intro w hw
  obtain ⟨k, hk, rfl⟩ := List.mem_map.mp hw
  have hk := List.mem_range.mp hk
  match k, hk with
  | 0, _ => exact tw130
  | 1, _ => exact tw132
  | 2, _ => exact tw134
  | 3, _ => exact tw136
  | 4, _ => exact tw138
  | 5, _ => exact tw140
  | 6, _ => exact tw142
  | k + 7, h => omega
def TP_ : u_T := fun k => match k with
  | 0 => ("UseOdds$Paper", "written", "Z", false)
  | 1 => ("UseOdds$Paper", "upper", "LUseOdds$Whole;", true)
  | _ => ("UseOdds$Paper", "lower", "LUseOdds$Whole;", true)
def YP_ : Nat → FieldType := fun k => match k with
  | 0 => .boolean
  | 1 => .object "UseOdds$Whole"
  | _ => .object "UseOdds$Whole"
theorem NP_ : ∀ a, a < 3 → ∀ b, b < 3 → a ≠ b → (TP_ a).2.1 ≠ (TP_ b).2.1 := by decide +kernel
theorem QP_ : ∀ k, k < 3 → parseFieldDescriptor (TP_ k).2.2.1 = some (YP_ k) := by decide +kernel
theorem IP_ : ∀ w ∈ u_ws "UseOdds$Paper" TP_ 3, w ∈ TW := by
  intro w hw
  obtain ⟨k, hk, rfl⟩ := List.mem_map.mp hw
  have hk := List.mem_range.mp hk
  match k, hk with
  | 0, _ => exact tw159
  | 1, _ => exact tw161
  | 2, _ => exact tw163
  | k + 3, h => omega
def TL_ : u_T := fun k => match k with
  | 0 => ("UseOdds$PriceList", "number", "I", false)
  | 1 => ("UseOdds$PriceList", "capacities", "[I", true)
  | 2 => ("UseOdds$PriceList", "widths", "[I", true)
  | _ => ("UseOdds$PriceList", "prices", "[I", true)
def YL_ : Nat → FieldType := fun k => match k with
  | 0 => .int
  | 1 => .array .int
  | 2 => .array .int
  | _ => .array .int
theorem NL_ : ∀ a, a < 4 → ∀ b, b < 4 → a ≠ b → (TL_ a).2.1 ≠ (TL_ b).2.1 := by decide +kernel
theorem QL_ : ∀ k, k < 4 → parseFieldDescriptor (TL_ k).2.2.1 = some (YL_ k) := by decide +kernel
theorem IL_ : ∀ w ∈ u_ws "UseOdds$PriceList" TL_ 4, w ∈ TW := by
  intro w hw
  obtain ⟨k, hk, rfl⟩ := List.mem_map.mp hw
  have hk := List.mem_range.mp hk
  match k, hk with
  | 0, _ => exact tw91
  | 1, _ => exact tw93
  | 2, _ => exact tw95
  | 3, _ => exact tw97
  | k + 4, h => omega
def TT_ : u_T := fun k => match k with
  | 0 => ("UseOdds$Tree", "number", "I", false)
  | 1 => ("UseOdds$Tree", "parents", "[I", true)
  | 2 => ("UseOdds$Tree", "lengths", "[I", true)
  | 3 => ("UseOdds$Tree", "own", "[[I", true)
  | _ => ("UseOdds$Tree", "carried", "[[I", true)
def YT_ : Nat → FieldType := fun k => match k with
  | 0 => .int
  | 1 => .array .int
  | 2 => .array .int
  | 3 => .array (.array .int)
  | _ => .array (.array .int)
theorem NT_ : ∀ a, a < 5 → ∀ b, b < 5 → a ≠ b → (TT_ a).2.1 ≠ (TT_ b).2.1 := by decide +kernel
theorem QT_ : ∀ k, k < 5 → parseFieldDescriptor (TT_ k).2.2.1 = some (YT_ k) := by decide +kernel
theorem IT_ : ∀ w ∈ u_ws "UseOdds$Tree" TT_ 5, w ∈ TW := by
  intro w hw
  obtain ⟨k, hk, rfl⟩ := List.mem_map.mp hw
  have hk := List.mem_range.mp hk
  match k, hk with
  | 0, _ => exact tw67
  | 1, _ => exact tw69
  | 2, _ => exact tw71
  | 3, _ => exact tw73
  | 4, _ => exact tw75
  | k + 5, h => omega
def TH_ : u_T := fun k => match k with
  | 0 => ("UseOdds$Whole", "groups", "[J", true)
  | _ => ("UseOdds$Whole", "used", "I", false)
def YH_ : Nat → FieldType := fun k => match k with
  | 0 => .array .long
  | _ => .int
theorem NH_ : ∀ a, a < 2 → ∀ b, b < 2 → a ≠ b → (TH_ a).2.1 ≠ (TH_ b).2.1 := by decide +kernel
theorem QH_ : ∀ k, k < 2 → parseFieldDescriptor (TH_ k).2.2.1 = some (YH_ k) := by decide +kernel
theorem IH_ : ∀ w ∈ u_ws "UseOdds$Whole" TH_ 2, w ∈ TW := by
  intro w hw
  obtain ⟨k, hk, rfl⟩ := List.mem_map.mp hw
  have hk := List.mem_range.mp hk
  match k, hk with
  | 0, _ => exact tw114
  | 1, _ => exact tw116
  | k + 2, h => omega
def TU_ : u_T := fun k => match k with
  | 0 => ("UseOdds", "kinds", "LUseOdds$Kinds;", true)
  | 1 => ("UseOdds", "tree", "LUseOdds$Tree;", true)
  | 2 => ("UseOdds", "list", "LUseOdds$PriceList;", true)
  | 3 => ("UseOdds", "odds", "LUseOdds$Odds;", true)
  | 4 => ("UseOdds", "paper", "LUseOdds$Paper;", true)
  | 5 => ("UseOdds", "shareAbove", "I", false)
  | 6 => ("UseOdds", "shareBelow", "I", false)
  | 7 => ("UseOdds", "counts", "[[I", true)
  | _ => ("UseOdds", "drops", "[J", true)
def YU_ : Nat → FieldType := fun k => match k with
  | 0 => .object "UseOdds$Kinds"
  | 1 => .object "UseOdds$Tree"
  | 2 => .object "UseOdds$PriceList"
  | 3 => .object "UseOdds$Odds"
  | 4 => .object "UseOdds$Paper"
  | 5 => .int
  | 6 => .int
  | 7 => .array (.array .int)
  | _ => .array .long
theorem NU_ : ∀ a, a < 9 → ∀ b, b < 9 → a ≠ b → (TU_ a).2.1 ≠ (TU_ b).2.1 := by decide +kernel
theorem QU_ : ∀ k, k < 9 → parseFieldDescriptor (TU_ k).2.2.1 = some (YU_ k) := by decide +kernel
theorem IU_ : ∀ w ∈ u_ws "UseOdds" TU_ 9, w ∈ TW := by
  intro w hw
  obtain ⟨k, hk, rfl⟩ := List.mem_map.mp hw
  have hk := List.mem_range.mp hk
  match k, hk with
  | 0, _ => exact tw183
  | 1, _ => exact tw185
  | 2, _ => exact tw187
  | 3, _ => exact tw189
  | 4, _ => exact tw191
  | 5, _ => exact tw193
  | 6, _ => exact tw195
  | 7, _ => exact tw197
  | 8, _ => exact tw199
  | k + 9, h => omega
def TM_ : u_T := fun k => match k with
  | 0 => ("UseOddsModel", "thrown", "I", false)
  | 1 => ("UseOddsModel", "kinds", "I", false)
  | 2 => ("UseOddsModel", "flows", "[I", true)
  | 3 => ("UseOddsModel", "as", "[I", true)
  | 4 => ("UseOddsModel", "bs", "[I", true)
  | 5 => ("UseOddsModel", "pipes", "I", false)
  | 6 => ("UseOddsModel", "parents", "[I", true)
  | 7 => ("UseOddsModel", "lengths", "[I", true)
  | 8 => ("UseOddsModel", "taps", "[I", true)
  | 9 => ("UseOddsModel", "above", "I", false)
  | 10 => ("UseOddsModel", "below", "I", false)
  | 11 => ("UseOddsModel", "entries", "I", false)
  | 12 => ("UseOddsModel", "capacities", "[I", true)
  | 13 => ("UseOddsModel", "widths", "[I", true)
  | 14 => ("UseOddsModel", "costs", "[I", true)
  | 15 => ("UseOddsModel", "row", "[J", true)
  | 16 => ("UseOddsModel", "paper", "Z", false)
  | _ => ("UseOddsModel", "known", "[I", true)
def YM_ : Nat → FieldType := fun k => match k with
  | 0 => .int
  | 1 => .int
  | 2 => .array .int
  | 3 => .array .int
  | 4 => .array .int
  | 5 => .int
  | 6 => .array .int
  | 7 => .array .int
  | 8 => .array .int
  | 9 => .int
  | 10 => .int
  | 11 => .int
  | 12 => .array .int
  | 13 => .array .int
  | 14 => .array .int
  | 15 => .array .long
  | 16 => .boolean
  | _ => .array .int
theorem NM_ : ∀ a, a < 18 → ∀ b, b < 18 → a ≠ b → (TM_ a).2.1 ≠ (TM_ b).2.1 := by decide +kernel
theorem QM_ : ∀ k, k < 18 → parseFieldDescriptor (TM_ k).2.2.1 = some (YM_ k) := by decide +kernel
theorem IM_ : ∀ w ∈ u_ws "UseOddsModel" TM_ 18, w ∈ TW := by
  intro w hw
  obtain ⟨k, hk, rfl⟩ := List.mem_map.mp hw
  have hk := List.mem_range.mp hk
  match k, hk with
  | 0, _ => exact tw585
  | 1, _ => exact tw587
  | 2, _ => exact tw589
  | 3, _ => exact tw591
  | 4, _ => exact tw593
  | 5, _ => exact tw595
  | 6, _ => exact tw597
  | 7, _ => exact tw599
  | 8, _ => exact tw601
  | 9, _ => exact tw603
  | 10, _ => exact tw605
  | 11, _ => exact tw607
  | 12, _ => exact tw609
  | 13, _ => exact tw611
  | 14, _ => exact tw613
  | 15, _ => exact tw615
  | 16, _ => exact tw617
  | 17, _ => exact tw619
  | k + 18, h => omega
abbrev vwCl : List vw_C := [("UseOdds$Kinds", TK_, 4), ("UseOdds$Odds", TO_, 7), ("UseOdds$Paper", TP_, 3), ("UseOdds$PriceList", TL_, 4), ("UseOdds$Tree", TT_, 5), ("UseOdds$Whole", TH_, 2), ("UseOdds", TU_, 9), ("UseOddsModel", TM_, 18)]
abbrev cd_U_init : ByteArray := prog_1_method_1_code
abbrev ym_U_init : MethodName := ⟨"UseOdds", "<init>", "()V"⟩
abbrev cd_K_init : ByteArray := prog_2_method_1_code
abbrev ym_K_init : MethodName := ⟨"UseOdds$Kinds", "<init>", "()V"⟩
abbrev cd_T_init : ByteArray := prog_6_method_1_code
abbrev ym_T_init : MethodName := ⟨"UseOdds$Tree", "<init>", "()V"⟩
abbrev cd_L_init : ByteArray := prog_5_method_1_code
abbrev ym_L_init : MethodName := ⟨"UseOdds$PriceList", "<init>", "()V"⟩
abbrev cd_O_init : ByteArray := prog_3_method_1_code
abbrev ym_O_init : MethodName := ⟨"UseOdds$Odds", "<init>", "()V"⟩
abbrev cd_H_init : ByteArray := prog_7_method_1_code
abbrev ym_H_init : MethodName := ⟨"UseOdds$Whole", "<init>", "()V"⟩
abbrev cd_P_init : ByteArray := prog_4_method_1_code
abbrev ym_P_init : MethodName := ⟨"UseOdds$Paper", "<init>", "()V"⟩
abbrev cd_U_forgetCounts : ByteArray := prog_1_method_20_code
abbrev ym_U_forgetCounts : MethodName := ⟨"UseOdds", "forgetCounts", "()V"⟩
abbrev cd_A_fillI : ByteArray := prog_18_method_103_code
abbrev ym_A_fillI : MethodName := ⟨"java/util/Arrays", "fill", "([II)V"⟩
abbrev cd_U_cost : ByteArray := prog_1_method_16_code
abbrev ym_U_cost : MethodName := ⟨"UseOdds", "cost", "()I"⟩
abbrev cd_U_flowOf : ByteArray := prog_1_method_22_code
abbrev ym_U_flowOf : MethodName := ⟨"UseOdds", "flowOf", "(I)I"⟩
abbrev cd_U_countOf : ByteArray := prog_1_method_21_code
abbrev ym_U_countOf : MethodName := ⟨"UseOdds", "countOf", "(II)I"⟩
abbrev cd_O_begin : ByteArray := prog_3_method_2_code
abbrev ym_O_begin : MethodName := ⟨"UseOdds$Odds", "begin", "(III)V"⟩
abbrev cd_H_becomePower : ByteArray := prog_7_method_4_code
abbrev ym_H_becomePower : MethodName := ⟨"UseOdds$Whole", "becomePower", "(II)V"⟩
abbrev cd_H_become : ByteArray := prog_7_method_2_code
abbrev ym_H_become : MethodName := ⟨"UseOdds$Whole", "become", "(I)V"⟩
abbrev cd_A_fillJ : ByteArray := prog_18_method_101_code
abbrev ym_A_fillJ : MethodName := ⟨"java/util/Arrays", "fill", "([JJ)V"⟩
abbrev cd_H_multiply : ByteArray := prog_7_method_5_code
abbrev ym_H_multiply : MethodName := ⟨"UseOdds$Whole", "multiply", "(I)V"⟩
abbrev cd_O_leastCount : ByteArray := prog_3_method_4_code
abbrev ym_O_leastCount : MethodName := ⟨"UseOdds$Odds", "leastCount", "(II)I"⟩
abbrev cd_H_divide : ByteArray := prog_7_method_7_code
abbrev ym_H_divide : MethodName := ⟨"UseOdds$Whole", "divide", "(I)V"⟩
abbrev cd_O_oneFewer : ByteArray := prog_3_method_3_code
abbrev ym_O_oneFewer : MethodName := ⟨"UseOdds$Odds", "oneFewer", "()V"⟩
abbrev cd_H_add : ByteArray := prog_7_method_6_code
abbrev ym_H_add : MethodName := ⟨"UseOdds$Whole", "add", "(LUseOdds$Whole;)V"⟩
abbrev cd_H_exceeds : ByteArray := prog_7_method_9_code
abbrev ym_H_exceeds : MethodName := ⟨"UseOdds$Whole", "exceeds", "(LUseOdds$Whole;)Z"⟩
abbrev cd_L_cheapestFor : ByteArray := prog_5_method_3_code
abbrev ym_L_cheapestFor : MethodName := ⟨"UseOdds$PriceList", "cheapestFor", "(I)I"⟩
abbrev cd_W_kind : ByteArray := method_3_code
abbrev ym_W_kind : MethodName := ⟨"UseOddsLaw", "kind", "(LUseOdds;III[J)I"⟩
abbrev cd_U_kind : ByteArray := prog_1_method_2_code
abbrev ym_U_kind : MethodName := ⟨"UseOdds", "kind", "(III)I"⟩
abbrev cd_U_isWithin : ByteArray := prog_1_method_27_code
abbrev ym_U_isWithin : MethodName := ⟨"UseOdds", "isWithin", "(III)Z"⟩
abbrev cd_U_require : ByteArray := prog_1_method_26_code
abbrev ym_U_require : MethodName := ⟨"UseOdds", "require", "(Z)V"⟩
abbrev cd_K_append : ByteArray := prog_2_method_3_code
abbrev ym_K_append : MethodName := ⟨"UseOdds$Kinds", "append", "(III)I"⟩
abbrev cd_U_commonDivisor : ByteArray := prog_1_method_28_code
abbrev ym_U_commonDivisor : MethodName := ⟨"UseOdds", "commonDivisor", "(II)I"⟩
abbrev cd_W_pipe : ByteArray := method_4_code
abbrev ym_W_pipe : MethodName := ⟨"UseOddsLaw", "pipe", "(LUseOdds;II[J)I"⟩
abbrev cd_U_pipe : ByteArray := prog_1_method_3_code
abbrev ym_U_pipe : MethodName := ⟨"UseOdds", "pipe", "(II)I"⟩
abbrev cd_T_has : ByteArray := prog_6_method_2_code
abbrev ym_T_has : MethodName := ⟨"UseOdds$Tree", "has", "(I)Z"⟩
abbrev cd_T_append : ByteArray := prog_6_method_3_code
abbrev ym_T_append : MethodName := ⟨"UseOdds$Tree", "append", "(II)I"⟩
abbrev cd_W_taps : ByteArray := method_5_code
abbrev ym_W_taps : MethodName := ⟨"UseOddsLaw", "taps", "(LUseOdds;III[J)I"⟩
abbrev cd_U_taps : ByteArray := prog_1_method_4_code
abbrev ym_U_taps : MethodName := ⟨"UseOdds", "taps", "(III)I"⟩
abbrev cd_U_requirePipeAndKind : ByteArray := prog_1_method_25_code
abbrev ym_U_requirePipeAndKind : MethodName := ⟨"UseOdds", "requirePipeAndKind", "(II)V"⟩
abbrev cd_K_has : ByteArray := prog_2_method_2_code
abbrev ym_K_has : MethodName := ⟨"UseOdds$Kinds", "has", "(I)Z"⟩
abbrev cd_T_change : ByteArray := prog_6_method_4_code
abbrev ym_T_change : MethodName := ⟨"UseOdds$Tree", "change", "(III)V"⟩
abbrev cd_W_gone : ByteArray := method_6_code
abbrev ym_W_gone : MethodName := ⟨"UseOddsLaw", "gone", "(LUseOdds;III[J)I"⟩
abbrev cd_U_gone : ByteArray := prog_1_method_5_code
abbrev ym_U_gone : MethodName := ⟨"UseOdds", "gone", "(III)I"⟩
abbrev cd_W_share : ByteArray := method_7_code
abbrev ym_W_share : MethodName := ⟨"UseOddsLaw", "share", "(LUseOdds;II)I"⟩
abbrev cd_U_share : ByteArray := prog_1_method_6_code
abbrev ym_U_share : MethodName := ⟨"UseOdds", "share", "(II)V"⟩
abbrev cd_W_entry : ByteArray := method_8_code
abbrev ym_W_entry : MethodName := ⟨"UseOddsLaw", "entry", "(LUseOdds;III[J)I"⟩
abbrev cd_U_entry : ByteArray := prog_1_method_7_code
abbrev ym_U_entry : MethodName := ⟨"UseOdds", "entry", "(III)I"⟩
abbrev cd_L_append : ByteArray := prog_5_method_2_code
abbrev ym_L_append : MethodName := ⟨"UseOdds$PriceList", "append", "(III)I"⟩
abbrev cd_W_many : ByteArray := method_9_code
abbrev ym_W_many : MethodName := ⟨"UseOddsLaw", "many", "(LUseOdds;II[J)I"⟩
abbrev cd_U_many : ByteArray := prog_1_method_8_code
abbrev ym_U_many : MethodName := ⟨"UseOdds", "many", "(II)I"⟩
abbrev cd_W_count : ByteArray := method_10_code
abbrev ym_W_count : MethodName := ⟨"UseOddsLaw", "count", "(LUseOdds;II[J)I"⟩
abbrev cd_U_count : ByteArray := prog_1_method_9_code
abbrev ym_U_count : MethodName := ⟨"UseOdds", "count", "(II)I"⟩
abbrev cd_W_write : ByteArray := method_11_code
abbrev ym_W_write : MethodName := ⟨"UseOddsLaw", "write", "(LUseOdds;IIIZ[J)I"⟩
abbrev cd_U_write : ByteArray := prog_1_method_10_code
abbrev ym_U_write : MethodName := ⟨"UseOdds", "write", "(IIIZ)I"⟩
abbrev cd_P_take : ByteArray := prog_4_method_2_code
abbrev ym_P_take : MethodName := ⟨"UseOdds$Paper", "take", "(LUseOdds$Whole;LUseOdds$Whole;I)V"⟩
abbrev cd_H_becomeW : ByteArray := prog_7_method_3_code
abbrev ym_H_becomeW : MethodName := ⟨"UseOdds$Whole", "become", "(LUseOdds$Whole;)V"⟩
abbrev cd_H_remainder : ByteArray := prog_7_method_8_code
abbrev ym_H_remainder : MethodName := ⟨"UseOdds$Whole", "remainder", "(I)I"⟩
abbrev cd_H_length : ByteArray := prog_7_method_10_code
abbrev ym_H_length : MethodName := ⟨"UseOdds$Whole", "length", "()I"⟩
abbrev cd_W_digits : ByteArray := method_12_code
abbrev ym_W_digits : MethodName := ⟨"UseOddsLaw", "digits", "(LUseOdds;I[J)I"⟩
abbrev cd_U_digits : ByteArray := prog_1_method_11_code
abbrev ym_U_digits : MethodName := ⟨"UseOdds", "digits", "(I)I"⟩
abbrev cd_P_lengthOf : ByteArray := prog_4_method_4_code
abbrev ym_P_lengthOf : MethodName := ⟨"UseOdds$Paper", "lengthOf", "(I)I"⟩
abbrev cd_P_number : ByteArray := prog_4_method_3_code
abbrev ym_P_number : MethodName := ⟨"UseOdds$Paper", "number", "(I)LUseOdds$Whole;"⟩
abbrev cd_W_digit : ByteArray := method_13_code
abbrev ym_W_digit : MethodName := ⟨"UseOddsLaw", "digit", "(LUseOdds;II[J)I"⟩
abbrev cd_U_digit : ByteArray := prog_1_method_12_code
abbrev ym_U_digit : MethodName := ⟨"UseOdds", "digit", "(II)I"⟩
abbrev cd_H_digitAt : ByteArray := prog_7_method_11_code
abbrev ym_H_digitAt : MethodName := ⟨"UseOdds$Whole", "digitAt", "(I)I"⟩
abbrev cd_W_rest : ByteArray := method_14_code
abbrev ym_W_rest : MethodName := ⟨"UseOddsLaw", "rest", "(LUseOdds;II[J)I"⟩
abbrev cd_U_rest : ByteArray := prog_1_method_13_code
abbrev ym_U_rest : MethodName := ⟨"UseOdds", "rest", "(II)I"⟩
abbrev cd_W_flow : ByteArray := method_15_code
abbrev ym_W_flow : MethodName := ⟨"UseOddsLaw", "flow", "(LUseOdds;I[J)I"⟩
abbrev cd_U_flow : ByteArray := prog_1_method_14_code
abbrev ym_U_flow : MethodName := ⟨"UseOdds", "flow", "(I)I"⟩
abbrev cd_U_requirePipe : ByteArray := prog_1_method_24_code
abbrev ym_U_requirePipe : MethodName := ⟨"UseOdds", "requirePipe", "(I)V"⟩
abbrev cd_W_size : ByteArray := method_16_code
abbrev ym_W_size : MethodName := ⟨"UseOddsLaw", "size", "(LUseOdds;I[J)I"⟩
abbrev cd_U_size : ByteArray := prog_1_method_15_code
abbrev ym_U_size : MethodName := ⟨"UseOdds", "size", "(I)I"⟩
abbrev cd_W_loss : ByteArray := method_17_code
abbrev ym_W_loss : MethodName := ⟨"UseOddsLaw", "loss", "(LUseOdds;I[J)I"⟩
abbrev cd_U_loss : ByteArray := prog_1_method_17_code
abbrev ym_U_loss : MethodName := ⟨"UseOdds", "loss", "(I)J"⟩
abbrev cd_U_lossOf : ByteArray := prog_1_method_23_code
abbrev ym_U_lossOf : MethodName := ⟨"UseOdds", "lossOf", "(I)J"⟩
abbrev cd_W_pressure : ByteArray := method_18_code
abbrev ym_W_pressure : MethodName := ⟨"UseOddsLaw", "pressure", "(LUseOdds;IJ[J)I"⟩
abbrev cd_U_pressure : ByteArray := prog_1_method_18_code
abbrev ym_U_pressure : MethodName := ⟨"UseOdds", "pressure", "(IJ)J"⟩
abbrev cd_W_farthest : ByteArray := method_19_code
abbrev ym_W_farthest : MethodName := ⟨"UseOddsLaw", "farthest", "(LUseOdds;[J)I"⟩
abbrev cd_U_farthest : ByteArray := prog_1_method_19_code
abbrev ym_U_farthest : MethodName := ⟨"UseOdds", "farthest", "()I"⟩
abbrev cd_M_init : ByteArray := prog_9_method_1_code
abbrev ym_M_init : MethodName := ⟨"UseOddsModel", "<init>", "()V"⟩
abbrev cd_M_thrown : ByteArray := prog_9_method_2_code
abbrev ym_M_thrown : MethodName := ⟨"UseOddsModel", "thrown", "()I"⟩
abbrev cd_M_kind : ByteArray := prog_9_method_13_code
abbrev ym_M_kind : MethodName := ⟨"UseOddsModel", "kind", "(III)I"⟩
abbrev cd_M_isIn : ByteArray := prog_9_method_3_code
abbrev ym_M_isIn : MethodName := ⟨"UseOddsModel", "isIn", "(JJJ)Z"⟩
abbrev cd_M_pipe : ByteArray := prog_9_method_14_code
abbrev ym_M_pipe : MethodName := ⟨"UseOddsModel", "pipe", "(II)I"⟩
abbrev cd_M_taps : ByteArray := prog_9_method_16_code
abbrev ym_M_taps : MethodName := ⟨"UseOddsModel", "taps", "(III)I"⟩
abbrev cd_M_no : ByteArray := prog_9_method_15_code
abbrev ym_M_no : MethodName := ⟨"UseOddsModel", "no", "(II)Z"⟩
abbrev cd_M_gone : ByteArray := prog_9_method_17_code
abbrev ym_M_gone : MethodName := ⟨"UseOddsModel", "gone", "(III)I"⟩
abbrev cd_M_share : ByteArray := prog_9_method_18_code
abbrev ym_M_share : MethodName := ⟨"UseOddsModel", "share", "(II)V"⟩
abbrev cd_M_entry : ByteArray := prog_9_method_19_code
abbrev ym_M_entry : MethodName := ⟨"UseOddsModel", "entry", "(III)I"⟩
abbrev cd_M_many : ByteArray := prog_9_method_22_code
abbrev ym_M_many : MethodName := ⟨"UseOddsModel", "many", "(II)I"⟩
abbrev cd_M_carries : ByteArray := prog_9_method_21_code
abbrev ym_M_carries : MethodName := ⟨"UseOddsModel", "carries", "(II)I"⟩
abbrev cd_M_hangs : ByteArray := prog_9_method_20_code
abbrev ym_M_hangs : MethodName := ⟨"UseOddsModel", "hangs", "(II)Z"⟩
abbrev cd_M_count : ByteArray := prog_9_method_25_code
abbrev ym_M_count : MethodName := ⟨"UseOddsModel", "count", "(II)I"⟩
abbrev cd_M_countOf : ByteArray := prog_9_method_24_code
abbrev ym_M_countOf : MethodName := ⟨"UseOddsModel", "countOf", "(II)I"⟩
abbrev cd_M_power : ByteArray := prog_9_method_12_code
abbrev ym_M_power : MethodName := ⟨"UseOddsModel", "power", "(IJI)V"⟩
abbrev cd_M_set : ByteArray := prog_9_method_4_code
abbrev ym_M_set : MethodName := ⟨"UseOddsModel", "set", "(IJ)V"⟩
abbrev cd_M_times : ByteArray := prog_9_method_6_code
abbrev ym_M_times : MethodName := ⟨"UseOddsModel", "times", "(IJ)V"⟩
abbrev cd_M_copy : ByteArray := prog_9_method_5_code
abbrev ym_M_copy : MethodName := ⟨"UseOddsModel", "copy", "(II)V"⟩
abbrev cd_M_add : ByteArray := prog_9_method_9_code
abbrev ym_M_add : MethodName := ⟨"UseOddsModel", "add", "(II)V"⟩
abbrev cd_M_isAbove : ByteArray := prog_9_method_10_code
abbrev ym_M_isAbove : MethodName := ⟨"UseOddsModel", "isAbove", "(II)Z"⟩
abbrev cd_M_down : ByteArray := prog_9_method_23_code
abbrev ym_M_down : MethodName := ⟨"UseOddsModel", "down", "(III)V"⟩
abbrev cd_M_divide : ByteArray := prog_9_method_7_code
abbrev ym_M_divide : MethodName := ⟨"UseOddsModel", "divide", "(IJ)J"⟩
abbrev cd_M_write : ByteArray := prog_9_method_27_code
abbrev ym_M_write : MethodName := ⟨"UseOddsModel", "write", "(IIIZ)I"⟩
abbrev cd_M_isNone : ByteArray := prog_9_method_11_code
abbrev ym_M_isNone : MethodName := ⟨"UseOddsModel", "isNone", "(I)Z"⟩
abbrev cd_M_leaves : ByteArray := prog_9_method_8_code
abbrev ym_M_leaves : MethodName := ⟨"UseOddsModel", "leaves", "(IJ)J"⟩
abbrev cd_M_digitsOf : ByteArray := prog_9_method_26_code
abbrev ym_M_digitsOf : MethodName := ⟨"UseOddsModel", "digitsOf", "(I)I"⟩
abbrev cd_M_digits : ByteArray := prog_9_method_29_code
abbrev ym_M_digits : MethodName := ⟨"UseOddsModel", "digits", "(I)I"⟩
abbrev cd_M_numberOf : ByteArray := prog_9_method_28_code
abbrev ym_M_numberOf : MethodName := ⟨"UseOddsModel", "numberOf", "(I)I"⟩
abbrev cd_M_digit : ByteArray := prog_9_method_30_code
abbrev ym_M_digit : MethodName := ⟨"UseOddsModel", "digit", "(II)I"⟩
abbrev cd_M_rest : ByteArray := prog_9_method_31_code
abbrev ym_M_rest : MethodName := ⟨"UseOddsModel", "rest", "(II)I"⟩
abbrev cd_M_flow : ByteArray := prog_9_method_36_code
abbrev ym_M_flow : MethodName := ⟨"UseOddsModel", "flow", "(I)I"⟩
abbrev cd_M_noPipe : ByteArray := prog_9_method_35_code
abbrev ym_M_noPipe : MethodName := ⟨"UseOddsModel", "noPipe", "(I)Z"⟩
abbrev cd_M_flowOf : ByteArray := prog_9_method_32_code
abbrev ym_M_flowOf : MethodName := ⟨"UseOddsModel", "flowOf", "(I)I"⟩
abbrev cd_M_size : ByteArray := prog_9_method_37_code
abbrev ym_M_size : MethodName := ⟨"UseOddsModel", "size", "(I)I"⟩
abbrev cd_M_sizeOf : ByteArray := prog_9_method_33_code
abbrev ym_M_sizeOf : MethodName := ⟨"UseOddsModel", "sizeOf", "(I)I"⟩
abbrev cd_M_cost : ByteArray := prog_9_method_38_code
abbrev ym_M_cost : MethodName := ⟨"UseOddsModel", "cost", "()I"⟩
abbrev cd_M_loss : ByteArray := prog_9_method_39_code
abbrev ym_M_loss : MethodName := ⟨"UseOddsModel", "loss", "(I)J"⟩
abbrev cd_M_lossOf : ByteArray := prog_9_method_34_code
abbrev ym_M_lossOf : MethodName := ⟨"UseOddsModel", "lossOf", "(I)J"⟩
abbrev cd_M_pressure : ByteArray := prog_9_method_41_code
abbrev ym_M_pressure : MethodName := ⟨"UseOddsModel", "pressure", "(IJ)J"⟩
abbrev cd_M_lost : ByteArray := prog_9_method_40_code
abbrev ym_M_lost : MethodName := ⟨"UseOddsModel", "lost", "(I)J"⟩
abbrev cd_M_farthest : ByteArray := prog_9_method_42_code
abbrev ym_M_farthest : MethodName := ⟨"UseOddsModel", "farthest", "()I"⟩
abbrev cd_W_law : ByteArray := code
abbrev ym_W_law : MethodName := ⟨"UseOddsLaw", "law", "([I)Z"⟩
