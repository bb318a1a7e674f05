section
-- ===== PART A: goes FIRST, ahead of the names: the tables' words, and 'selects' of the private methods out of them =====
/-- a private method of a class that the tables say can be made, by its rows of tables_1 -/
def lw_okq (q : MethodName × Nat) : Prop := (q.1.cls ≠ "java/lang/invoke/MethodHandle" ∧ q.1.cls ≠ "java/lang/invoke/VarHandle") ∧ Cond.instantiable q.1.cls q.2 ∈ tables_1 ∧ Cond.privateMethod q.1 ∈ tables_1 ∧ Cond.instanceMethod q.1 ∈ tables_1
theorem lw_p0 : lw_okq (⟨"Tallow", "tableNow", "()LTallow$Table;"⟩, 7) := ⟨⟨by decide +kernel, by decide +kernel⟩, List.mem_of_getElem? (i := 33) (by decide +kernel), List.mem_of_getElem? (i := 267) (by decide +kernel), List.mem_of_getElem? (i := 268) (by decide +kernel)⟩
theorem lw_p1 : lw_okq (⟨"Tallow", "readText", "()V"⟩, 7) := ⟨⟨by decide +kernel, by decide +kernel⟩, List.mem_of_getElem? (i := 33) (by decide +kernel), List.mem_of_getElem? (i := 271) (by decide +kernel), List.mem_of_getElem? (i := 272) (by decide +kernel)⟩
theorem lw_p2 : lw_okq (⟨"Tallow$Reading", "isMoreToRead", "(LTallow$Text;I)Z"⟩, 14) := ⟨⟨by decide +kernel, by decide +kernel⟩, List.mem_of_getElem? (i := 101) (by decide +kernel), List.mem_of_getElem? (i := 279) (by decide +kernel), List.mem_of_getElem? (i := 280) (by decide +kernel)⟩
theorem lw_p3 : lw_okq (⟨"Tallow$Reading", "readQuoted", "(LTallow$Text;II)I"⟩, 14) := ⟨⟨by decide +kernel, by decide +kernel⟩, List.mem_of_getElem? (i := 101) (by decide +kernel), List.mem_of_getElem? (i := 287) (by decide +kernel), List.mem_of_getElem? (i := 288) (by decide +kernel)⟩
theorem lw_p4 : lw_okq (⟨"Tallow$Reading", "takeSigns", "(LTallow$Text;II)V"⟩, 14) := ⟨⟨by decide +kernel, by decide +kernel⟩, List.mem_of_getElem? (i := 101) (by decide +kernel), List.mem_of_getElem? (i := 291) (by decide +kernel), List.mem_of_getElem? (i := 292) (by decide +kernel)⟩
theorem lw_p5 : lw_okq (⟨"Tallow$Reading", "endOfCell", "(LTallow$Text;II)I"⟩, 14) := ⟨⟨by decide +kernel, by decide +kernel⟩, List.mem_of_getElem? (i := 101) (by decide +kernel), List.mem_of_getElem? (i := 296) (by decide +kernel), List.mem_of_getElem? (i := 297) (by decide +kernel)⟩
theorem lw_p6 : lw_okq (⟨"Tallow$Reading", "readPlain", "(LTallow$Text;II)I"⟩, 14) := ⟨⟨by decide +kernel, by decide +kernel⟩, List.mem_of_getElem? (i := 101) (by decide +kernel), List.mem_of_getElem? (i := 300) (by decide +kernel), List.mem_of_getElem? (i := 301) (by decide +kernel)⟩
theorem lw_p7 : lw_okq (⟨"Tallow$Reading", "closeCell", "(IZ)V"⟩, 14) := ⟨⟨by decide +kernel, by decide +kernel⟩, List.mem_of_getElem? (i := 101) (by decide +kernel), List.mem_of_getElem? (i := 304) (by decide +kernel), List.mem_of_getElem? (i := 305) (by decide +kernel)⟩
theorem lw_p8 : lw_okq (⟨"Tallow$Reading", "closeRow", "()V"⟩, 14) := ⟨⟨by decide +kernel, by decide +kernel⟩, List.mem_of_getElem? (i := 101) (by decide +kernel), List.mem_of_getElem? (i := 308) (by decide +kernel), List.mem_of_getElem? (i := 309) (by decide +kernel)⟩
theorem lw_p9 : lw_okq (⟨"Tallow$Reading", "findUsualWidth", "()V"⟩, 14) := ⟨⟨by decide +kernel, by decide +kernel⟩, List.mem_of_getElem? (i := 101) (by decide +kernel), List.mem_of_getElem? (i := 315) (by decide +kernel), List.mem_of_getElem? (i := 316) (by decide +kernel)⟩
theorem lw_p10 : lw_okq (⟨"Tallow$Reading", "rowsOfWidth", "(I)I"⟩, 14) := ⟨⟨by decide +kernel, by decide +kernel⟩, List.mem_of_getElem? (i := 101) (by decide +kernel), List.mem_of_getElem? (i := 319) (by decide +kernel), List.mem_of_getElem? (i := 320) (by decide +kernel)⟩
theorem lw_p11 : lw_okq (⟨"Tallow", "unsettleAll", "()V"⟩, 7) := ⟨⟨by decide +kernel, by decide +kernel⟩, List.mem_of_getElem? (i := 33) (by decide +kernel), List.mem_of_getElem? (i := 323) (by decide +kernel), List.mem_of_getElem? (i := 324) (by decide +kernel)⟩
theorem lw_p12 : lw_okq (⟨"Tallow", "guessedParter", "()I"⟩, 7) := ⟨⟨by decide +kernel, by decide +kernel⟩, List.mem_of_getElem? (i := 33) (by decide +kernel), List.mem_of_getElem? (i := 328) (by decide +kernel), List.mem_of_getElem? (i := 329) (by decide +kernel)⟩
theorem lw_p13 : lw_okq (⟨"Tallow", "tableWith", "(I)LTallow$Table;"⟩, 7) := ⟨⟨by decide +kernel, by decide +kernel⟩, List.mem_of_getElem? (i := 33) (by decide +kernel), List.mem_of_getElem? (i := 340) (by decide +kernel), List.mem_of_getElem? (i := 341) (by decide +kernel)⟩
theorem lw_p14 : lw_okq (⟨"Tallow$Table", "guessedMark", "()I"⟩, 13) := ⟨⟨by decide +kernel, by decide +kernel⟩, List.mem_of_getElem? (i := 95) (by decide +kernel), List.mem_of_getElem? (i := 349) (by decide +kernel), List.mem_of_getElem? (i := 350) (by decide +kernel)⟩
theorem lw_p15 : lw_okq (⟨"Tallow$Table", "nameCell", "(I)V"⟩, 13) := ⟨⟨by decide +kernel, by decide +kernel⟩, List.mem_of_getElem? (i := 95) (by decide +kernel), List.mem_of_getElem? (i := 363) (by decide +kernel), List.mem_of_getElem? (i := 364) (by decide +kernel)⟩
def lw_privs_1 : List (MethodName × Nat) := [(⟨"Tallow", "tableNow", "()LTallow$Table;"⟩, 7), (⟨"Tallow", "readText", "()V"⟩, 7), (⟨"Tallow$Reading", "isMoreToRead", "(LTallow$Text;I)Z"⟩, 14), (⟨"Tallow$Reading", "readQuoted", "(LTallow$Text;II)I"⟩, 14), (⟨"Tallow$Reading", "takeSigns", "(LTallow$Text;II)V"⟩, 14), (⟨"Tallow$Reading", "endOfCell", "(LTallow$Text;II)I"⟩, 14), (⟨"Tallow$Reading", "readPlain", "(LTallow$Text;II)I"⟩, 14), (⟨"Tallow$Reading", "closeCell", "(IZ)V"⟩, 14), (⟨"Tallow$Reading", "closeRow", "()V"⟩, 14), (⟨"Tallow$Reading", "findUsualWidth", "()V"⟩, 14), (⟨"Tallow$Reading", "rowsOfWidth", "(I)I"⟩, 14), (⟨"Tallow", "unsettleAll", "()V"⟩, 7), (⟨"Tallow", "guessedParter", "()I"⟩, 7), (⟨"Tallow", "tableWith", "(I)LTallow$Table;"⟩, 7), (⟨"Tallow$Table", "guessedMark", "()I"⟩, 13), (⟨"Tallow$Table", "nameCell", "(I)V"⟩, 13)]
theorem lw_r1 : ∀ q ∈ lw_privs_1, lw_okq q := List.forall_mem_cons.mpr ⟨lw_p0, List.forall_mem_cons.mpr ⟨lw_p1, List.forall_mem_cons.mpr ⟨lw_p2, List.forall_mem_cons.mpr ⟨lw_p3, List.forall_mem_cons.mpr ⟨lw_p4, List.forall_mem_cons.mpr ⟨lw_p5, List.forall_mem_cons.mpr ⟨lw_p6, List.forall_mem_cons.mpr ⟨lw_p7, List.forall_mem_cons.mpr ⟨lw_p8, List.forall_mem_cons.mpr ⟨lw_p9, List.forall_mem_cons.mpr ⟨lw_p10, List.forall_mem_cons.mpr ⟨lw_p11, List.forall_mem_cons.mpr ⟨lw_p12, List.forall_mem_cons.mpr ⟨lw_p13, List.forall_mem_cons.mpr ⟨lw_p14, List.forall_mem_cons.mpr ⟨lw_p15, fun _ h => absurd h List.not_mem_nil⟩⟩⟩⟩⟩⟩⟩⟩⟩⟩⟩⟩⟩⟩⟩⟩
theorem lw_p16 : lw_okq (⟨"Tallow$Table", "guessedHeading", "(I)I"⟩, 13) := ⟨⟨by decide +kernel, by decide +kernel⟩, List.mem_of_getElem? (i := 95) (by decide +kernel), List.mem_of_getElem? (i := 406) (by decide +kernel), List.mem_of_getElem? (i := 407) (by decide +kernel)⟩
theorem lw_p17 : lw_okq (⟨"Tallow$Table", "talliedFilled", "()I"⟩, 13) := ⟨⟨by decide +kernel, by decide +kernel⟩, List.mem_of_getElem? (i := 95) (by decide +kernel), List.mem_of_getElem? (i := 428) (by decide +kernel), List.mem_of_getElem? (i := 429) (by decide +kernel)⟩
theorem lw_p18 : lw_okq (⟨"Tallow$Table", "markRepeats", "(I)V"⟩, 13) := ⟨⟨by decide +kernel, by decide +kernel⟩, List.mem_of_getElem? (i := 95) (by decide +kernel), List.mem_of_getElem? (i := 432) (by decide +kernel), List.mem_of_getElem? (i := 433) (by decide +kernel)⟩
theorem lw_p19 : lw_okq (⟨"Tallow$Table", "isAhead", "(III)Z"⟩, 13) := ⟨⟨by decide +kernel, by decide +kernel⟩, List.mem_of_getElem? (i := 95) (by decide +kernel), List.mem_of_getElem? (i := 436) (by decide +kernel), List.mem_of_getElem? (i := 437) (by decide +kernel)⟩
theorem lw_p20 : lw_okq (⟨"Tallow$Table", "findFaults", "(LTallow$Told;I)V"⟩, 13) := ⟨⟨by decide +kernel, by decide +kernel⟩, List.mem_of_getElem? (i := 95) (by decide +kernel), List.mem_of_getElem? (i := 444) (by decide +kernel), List.mem_of_getElem? (i := 445) (by decide +kernel)⟩
theorem lw_p21 : lw_okq (⟨"Tallow$Table", "faultOfCell", "(LTallow$Told;II)I"⟩, 13) := ⟨⟨by decide +kernel, by decide +kernel⟩, List.mem_of_getElem? (i := 95) (by decide +kernel), List.mem_of_getElem? (i := 453) (by decide +kernel), List.mem_of_getElem? (i := 454) (by decide +kernel)⟩
theorem lw_p22 : lw_okq (⟨"Tallow$Table", "isOfKind", "(II)Z"⟩, 13) := ⟨⟨by decide +kernel, by decide +kernel⟩, List.mem_of_getElem? (i := 95) (by decide +kernel), List.mem_of_getElem? (i := 457) (by decide +kernel), List.mem_of_getElem? (i := 458) (by decide +kernel)⟩
theorem lw_p23 : lw_okq (⟨"Tallow$Table", "keepOnce", "(I)V"⟩, 13) := ⟨⟨by decide +kernel, by decide +kernel⟩, List.mem_of_getElem? (i := 95) (by decide +kernel), List.mem_of_getElem? (i := 470) (by decide +kernel), List.mem_of_getElem? (i := 471) (by decide +kernel)⟩
theorem lw_p24 : lw_okq (⟨"Tallow$Table", "isSameRow", "(II)Z"⟩, 13) := ⟨⟨by decide +kernel, by decide +kernel⟩, List.mem_of_getElem? (i := 95) (by decide +kernel), List.mem_of_getElem? (i := 474) (by decide +kernel), List.mem_of_getElem? (i := 475) (by decide +kernel)⟩
theorem lw_p25 : lw_okq (⟨"Tallow$Table", "repeatsIn", "(I)I"⟩, 13) := ⟨⟨by decide +kernel, by decide +kernel⟩, List.mem_of_getElem? (i := 95) (by decide +kernel), List.mem_of_getElem? (i := 520) (by decide +kernel), List.mem_of_getElem? (i := 521) (by decide +kernel)⟩
theorem lw_p26 : lw_okq (⟨"Tallow$Table", "isFilledIn", "(II)Z"⟩, 13) := ⟨⟨by decide +kernel, by decide +kernel⟩, List.mem_of_getElem? (i := 95) (by decide +kernel), List.mem_of_getElem? (i := 528) (by decide +kernel), List.mem_of_getElem? (i := 529) (by decide +kernel)⟩
theorem lw_p27 : lw_okq (⟨"Tallow$Table", "cellOfKept", "(II)I"⟩, 13) := ⟨⟨by decide +kernel, by decide +kernel⟩, List.mem_of_getElem? (i := 95) (by decide +kernel), List.mem_of_getElem? (i := 532) (by decide +kernel), List.mem_of_getElem? (i := 533) (by decide +kernel)⟩
theorem lw_p28 : lw_okq (⟨"Tallow", "settledWith", "(I)LTallow$Table;"⟩, 7) := ⟨⟨by decide +kernel, by decide +kernel⟩, List.mem_of_getElem? (i := 33) (by decide +kernel), List.mem_of_getElem? (i := 551) (by decide +kernel), List.mem_of_getElem? (i := 552) (by decide +kernel)⟩
theorem lw_p29 : lw_okq (⟨"java/lang/Throwable", "fillInStackTrace", "(I)Ljava/lang/Throwable;"⟩, 6) := ⟨⟨by decide +kernel, by decide +kernel⟩, List.mem_of_getElem? (i := 605) (by decide +kernel), List.mem_of_getElem? (i := 603) (by decide +kernel), List.mem_of_getElem? (i := 604) (by decide +kernel)⟩
theorem lw_p30 : lw_okq (⟨"TallowModel", "start", "(ZI)Z"⟩, 5) := ⟨⟨by decide +kernel, by decide +kernel⟩, List.mem_of_getElem? (i := 886) (by decide +kernel), List.mem_of_getElem? (i := 952) (by decide +kernel), List.mem_of_getElem? (i := 953) (by decide +kernel)⟩
theorem lw_p31 : lw_okq (⟨"TallowModel", "refuse", "(ZI)Z"⟩, 5) := ⟨⟨by decide +kernel, by decide +kernel⟩, List.mem_of_getElem? (i := 886) (by decide +kernel), List.mem_of_getElem? (i := 956) (by decide +kernel), List.mem_of_getElem? (i := 957) (by decide +kernel)⟩
def lw_privs_2 : List (MethodName × Nat) := [(⟨"Tallow$Table", "guessedHeading", "(I)I"⟩, 13), (⟨"Tallow$Table", "talliedFilled", "()I"⟩, 13), (⟨"Tallow$Table", "markRepeats", "(I)V"⟩, 13), (⟨"Tallow$Table", "isAhead", "(III)Z"⟩, 13), (⟨"Tallow$Table", "findFaults", "(LTallow$Told;I)V"⟩, 13), (⟨"Tallow$Table", "faultOfCell", "(LTallow$Told;II)I"⟩, 13), (⟨"Tallow$Table", "isOfKind", "(II)Z"⟩, 13), (⟨"Tallow$Table", "keepOnce", "(I)V"⟩, 13), (⟨"Tallow$Table", "isSameRow", "(II)Z"⟩, 13), (⟨"Tallow$Table", "repeatsIn", "(I)I"⟩, 13), (⟨"Tallow$Table", "isFilledIn", "(II)Z"⟩, 13), (⟨"Tallow$Table", "cellOfKept", "(II)I"⟩, 13), (⟨"Tallow", "settledWith", "(I)LTallow$Table;"⟩, 7), (⟨"java/lang/Throwable", "fillInStackTrace", "(I)Ljava/lang/Throwable;"⟩, 6), (⟨"TallowModel", "start", "(ZI)Z"⟩, 5), (⟨"TallowModel", "refuse", "(ZI)Z"⟩, 5)]
theorem lw_r2 : ∀ q ∈ lw_privs_2, lw_okq q := List.forall_mem_cons.mpr ⟨lw_p16, List.forall_mem_cons.mpr ⟨lw_p17, List.forall_mem_cons.mpr ⟨lw_p18, List.forall_mem_cons.mpr ⟨lw_p19, List.forall_mem_cons.mpr ⟨lw_p20, List.forall_mem_cons.mpr ⟨lw_p21, List.forall_mem_cons.mpr ⟨lw_p22, List.forall_mem_cons.mpr ⟨lw_p23, List.forall_mem_cons.mpr ⟨lw_p24, List.forall_mem_cons.mpr ⟨lw_p25, List.forall_mem_cons.mpr ⟨lw_p26, List.forall_mem_cons.mpr ⟨lw_p27, List.forall_mem_cons.mpr ⟨lw_p28, List.forall_mem_cons.mpr ⟨lw_p29, List.forall_mem_cons.mpr ⟨lw_p30, List.forall_mem_cons.mpr ⟨lw_p31, fun _ h => absurd h List.not_mem_nil⟩⟩⟩⟩⟩⟩⟩⟩⟩⟩⟩⟩⟩⟩⟩⟩
theorem lw_p32 : lw_okq (⟨"java/util/ArrayList", "add", "(Ljava/lang/Object;[Ljava/lang/Object;I)V"⟩, 3) := ⟨⟨by decide +kernel, by decide +kernel⟩, List.mem_of_getElem? (i := 892) (by decide +kernel), List.mem_of_getElem? (i := 984) (by decide +kernel), List.mem_of_getElem? (i := 985) (by decide +kernel)⟩
theorem lw_p33 : lw_okq (⟨"java/util/ArrayList", "grow", "()[Ljava/lang/Object;"⟩, 3) := ⟨⟨by decide +kernel, by decide +kernel⟩, List.mem_of_getElem? (i := 892) (by decide +kernel), List.mem_of_getElem? (i := 988) (by decide +kernel), List.mem_of_getElem? (i := 989) (by decide +kernel)⟩
theorem lw_p34 : lw_okq (⟨"java/util/ArrayList", "grow", "(I)[Ljava/lang/Object;"⟩, 3) := ⟨⟨by decide +kernel, by decide +kernel⟩, List.mem_of_getElem? (i := 892) (by decide +kernel), List.mem_of_getElem? (i := 992) (by decide +kernel), List.mem_of_getElem? (i := 993) (by decide +kernel)⟩
theorem lw_p35 : lw_okq (⟨"TallowModel", "add", "(Ljava/util/ArrayList;)I"⟩, 5) := ⟨⟨by decide +kernel, by decide +kernel⟩, List.mem_of_getElem? (i := 886) (by decide +kernel), List.mem_of_getElem? (i := 1040) (by decide +kernel), List.mem_of_getElem? (i := 1041) (by decide +kernel)⟩
theorem lw_p36 : lw_okq (⟨"TallowModel", "sheet", "()LTallowModel$Sheet;"⟩, 5) := ⟨⟨by decide +kernel, by decide +kernel⟩, List.mem_of_getElem? (i := 886) (by decide +kernel), List.mem_of_getElem? (i := 1102) (by decide +kernel), List.mem_of_getElem? (i := 1103) (by decide +kernel)⟩
theorem lw_p37 : lw_okq (⟨"TallowModel", "parter", "()I"⟩, 5) := ⟨⟨by decide +kernel, by decide +kernel⟩, List.mem_of_getElem? (i := 886) (by decide +kernel), List.mem_of_getElem? (i := 1108) (by decide +kernel), List.mem_of_getElem? (i := 1109) (by decide +kernel)⟩
theorem lw_p38 : lw_okq (⟨"TallowModel", "scoreOf", "(I)I"⟩, 5) := ⟨⟨by decide +kernel, by decide +kernel⟩, List.mem_of_getElem? (i := 886) (by decide +kernel), List.mem_of_getElem? (i := 1112) (by decide +kernel), List.mem_of_getElem? (i := 1113) (by decide +kernel)⟩
theorem lw_p39 : lw_okq (⟨"TallowModel$Reader", "isOver", "()Z"⟩, 3) := ⟨⟨by decide +kernel, by decide +kernel⟩, List.mem_of_getElem? (i := 1116) (by decide +kernel), List.mem_of_getElem? (i := 1138) (by decide +kernel), List.mem_of_getElem? (i := 1139) (by decide +kernel)⟩
theorem lw_p40 : lw_okq (⟨"TallowModel$Reader", "cell", "()LTallowModel$Cell;"⟩, 3) := ⟨⟨by decide +kernel, by decide +kernel⟩, List.mem_of_getElem? (i := 1116) (by decide +kernel), List.mem_of_getElem? (i := 1162) (by decide +kernel), List.mem_of_getElem? (i := 1163) (by decide +kernel)⟩
theorem lw_p41 : lw_okq (⟨"TallowModel$Reader", "quoted", "(Ljava/util/ArrayList;)LTallowModel$Cell;"⟩, 3) := ⟨⟨by decide +kernel, by decide +kernel⟩, List.mem_of_getElem? (i := 1116) (by decide +kernel), List.mem_of_getElem? (i := 1185) (by decide +kernel), List.mem_of_getElem? (i := 1186) (by decide +kernel)⟩
theorem lw_p42 : lw_okq (⟨"TallowModel$Reader", "signs", "(Ljava/util/ArrayList;)[I"⟩, 3) := ⟨⟨by decide +kernel, by decide +kernel⟩, List.mem_of_getElem? (i := 1116) (by decide +kernel), List.mem_of_getElem? (i := 1191) (by decide +kernel), List.mem_of_getElem? (i := 1192) (by decide +kernel)⟩
theorem lw_p43 : lw_okq (⟨"TallowModel$Reader", "isEnd", "()Z"⟩, 3) := ⟨⟨by decide +kernel, by decide +kernel⟩, List.mem_of_getElem? (i := 1116) (by decide +kernel), List.mem_of_getElem? (i := 1219) (by decide +kernel), List.mem_of_getElem? (i := 1220) (by decide +kernel)⟩
theorem lw_p44 : lw_okq (⟨"java/util/ArrayList", "fastRemove", "([Ljava/lang/Object;I)V"⟩, 3) := ⟨⟨by decide +kernel, by decide +kernel⟩, List.mem_of_getElem? (i := 892) (by decide +kernel), List.mem_of_getElem? (i := 1231) (by decide +kernel), List.mem_of_getElem? (i := 1232) (by decide +kernel)⟩
theorem lw_p45 : lw_okq (⟨"TallowModel$Sheet", "decimals", "(I)I"⟩, 10) := ⟨⟨by decide +kernel, by decide +kernel⟩, List.mem_of_getElem? (i := 1106) (by decide +kernel), List.mem_of_getElem? (i := 1268) (by decide +kernel), List.mem_of_getElem? (i := 1269) (by decide +kernel)⟩
theorem lw_p46 : lw_okq (⟨"TallowModel$Cell", "begin", "()I"⟩, 3) := ⟨⟨by decide +kernel, by decide +kernel⟩, List.mem_of_getElem? (i := 1189) (by decide +kernel), List.mem_of_getElem? (i := 1280) (by decide +kernel), List.mem_of_getElem? (i := 1281) (by decide +kernel)⟩
theorem lw_p47 : lw_okq (⟨"TallowModel$Cell", "digits", "(I)I"⟩, 3) := ⟨⟨by decide +kernel, by decide +kernel⟩, List.mem_of_getElem? (i := 1189) (by decide +kernel), List.mem_of_getElem? (i := 1284) (by decide +kernel), List.mem_of_getElem? (i := 1285) (by decide +kernel)⟩
def lw_privs_3 : List (MethodName × Nat) := [(⟨"java/util/ArrayList", "add", "(Ljava/lang/Object;[Ljava/lang/Object;I)V"⟩, 3), (⟨"java/util/ArrayList", "grow", "()[Ljava/lang/Object;"⟩, 3), (⟨"java/util/ArrayList", "grow", "(I)[Ljava/lang/Object;"⟩, 3), (⟨"TallowModel", "add", "(Ljava/util/ArrayList;)I"⟩, 5), (⟨"TallowModel", "sheet", "()LTallowModel$Sheet;"⟩, 5), (⟨"TallowModel", "parter", "()I"⟩, 5), (⟨"TallowModel", "scoreOf", "(I)I"⟩, 5), (⟨"TallowModel$Reader", "isOver", "()Z"⟩, 3), (⟨"TallowModel$Reader", "cell", "()LTallowModel$Cell;"⟩, 3), (⟨"TallowModel$Reader", "quoted", "(Ljava/util/ArrayList;)LTallowModel$Cell;"⟩, 3), (⟨"TallowModel$Reader", "signs", "(Ljava/util/ArrayList;)[I"⟩, 3), (⟨"TallowModel$Reader", "isEnd", "()Z"⟩, 3), (⟨"java/util/ArrayList", "fastRemove", "([Ljava/lang/Object;I)V"⟩, 3), (⟨"TallowModel$Sheet", "decimals", "(I)I"⟩, 10), (⟨"TallowModel$Cell", "begin", "()I"⟩, 3), (⟨"TallowModel$Cell", "digits", "(I)I"⟩, 3)]
theorem lw_r3 : ∀ q ∈ lw_privs_3, lw_okq q := List.forall_mem_cons.mpr ⟨lw_p32, List.forall_mem_cons.mpr ⟨lw_p33, List.forall_mem_cons.mpr ⟨lw_p34, List.forall_mem_cons.mpr ⟨lw_p35, List.forall_mem_cons.mpr ⟨lw_p36, List.forall_mem_cons.mpr ⟨lw_p37, List.forall_mem_cons.mpr ⟨lw_p38, List.forall_mem_cons.mpr ⟨lw_p39, List.forall_mem_cons.mpr ⟨lw_p40, List.forall_mem_cons.mpr ⟨lw_p41, List.forall_mem_cons.mpr ⟨lw_p42, List.forall_mem_cons.mpr ⟨lw_p43, List.forall_mem_cons.mpr ⟨lw_p44, List.forall_mem_cons.mpr ⟨lw_p45, List.forall_mem_cons.mpr ⟨lw_p46, List.forall_mem_cons.mpr ⟨lw_p47, fun _ h => absurd h List.not_mem_nil⟩⟩⟩⟩⟩⟩⟩⟩⟩⟩⟩⟩⟩⟩⟩⟩
theorem lw_p48 : lw_okq (⟨"TallowModel$Cell", "isDigit", "(I)Z"⟩, 3) := ⟨⟨by decide +kernel, by decide +kernel⟩, List.mem_of_getElem? (i := 1189) (by decide +kernel), List.mem_of_getElem? (i := 1288) (by decide +kernel), List.mem_of_getElem? (i := 1289) (by decide +kernel)⟩
theorem lw_p49 : lw_okq (⟨"TallowModel$Cell", "decimals", "(I)I"⟩, 3) := ⟨⟨by decide +kernel, by decide +kernel⟩, List.mem_of_getElem? (i := 1189) (by decide +kernel), List.mem_of_getElem? (i := 1292) (by decide +kernel), List.mem_of_getElem? (i := 1293) (by decide +kernel)⟩
theorem lw_p50 : lw_okq (⟨"TallowModel$Cell", "isAt", "(II)Z"⟩, 3) := ⟨⟨by decide +kernel, by decide +kernel⟩, List.mem_of_getElem? (i := 1189) (by decide +kernel), List.mem_of_getElem? (i := 1296) (by decide +kernel), List.mem_of_getElem? (i := 1297) (by decide +kernel)⟩
theorem lw_p51 : lw_okq (⟨"TallowModel$Cell", "date", "()[I"⟩, 3) := ⟨⟨by decide +kernel, by decide +kernel⟩, List.mem_of_getElem? (i := 1189) (by decide +kernel), List.mem_of_getElem? (i := 1300) (by decide +kernel), List.mem_of_getElem? (i := 1301) (by decide +kernel)⟩
theorem lw_p52 : lw_okq (⟨"TallowModel$Cell", "number", "(II)I"⟩, 3) := ⟨⟨by decide +kernel, by decide +kernel⟩, List.mem_of_getElem? (i := 1189) (by decide +kernel), List.mem_of_getElem? (i := 1304) (by decide +kernel), List.mem_of_getElem? (i := 1305) (by decide +kernel)⟩
theorem lw_p53 : lw_okq (⟨"TallowModel$Sheet", "seemsHeading", "()Z"⟩, 10) := ⟨⟨by decide +kernel, by decide +kernel⟩, List.mem_of_getElem? (i := 1106) (by decide +kernel), List.mem_of_getElem? (i := 1314) (by decide +kernel), List.mem_of_getElem? (i := 1315) (by decide +kernel)⟩
theorem lw_p54 : lw_okq (⟨"TallowModel$Sheet", "look", "(I)V"⟩, 10) := ⟨⟨by decide +kernel, by decide +kernel⟩, List.mem_of_getElem? (i := 1106) (by decide +kernel), List.mem_of_getElem? (i := 1331) (by decide +kernel), List.mem_of_getElem? (i := 1332) (by decide +kernel)⟩
theorem lw_p55 : lw_okq (⟨"TallowModel$Sheet", "faultOf", "(II)I"⟩, 10) := ⟨⟨by decide +kernel, by decide +kernel⟩, List.mem_of_getElem? (i := 1106) (by decide +kernel), List.mem_of_getElem? (i := 1335) (by decide +kernel), List.mem_of_getElem? (i := 1336) (by decide +kernel)⟩
theorem lw_p56 : lw_okq (⟨"TallowModel", "count", "(LTallowModel$Sheet;I)I"⟩, 5) := ⟨⟨by decide +kernel, by decide +kernel⟩, List.mem_of_getElem? (i := 886) (by decide +kernel), List.mem_of_getElem? (i := 1405) (by decide +kernel), List.mem_of_getElem? (i := 1406) (by decide +kernel)⟩
theorem lw_p57 : lw_okq (⟨"TallowModel", "isNoCell", "(LTallowModel$Sheet;II)Z"⟩, 5) := ⟨⟨by decide +kernel, by decide +kernel⟩, List.mem_of_getElem? (i := 886) (by decide +kernel), List.mem_of_getElem? (i := 1422) (by decide +kernel), List.mem_of_getElem? (i := 1423) (by decide +kernel)⟩
theorem lw_p58 : lw_okq (⟨"TallowModel", "isNoColumn", "(LTallowModel$Sheet;I)Z"⟩, 5) := ⟨⟨by decide +kernel, by decide +kernel⟩, List.mem_of_getElem? (i := 886) (by decide +kernel), List.mem_of_getElem? (i := 1446) (by decide +kernel), List.mem_of_getElem? (i := 1447) (by decide +kernel)⟩
def lw_privs_4 : List (MethodName × Nat) := [(⟨"TallowModel$Cell", "isDigit", "(I)Z"⟩, 3), (⟨"TallowModel$Cell", "decimals", "(I)I"⟩, 3), (⟨"TallowModel$Cell", "isAt", "(II)Z"⟩, 3), (⟨"TallowModel$Cell", "date", "()[I"⟩, 3), (⟨"TallowModel$Cell", "number", "(II)I"⟩, 3), (⟨"TallowModel$Sheet", "seemsHeading", "()Z"⟩, 10), (⟨"TallowModel$Sheet", "look", "(I)V"⟩, 10), (⟨"TallowModel$Sheet", "faultOf", "(II)I"⟩, 10), (⟨"TallowModel", "count", "(LTallowModel$Sheet;I)I"⟩, 5), (⟨"TallowModel", "isNoCell", "(LTallowModel$Sheet;II)Z"⟩, 5), (⟨"TallowModel", "isNoColumn", "(LTallowModel$Sheet;I)Z"⟩, 5)]
theorem lw_r4 : ∀ q ∈ lw_privs_4, lw_okq q := List.forall_mem_cons.mpr ⟨lw_p48, List.forall_mem_cons.mpr ⟨lw_p49, List.forall_mem_cons.mpr ⟨lw_p50, List.forall_mem_cons.mpr ⟨lw_p51, List.forall_mem_cons.mpr ⟨lw_p52, List.forall_mem_cons.mpr ⟨lw_p53, List.forall_mem_cons.mpr ⟨lw_p54, List.forall_mem_cons.mpr ⟨lw_p55, List.forall_mem_cons.mpr ⟨lw_p56, List.forall_mem_cons.mpr ⟨lw_p57, List.forall_mem_cons.mpr ⟨lw_p58, fun _ h => absurd h List.not_mem_nil⟩⟩⟩⟩⟩⟩⟩⟩⟩⟩⟩
def lw_privs : List (MethodName × Nat) := lw_privs_1 ++ (lw_privs_2 ++ (lw_privs_3 ++ (lw_privs_4)))
def lw_tbl : List Cond := k2_sels lw_privs ++ tables_1
theorem lw_privs_ok : ∀ q ∈ lw_privs, lw_okq q := by
  show ∀ q ∈ lw_privs_1 ++ (lw_privs_2 ++ (lw_privs_3 ++ (lw_privs_4))), lw_okq q
  exact List.forall_mem_append.mpr ⟨lw_r1, List.forall_mem_append.mpr ⟨lw_r2, List.forall_mem_append.mpr ⟨lw_r3, lw_r4⟩⟩⟩
/-- the streams that the claim lets the run draw from -/
abbrev lw_cs : List Choice := [Jvm.Choice.named "NaN.bits"]
theorem lw_bits : nanBits ∈ lw_cs := by first | decide | exact List.mem_cons_self | simp [lw_cs, nanBits]
-- names: classes
def RX0 : String := "Tallow$Faults"
def RX2 : String := "Tallow$Numbers"
def RX3 : String := "Tallow$Reading"
def RX4 : String := "Tallow$Table"
def RX5 : String := "Tallow$Text"
def RX6 : String := "Tallow$Told"
def RX7 : String := "Tallow"
def RX8 : String := "TallowModel$Cell"
def RX9 : String := "TallowModel$Reader"
def RX10 : String := "TallowModel$Row"
def RX11 : String := "TallowModel$Sheet"
def RX12 : String := "TallowModel"
def RJ6 : String := "java/lang/Integer"
def RJxa1e45 : String := "java/util/AbstractCollection"
def RJxc12de : String := "java/util/AbstractList"
def RJx4a65c : String := "java/util/ArrayList"
def RJ7 : String := "java/util/Arrays"
def RJ8 : String := "jdk/internal/util/ArraysSupport"
def RL : String := "TallowLaw"
def TJ6 : u_T := fun k => match k with
  | _ => ("java/lang/Integer", "value", "I", true)
def tyJ6 : Nat → FieldType := fun k => match k with
  | _ => .int
theorem nmJ6 : ∀ a, a < 1 → ∀ b, b < 1 → a ≠ b → (TJ6 a).2.1 ≠ (TJ6 b).2.1 := by decide +kernel
theorem tyJ6_ok : ∀ k, k < 1 → parseFieldDescriptor (TJ6 k).2.2.1 = some (tyJ6 k) := by decide +kernel
def TJx4a65c : u_T := fun k => match k with
  | 0 => ("java/util/AbstractList", "modCount", "I", false)
  | 1 => ("java/util/ArrayList", "elementData", "[Ljava/lang/Object;", false)
  | _ => ("java/util/ArrayList", "size", "I", false)
def tyJx4a65c : Nat → FieldType := fun k => match k with
  | 0 => .int
  | 1 => .array (.object "java/lang/Object")
  | _ => .int
theorem nmJx4a65c : ∀ a, a < 3 → ∀ b, b < 3 → a ≠ b → (TJx4a65c a).2.1 ≠ (TJx4a65c b).2.1 := by decide +kernel
theorem tyJx4a65c_ok : ∀ k, k < 3 → parseFieldDescriptor (TJx4a65c k).2.2.1 = some (tyJx4a65c k) := by decide +kernel
def TX0 : u_T := fun k => match k with
  | 0 => ("Tallow$Faults", "rows", "LTallow$Numbers;", true)
  | 1 => ("Tallow$Faults", "columns", "LTallow$Numbers;", true)
  | 2 => ("Tallow$Faults", "codes", "LTallow$Numbers;", true)
  | _ => ("Tallow$Faults", "count", "I", false)
def tyX0 : Nat → FieldType := fun k => match k with
  | 0 => .object "Tallow$Numbers"
  | 1 => .object "Tallow$Numbers"
  | 2 => .object "Tallow$Numbers"
  | _ => .int
theorem nmX0 : ∀ a, a < 4 → ∀ b, b < 4 → a ≠ b → (TX0 a).2.1 ≠ (TX0 b).2.1 := by decide +kernel
theorem tyX0_ok : ∀ k, k < 4 → parseFieldDescriptor (TX0 k).2.2.1 = some (tyX0 k) := by decide +kernel
def TX2 : u_T := fun k => match k with
  | _ => ("Tallow$Numbers", "held", "[I", true)
def tyX2 : Nat → FieldType := fun k => match k with
  | _ => .array .int
theorem nmX2 : ∀ a, a < 1 → ∀ b, b < 1 → a ≠ b → (TX2 a).2.1 ≠ (TX2 b).2.1 := by decide +kernel
theorem tyX2_ok : ∀ k, k < 1 → parseFieldDescriptor (TX2 k).2.2.1 = some (tyX2 k) := by decide +kernel
def TX3 : u_T := fun k => match k with
  | 0 => ("Tallow$Reading", "signs", "LTallow$Numbers;", true)
  | 1 => ("Tallow$Reading", "starts", "LTallow$Numbers;", true)
  | 2 => ("Tallow$Reading", "lengths", "LTallow$Numbers;", true)
  | 3 => ("Tallow$Reading", "quoted", "LTallow$Numbers;", true)
  | 4 => ("Tallow$Reading", "cellFaults", "LTallow$Numbers;", true)
  | 5 => ("Tallow$Reading", "firstCells", "LTallow$Numbers;", true)
  | 6 => ("Tallow$Reading", "widths", "LTallow$Numbers;", true)
  | 7 => ("Tallow$Reading", "signCount", "I", false)
  | 8 => ("Tallow$Reading", "cellCount", "I", false)
  | 9 => ("Tallow$Reading", "rowCount", "I", false)
  | 10 => ("Tallow$Reading", "openWidth", "I", false)
  | 11 => ("Tallow$Reading", "openFault", "I", false)
  | 12 => ("Tallow$Reading", "usualWidth", "I", false)
  | _ => ("Tallow$Reading", "usualRows", "I", false)
def tyX3 : Nat → FieldType := fun k => match k with
  | 0 => .object "Tallow$Numbers"
  | 1 => .object "Tallow$Numbers"
  | 2 => .object "Tallow$Numbers"
  | 3 => .object "Tallow$Numbers"
  | 4 => .object "Tallow$Numbers"
  | 5 => .object "Tallow$Numbers"
  | 6 => .object "Tallow$Numbers"
  | 7 => .int
  | 8 => .int
  | 9 => .int
  | 10 => .int
  | 11 => .int
  | 12 => .int
  | _ => .int
theorem nmX3 : ∀ a, a < 14 → ∀ b, b < 14 → a ≠ b → (TX3 a).2.1 ≠ (TX3 b).2.1 := by decide +kernel
theorem tyX3_ok : ∀ k, k < 14 → parseFieldDescriptor (TX3 k).2.2.1 = some (tyX3 k) := by decide +kernel
def TX4 : u_T := fun k => match k with
  | 0 => ("Tallow$Table", "reading", "LTallow$Reading;", true)
  | 1 => ("Tallow$Table", "faults", "LTallow$Faults;", true)
  | 2 => ("Tallow$Table", "keptRows", "LTallow$Numbers;", true)
  | 3 => ("Tallow$Table", "kinds", "LTallow$Numbers;", true)
  | 4 => ("Tallow$Table", "values", "LTallow$Numbers;", true)
  | 5 => ("Tallow$Table", "repeats", "LTallow$Numbers;", true)
  | 6 => ("Tallow$Table", "columnKinds", "LTallow$Numbers;", true)
  | 7 => ("Tallow$Table", "tally", "LTallow$Numbers;", true)
  | 8 => ("Tallow$Table", "parter", "I", true)
  | 9 => ("Tallow$Table", "mark", "I", false)
  | 10 => ("Tallow$Table", "heading", "I", false)
  | 11 => ("Tallow$Table", "keptCount", "I", false)
  | _ => ("Tallow$Table", "settled", "Z", false)
def tyX4 : Nat → FieldType := fun k => match k with
  | 0 => .object "Tallow$Reading"
  | 1 => .object "Tallow$Faults"
  | 2 => .object "Tallow$Numbers"
  | 3 => .object "Tallow$Numbers"
  | 4 => .object "Tallow$Numbers"
  | 5 => .object "Tallow$Numbers"
  | 6 => .object "Tallow$Numbers"
  | 7 => .object "Tallow$Numbers"
  | 8 => .int
  | 9 => .int
  | 10 => .int
  | 11 => .int
  | _ => .boolean
theorem nmX4 : ∀ a, a < 13 → ∀ b, b < 13 → a ≠ b → (TX4 a).2.1 ≠ (TX4 b).2.1 := by decide +kernel
theorem tyX4_ok : ∀ k, k < 13 → parseFieldDescriptor (TX4 k).2.2.1 = some (tyX4 k) := by decide +kernel
def TX5 : u_T := fun k => match k with
  | 0 => ("Tallow$Text", "signs", "LTallow$Numbers;", true)
  | _ => ("Tallow$Text", "count", "I", false)
def tyX5 : Nat → FieldType := fun k => match k with
  | 0 => .object "Tallow$Numbers"
  | _ => .int
theorem nmX5 : ∀ a, a < 2 → ∀ b, b < 2 → a ≠ b → (TX5 a).2.1 ≠ (TX5 b).2.1 := by decide +kernel
theorem tyX5_ok : ∀ k, k < 2 → parseFieldDescriptor (TX5 k).2.2.1 = some (tyX5 k) := by decide +kernel
def TX6 : u_T := fun k => match k with
  | 0 => ("Tallow$Told", "choices", "LTallow$Numbers;", true)
  | 1 => ("Tallow$Told", "rules", "LTallow$Numbers;", true)
  | _ => ("Tallow$Told", "share", "I", false)
def tyX6 : Nat → FieldType := fun k => match k with
  | 0 => .object "Tallow$Numbers"
  | 1 => .object "Tallow$Numbers"
  | _ => .int
theorem nmX6 : ∀ a, a < 3 → ∀ b, b < 3 → a ≠ b → (TX6 a).2.1 ≠ (TX6 b).2.1 := by decide +kernel
theorem tyX6_ok : ∀ k, k < 3 → parseFieldDescriptor (TX6 k).2.2.1 = some (tyX6 k) := by decide +kernel
def TX7 : u_T := fun k => match k with
  | 0 => ("Tallow", "text", "LTallow$Text;", true)
  | 1 => ("Tallow", "told", "LTallow$Told;", true)
  | 2 => ("Tallow", "byComma", "LTallow$Table;", true)
  | 3 => ("Tallow", "bySemicolon", "LTallow$Table;", true)
  | 4 => ("Tallow", "byTab", "LTallow$Table;", true)
  | 5 => ("Tallow", "byBar", "LTallow$Table;", true)
  | _ => ("Tallow", "textIsRead", "Z", false)
def tyX7 : Nat → FieldType := fun k => match k with
  | 0 => .object "Tallow$Text"
  | 1 => .object "Tallow$Told"
  | 2 => .object "Tallow$Table"
  | 3 => .object "Tallow$Table"
  | 4 => .object "Tallow$Table"
  | 5 => .object "Tallow$Table"
  | _ => .boolean
theorem nmX7 : ∀ a, a < 7 → ∀ b, b < 7 → a ≠ b → (TX7 a).2.1 ≠ (TX7 b).2.1 := by decide +kernel
theorem tyX7_ok : ∀ k, k < 7 → parseFieldDescriptor (TX7 k).2.2.1 = some (tyX7 k) := by decide +kernel
def TX8 : u_T := fun k => match k with
  | 0 => ("TallowModel$Cell", "signs", "[I", true)
  | 1 => ("TallowModel$Cell", "isQuoted", "Z", true)
  | _ => ("TallowModel$Cell", "fault", "I", true)
def tyX8 : Nat → FieldType := fun k => match k with
  | 0 => .array .int
  | 1 => .boolean
  | _ => .int
theorem nmX8 : ∀ a, a < 3 → ∀ b, b < 3 → a ≠ b → (TX8 a).2.1 ≠ (TX8 b).2.1 := by decide +kernel
theorem tyX8_ok : ∀ k, k < 3 → parseFieldDescriptor (TX8 k).2.2.1 = some (tyX8 k) := by decide +kernel
def TX9 : u_T := fun k => match k with
  | 0 => ("TallowModel$Reader", "parter", "I", true)
  | 1 => ("TallowModel$Reader", "at", "I", false)
  | _ => ("TallowModel$Reader", "this$0", "LTallowModel;", true)
def tyX9 : Nat → FieldType := fun k => match k with
  | 0 => .int
  | 1 => .int
  | _ => .object "TallowModel"
theorem nmX9 : ∀ a, a < 3 → ∀ b, b < 3 → a ≠ b → (TX9 a).2.1 ≠ (TX9 b).2.1 := by decide +kernel
theorem tyX9_ok : ∀ k, k < 3 → parseFieldDescriptor (TX9 k).2.2.1 = some (tyX9 k) := by decide +kernel
def TX10 : u_T := fun k => match k with
  | 0 => ("TallowModel$Row", "cells", "Ljava/util/ArrayList;", true)
  | _ => ("TallowModel$Row", "width", "I", false)
def tyX10 : Nat → FieldType := fun k => match k with
  | 0 => .object "java/util/ArrayList"
  | _ => .int
theorem nmX10 : ∀ a, a < 2 → ∀ b, b < 2 → a ≠ b → (TX10 a).2.1 ≠ (TX10 b).2.1 := by decide +kernel
theorem tyX10_ok : ∀ k, k < 2 → parseFieldDescriptor (TX10 k).2.2.1 = some (tyX10 k) := by decide +kernel
def TX11 : u_T := fun k => match k with
  | 0 => ("TallowModel$Sheet", "parter", "I", true)
  | 1 => ("TallowModel$Sheet", "rows", "Ljava/util/ArrayList;", true)
  | 2 => ("TallowModel$Sheet", "usual", "I", true)
  | 3 => ("TallowModel$Sheet", "columns", "I", true)
  | 4 => ("TallowModel$Sheet", "mark", "I", true)
  | 5 => ("TallowModel$Sheet", "hasHeading", "Z", true)
  | 6 => ("TallowModel$Sheet", "kinds", "[I", true)
  | 7 => ("TallowModel$Sheet", "faults", "Ljava/util/ArrayList;", true)
  | 8 => ("TallowModel$Sheet", "kept", "Ljava/util/ArrayList;", true)
  | _ => ("TallowModel$Sheet", "this$0", "LTallowModel;", true)
def tyX11 : Nat → FieldType := fun k => match k with
  | 0 => .int
  | 1 => .object "java/util/ArrayList"
  | 2 => .int
  | 3 => .int
  | 4 => .int
  | 5 => .boolean
  | 6 => .array .int
  | 7 => .object "java/util/ArrayList"
  | 8 => .object "java/util/ArrayList"
  | _ => .object "TallowModel"
theorem nmX11 : ∀ a, a < 10 → ∀ b, b < 10 → a ≠ b → (TX11 a).2.1 ≠ (TX11 b).2.1 := by decide +kernel
theorem tyX11_ok : ∀ k, k < 10 → parseFieldDescriptor (TX11 k).2.2.1 = some (tyX11 k) := by decide +kernel
def TX12 : u_T := fun k => match k with
  | 0 => ("TallowModel", "thrown", "I", false)
  | 1 => ("TallowModel", "text", "Ljava/util/ArrayList;", true)
  | 2 => ("TallowModel", "told", "[I", true)
  | 3 => ("TallowModel", "rules", "[I", true)
  | _ => ("TallowModel", "share", "I", false)
def tyX12 : Nat → FieldType := fun k => match k with
  | 0 => .int
  | 1 => .object "java/util/ArrayList"
  | 2 => .array .int
  | 3 => .array .int
  | _ => .int
theorem nmX12 : ∀ a, a < 5 → ∀ b, b < 5 → a ≠ b → (TX12 a).2.1 ≠ (TX12 b).2.1 := by decide +kernel
theorem tyX12_ok : ∀ k, k < 5 → parseFieldDescriptor (TX12 k).2.2.1 = some (tyX12 k) := by decide +kernel
abbrev mCl : List vw_C := [(RJ6, TJ6, 1), (RJx4a65c, TJx4a65c, 3), (RX0, TX0, 4), (RX2, TX2, 1), (RX3, TX3, 14), (RX4, TX4, 13), (RX5, TX5, 2), (RX6, TX6, 3), (RX7, TX7, 7), (RX8, TX8, 3), (RX9, TX9, 3), (RX10, TX10, 2), (RX11, TX11, 10), (RX12, TX12, 5)]
abbrev mFT : List (Nat → FieldType) := [tyJ6, tyJx4a65c, tyX0, tyX2, tyX3, tyX4, tyX5, tyX6, tyX7, tyX8, tyX9, tyX10, tyX11, tyX12]
-- names: methods
abbrev cX0_init : ByteArray := prog_2_method_1_code
def yX0_init : MethodName := ⟨RX0, "<init>", "()V"⟩
abbrev cX2_init : ByteArray := prog_4_method_1_code
def yX2_init : MethodName := ⟨RX2, "<init>", "(I)V"⟩
abbrev cX2_at : ByteArray := prog_4_method_2_code
def yX2_at : MethodName := ⟨RX2, "at", "(I)I"⟩
abbrev cX2_put : ByteArray := prog_4_method_3_code
def yX2_put : MethodName := ⟨RX2, "put", "(II)V"⟩
abbrev cX3_init : ByteArray := prog_5_method_1_code
def yX3_init : MethodName := ⟨RX3, "<init>", "()V"⟩
abbrev cX3_read : ByteArray := prog_5_method_2_code
def yX3_read : MethodName := ⟨RX3, "read", "(LTallow$Text;I)V"⟩
abbrev cX3_isMoreToRead : ByteArray := prog_5_method_3_code
def yX3_isMoreToRead : MethodName := ⟨RX3, "isMoreToRead", "(LTallow$Text;I)Z"⟩
abbrev cX3_findUsualWidth : ByteArray := prog_5_method_10_code
def yX3_findUsualWidth : MethodName := ⟨RX3, "findUsualWidth", "()V"⟩
abbrev cX3_columnCount : ByteArray := prog_5_method_12_code
def yX3_columnCount : MethodName := ⟨RX3, "columnCount", "()I"⟩
abbrev cX3_points : ByteArray := prog_5_method_13_code
def yX3_points : MethodName := ⟨RX3, "points", "()I"⟩
abbrev cX3_cellAt : ByteArray := prog_5_method_15_code
def yX3_cellAt : MethodName := ⟨RX3, "cellAt", "(II)I"⟩
abbrev cX3_quotedCells : ByteArray := prog_5_method_17_code
def yX3_quotedCells : MethodName := ⟨RX3, "quotedCells", "()I"⟩
abbrev cX4_init : ByteArray := prog_6_method_1_code
def yX4_init : MethodName := ⟨RX4, "<init>", "(I)V"⟩
abbrev cX4_settle : ByteArray := prog_6_method_2_code
def yX4_settle : MethodName := ⟨RX4, "settle", "(LTallow$Told;)V"⟩
abbrev cX4_guessedMark : ByteArray := prog_6_method_3_code
def yX4_guessedMark : MethodName := ⟨RX4, "guessedMark", "()I"⟩
abbrev cX4_guessedHeading : ByteArray := prog_6_method_5_code
def yX4_guessedHeading : MethodName := ⟨RX4, "guessedHeading", "(I)I"⟩
abbrev cX4_hasColumn : ByteArray := prog_6_method_16_code
def yX4_hasColumn : MethodName := ⟨RX4, "hasColumn", "(I)Z"⟩
abbrev cX4_hasKept : ByteArray := prog_6_method_17_code
def yX4_hasKept : MethodName := ⟨RX4, "hasKept", "(I)Z"⟩
abbrev cX4_choice : ByteArray := prog_6_method_18_code
def yX4_choice : MethodName := ⟨RX4, "choice", "(I)I"⟩
abbrev cX4_howMany : ByteArray := prog_6_method_19_code
def yX4_howMany : MethodName := ⟨RX4, "howMany", "(I)I"⟩
abbrev cX5_init : ByteArray := prog_7_method_1_code
def yX5_init : MethodName := ⟨RX5, "<init>", "()V"⟩
abbrev cX5_hasRoomFor : ByteArray := prog_7_method_2_code
def yX5_hasRoomFor : MethodName := ⟨RX5, "hasRoomFor", "(I)Z"⟩
abbrev cX5_write : ByteArray := prog_7_method_3_code
def yX5_write : MethodName := ⟨RX5, "write", "(I)V"⟩
abbrev cX5_writeNumber : ByteArray := prog_7_method_4_code
def yX5_writeNumber : MethodName := ⟨RX5, "writeNumber", "(I)V"⟩
abbrev cX5_digitsOf : ByteArray := prog_7_method_5_code
def yX5_digitsOf : MethodName := ⟨RX5, "digitsOf", "(I)I"⟩
abbrev cX6_init : ByteArray := prog_8_method_1_code
def yX6_init : MethodName := ⟨RX6, "<init>", "()V"⟩
abbrev cX7_init : ByteArray := prog_1_method_1_code
def yX7_init : MethodName := ⟨RX7, "<init>", "()V"⟩
abbrev cX7_sign : ByteArray := prog_1_method_2_code
def yX7_sign : MethodName := ⟨RX7, "sign", "(I)I"⟩
abbrev cX7_digits : ByteArray := prog_1_method_3_code
def yX7_digits : MethodName := ⟨RX7, "digits", "(I)I"⟩
abbrev cX7_letters : ByteArray := prog_1_method_4_code
def yX7_letters : MethodName := ⟨RX7, "letters", "(II)I"⟩
abbrev cX7_three : ByteArray := prog_1_method_5_code
def yX7_three : MethodName := ⟨RX7, "three", "(IIII)I"⟩
abbrev cX7_clear : ByteArray := prog_1_method_6_code
def yX7_clear : MethodName := ⟨RX7, "clear", "()I"⟩
abbrev cX7_tell : ByteArray := prog_1_method_7_code
def yX7_tell : MethodName := ⟨RX7, "tell", "(II)I"⟩
abbrev cX7_setShare : ByteArray := prog_1_method_8_code
def yX7_setShare : MethodName := ⟨RX7, "setShare", "(I)I"⟩
abbrev cX7_setRule : ByteArray := prog_1_method_9_code
def yX7_setRule : MethodName := ⟨RX7, "setRule", "(II)I"⟩
abbrev cX7_used : ByteArray := prog_1_method_10_code
def yX7_used : MethodName := ⟨RX7, "used", "(I)I"⟩
abbrev cX7_score : ByteArray := prog_1_method_11_code
def yX7_score : MethodName := ⟨RX7, "score", "(I)I"⟩
abbrev cX7_many : ByteArray := prog_1_method_12_code
def yX7_many : MethodName := ⟨RX7, "many", "(I)I"⟩
abbrev cX7_width : ByteArray := prog_1_method_13_code
def yX7_width : MethodName := ⟨RX7, "width", "(I)I"⟩
abbrev cX7_cell : ByteArray := prog_1_method_14_code
def yX7_cell : MethodName := ⟨RX7, "cell", "(III)I"⟩
abbrev cX7_signAt : ByteArray := prog_1_method_15_code
def yX7_signAt : MethodName := ⟨RX7, "signAt", "(III)I"⟩
abbrev cX7_column : ByteArray := prog_1_method_16_code
def yX7_column : MethodName := ⟨RX7, "column", "(II)I"⟩
abbrev cX7_extreme : ByteArray := prog_1_method_17_code
def yX7_extreme : MethodName := ⟨RX7, "extreme", "(II)I"⟩
abbrev cX7_sum : ByteArray := prog_1_method_18_code
def yX7_sum : MethodName := ⟨RX7, "sum", "(I)J"⟩
abbrev cX7_mean : ByteArray := prog_1_method_19_code
def yX7_mean : MethodName := ⟨RX7, "mean", "(I)D"⟩
abbrev cX7_fault : ByteArray := prog_1_method_20_code
def yX7_fault : MethodName := ⟨RX7, "fault", "(II)I"⟩
abbrev cX7_kept : ByteArray := prog_1_method_21_code
def yX7_kept : MethodName := ⟨RX7, "kept", "(I)I"⟩
abbrev cX7_value : ByteArray := prog_1_method_22_code
def yX7_value : MethodName := ⟨RX7, "value", "(II)I"⟩
abbrev cX7_find : ByteArray := prog_1_method_23_code
def yX7_find : MethodName := ⟨RX7, "find", "(II)I"⟩
abbrev cX7_keptWith : ByteArray := prog_1_method_24_code
def yX7_keptWith : MethodName := ⟨RX7, "keptWith", "(I)I"⟩
abbrev cX7_kindWith : ByteArray := prog_1_method_25_code
def yX7_kindWith : MethodName := ⟨RX7, "kindWith", "(II)I"⟩
abbrev cX7_digest : ByteArray := prog_1_method_26_code
def yX7_digest : MethodName := ⟨RX7, "digest", "()J"⟩
abbrev cX7_withRows : ByteArray := prog_1_method_27_code
def yX7_withRows : MethodName := ⟨RX7, "withRows", "(JLTallow$Table;)J"⟩
abbrev cX7_withColumns : ByteArray := prog_1_method_28_code
def yX7_withColumns : MethodName := ⟨RX7, "withColumns", "(JLTallow$Table;)J"⟩
abbrev cX7_withFaultsAndKept : ByteArray := prog_1_method_29_code
def yX7_withFaultsAndKept : MethodName := ⟨RX7, "withFaultsAndKept", "(JLTallow$Table;)J"⟩
abbrev cX7_mixed : ByteArray := prog_1_method_30_code
def yX7_mixed : MethodName := ⟨RX7, "mixed", "(JJ)J"⟩
abbrev cX7_isSign : ByteArray := prog_1_method_31_code
def yX7_isSign : MethodName := ⟨RX7, "isSign", "(I)Z"⟩
abbrev cX7_isParter : ByteArray := prog_1_method_32_code
def yX7_isParter : MethodName := ⟨RX7, "isParter", "(I)Z"⟩
abbrev cX7_isShare : ByteArray := prog_1_method_33_code
def yX7_isShare : MethodName := ⟨RX7, "isShare", "(I)Z"⟩
abbrev cX7_tableNow : ByteArray := prog_1_method_34_code
def yX7_tableNow : MethodName := ⟨RX7, "tableNow", "()LTallow$Table;"⟩
abbrev cX7_settledWith : ByteArray := prog_1_method_35_code
def yX7_settledWith : MethodName := ⟨RX7, "settledWith", "(I)LTallow$Table;"⟩
abbrev cX7_tableWith : ByteArray := prog_1_method_36_code
def yX7_tableWith : MethodName := ⟨RX7, "tableWith", "(I)LTallow$Table;"⟩
abbrev cX7_readText : ByteArray := prog_1_method_37_code
def yX7_readText : MethodName := ⟨RX7, "readText", "()V"⟩
abbrev cX7_unsettleAll : ByteArray := prog_1_method_38_code
def yX7_unsettleAll : MethodName := ⟨RX7, "unsettleAll", "()V"⟩
abbrev cX7_guessedParter : ByteArray := prog_1_method_39_code
def yX7_guessedParter : MethodName := ⟨RX7, "guessedParter", "()I"⟩
abbrev cX9_init : ByteArray := prog_12_method_1_code
def yX9_init : MethodName := ⟨RX9, "<init>", "(LTallowModel;I)V"⟩
abbrev cX9_isOver : ByteArray := prog_12_method_2_code
def yX9_isOver : MethodName := ⟨RX9, "isOver", "()Z"⟩
abbrev cX9_rows : ByteArray := prog_12_method_7_code
def yX9_rows : MethodName := ⟨RX9, "rows", "()Ljava/util/ArrayList;"⟩
abbrev cX11_init : ByteArray := prog_14_method_1_code
def yX11_init : MethodName := ⟨RX11, "<init>", "(LTallowModel;I)V"⟩
abbrev cX11_first : ByteArray := prog_14_method_2_code
def yX11_first : MethodName := ⟨RX11, "first", "()I"⟩
abbrev cX11_decimals : ByteArray := prog_14_method_3_code
def yX11_decimals : MethodName := ⟨RX11, "decimals", "(I)I"⟩
abbrev cX11_seemsHeading : ByteArray := prog_14_method_6_code
def yX11_seemsHeading : MethodName := ⟨RX11, "seemsHeading", "()Z"⟩
abbrev cX11_quoted : ByteArray := prog_14_method_15_code
def yX11_quoted : MethodName := ⟨RX11, "quoted", "()I"⟩
abbrev cX12_init : ByteArray := prog_10_method_1_code
def yX12_init : MethodName := ⟨RX12, "<init>", "()V"⟩
abbrev cX12_thrown : ByteArray := prog_10_method_2_code
def yX12_thrown : MethodName := ⟨RX12, "thrown", "()I"⟩
abbrev cX12_isIn : ByteArray := prog_10_method_3_code
def yX12_isIn : MethodName := ⟨RX12, "isIn", "(III)Z"⟩
abbrev cX12_refuse : ByteArray := prog_10_method_4_code
def yX12_refuse : MethodName := ⟨RX12, "refuse", "(ZI)Z"⟩
abbrev cX12_start : ByteArray := prog_10_method_5_code
def yX12_start : MethodName := ⟨RX12, "start", "(ZI)Z"⟩
abbrev cX12_usual : ByteArray := prog_10_method_6_code
def yX12_usual : MethodName := ⟨RX12, "usual", "(Ljava/util/ArrayList;)I"⟩
abbrev cX12_scoreOf : ByteArray := prog_10_method_8_code
def yX12_scoreOf : MethodName := ⟨RX12, "scoreOf", "(I)I"⟩
abbrev cX12_parter : ByteArray := prog_10_method_9_code
def yX12_parter : MethodName := ⟨RX12, "parter", "()I"⟩
abbrev cX12_sheet : ByteArray := prog_10_method_10_code
def yX12_sheet : MethodName := ⟨RX12, "sheet", "()LTallowModel$Sheet;"⟩
abbrev cX12_add : ByteArray := prog_10_method_11_code
def yX12_add : MethodName := ⟨RX12, "add", "(Ljava/util/ArrayList;)I"⟩
abbrev cX12_isNoSign : ByteArray := prog_10_method_12_code
def yX12_isNoSign : MethodName := ⟨RX12, "isNoSign", "(I)Z"⟩
abbrev cX12_digits : ByteArray := prog_10_method_13_code
def yX12_digits : MethodName := ⟨RX12, "digits", "(Ljava/util/ArrayList;I)V"⟩
abbrev cX12_sign : ByteArray := prog_10_method_14_code
def yX12_sign : MethodName := ⟨RX12, "sign", "(I)I"⟩
abbrev cX12_digits_ : ByteArray := prog_10_method_15_code
def yX12_digits_ : MethodName := ⟨RX12, "digits", "(I)I"⟩
abbrev cX12_letters : ByteArray := prog_10_method_16_code
def yX12_letters : MethodName := ⟨RX12, "letters", "(II)I"⟩
abbrev cX12_three : ByteArray := prog_10_method_17_code
def yX12_three : MethodName := ⟨RX12, "three", "(IIII)I"⟩
abbrev cX12_clear : ByteArray := prog_10_method_18_code
def yX12_clear : MethodName := ⟨RX12, "clear", "()I"⟩
abbrev cX12_tell : ByteArray := prog_10_method_19_code
def yX12_tell : MethodName := ⟨RX12, "tell", "(II)I"⟩
abbrev cX12_setShare : ByteArray := prog_10_method_20_code
def yX12_setShare : MethodName := ⟨RX12, "setShare", "(I)I"⟩
abbrev cX12_setRule : ByteArray := prog_10_method_21_code
def yX12_setRule : MethodName := ⟨RX12, "setRule", "(II)I"⟩
abbrev cX12_usedBy : ByteArray := prog_10_method_22_code
def yX12_usedBy : MethodName := ⟨RX12, "usedBy", "(LTallowModel$Sheet;I)I"⟩
abbrev cX12_used : ByteArray := prog_10_method_23_code
def yX12_used : MethodName := ⟨RX12, "used", "(I)I"⟩
abbrev cX12_score : ByteArray := prog_10_method_24_code
def yX12_score : MethodName := ⟨RX12, "score", "(I)I"⟩
abbrev cX12_count : ByteArray := prog_10_method_25_code
def yX12_count : MethodName := ⟨RX12, "count", "(LTallowModel$Sheet;I)I"⟩
abbrev cX12_many : ByteArray := prog_10_method_26_code
def yX12_many : MethodName := ⟨RX12, "many", "(I)I"⟩
abbrev cX12_width : ByteArray := prog_10_method_27_code
def yX12_width : MethodName := ⟨RX12, "width", "(I)I"⟩
abbrev cX12_isNoCell : ByteArray := prog_10_method_29_code
def yX12_isNoCell : MethodName := ⟨RX12, "isNoCell", "(LTallowModel$Sheet;II)Z"⟩
abbrev cX12_cell : ByteArray := prog_10_method_30_code
def yX12_cell : MethodName := ⟨RX12, "cell", "(III)I"⟩
abbrev cX12_signAt : ByteArray := prog_10_method_31_code
def yX12_signAt : MethodName := ⟨RX12, "signAt", "(III)I"⟩
abbrev cX12_isNoColumn : ByteArray := prog_10_method_32_code
def yX12_isNoColumn : MethodName := ⟨RX12, "isNoColumn", "(LTallowModel$Sheet;I)Z"⟩
abbrev cX12_column : ByteArray := prog_10_method_33_code
def yX12_column : MethodName := ⟨RX12, "column", "(II)I"⟩
abbrev cX12_extreme : ByteArray := prog_10_method_34_code
def yX12_extreme : MethodName := ⟨RX12, "extreme", "(II)I"⟩
abbrev cX12_sum : ByteArray := prog_10_method_35_code
def yX12_sum : MethodName := ⟨RX12, "sum", "(I)J"⟩
abbrev cX12_mean : ByteArray := prog_10_method_36_code
def yX12_mean : MethodName := ⟨RX12, "mean", "(I)D"⟩
abbrev cX12_fault : ByteArray := prog_10_method_37_code
def yX12_fault : MethodName := ⟨RX12, "fault", "(II)I"⟩
abbrev cX12_kept : ByteArray := prog_10_method_38_code
def yX12_kept : MethodName := ⟨RX12, "kept", "(I)I"⟩
abbrev cX12_value : ByteArray := prog_10_method_39_code
def yX12_value : MethodName := ⟨RX12, "value", "(II)I"⟩
abbrev cX12_find : ByteArray := prog_10_method_40_code
def yX12_find : MethodName := ⟨RX12, "find", "(II)I"⟩
abbrev cX12_keptWith : ByteArray := prog_10_method_41_code
def yX12_keptWith : MethodName := ⟨RX12, "keptWith", "(I)I"⟩
abbrev cX12_kindWith : ByteArray := prog_10_method_42_code
def yX12_kindWith : MethodName := ⟨RX12, "kindWith", "(II)I"⟩
abbrev cX12_add_ : ByteArray := prog_10_method_43_code
def yX12_add_ : MethodName := ⟨RX12, "add", "(JJ)J"⟩
abbrev cX12_digest : ByteArray := prog_10_method_44_code
def yX12_digest : MethodName := ⟨RX12, "digest", "()J"⟩
abbrev cJ6_valueOf_2dffe : ByteArray := prog_22_method_22_code
def yJ6_valueOf_2dffe : MethodName := ⟨RJ6, "valueOf", "(I)Ljava/lang/Integer;"⟩
abbrev cJxa1e45_init_da8c8 : ByteArray := prog_33_method_1_code
def yJxa1e45_init_da8c8 : MethodName := ⟨RJxa1e45, "<init>", "()V"⟩
abbrev cJxc12de_init_da8c8 : ByteArray := prog_34_method_1_code
def yJxc12de_init_da8c8 : MethodName := ⟨RJxc12de, "<init>", "()V"⟩
abbrev cJx4a65c_init_da8c8 : ByteArray := prog_35_method_2_code
def yJx4a65c_init_da8c8 : MethodName := ⟨RJx4a65c, "<init>", "()V"⟩
abbrev cJx4a65c_grow_92f84 : ByteArray := prog_35_method_6_code
def yJx4a65c_grow_92f84 : MethodName := ⟨RJx4a65c, "grow", "(I)[Ljava/lang/Object;"⟩
abbrev cJx4a65c_grow_d5877 : ByteArray := prog_35_method_7_code
def yJx4a65c_grow_d5877 : MethodName := ⟨RJx4a65c, "grow", "()[Ljava/lang/Object;"⟩
abbrev cJx4a65c_size_8abf5 : ByteArray := prog_35_method_8_code
def yJx4a65c_size_8abf5 : MethodName := ⟨RJx4a65c, "size", "()I"⟩
abbrev cJx4a65c_toArray_d5877 : ByteArray := prog_35_method_16_code
def yJx4a65c_toArray_d5877 : MethodName := ⟨RJx4a65c, "toArray", "()[Ljava/lang/Object;"⟩
abbrev cJx4a65c_add_72be8 : ByteArray := prog_35_method_24_code
def yJx4a65c_add_72be8 : MethodName := ⟨RJx4a65c, "add", "(Ljava/lang/Object;[Ljava/lang/Object;I)V"⟩
abbrev cJx4a65c_add_9ea2d : ByteArray := prog_35_method_25_code
def yJx4a65c_add_9ea2d : MethodName := ⟨RJx4a65c, "add", "(Ljava/lang/Object;)Z"⟩
abbrev cJx4a65c_clear_da8c8 : ByteArray := prog_35_method_40_code
def yJx4a65c_clear_da8c8 : MethodName := ⟨RJx4a65c, "clear", "()V"⟩
abbrev cJx4a65c_addAll_f0b43 : ByteArray := prog_35_method_41_code
def yJx4a65c_addAll_f0b43 : MethodName := ⟨RJx4a65c, "addAll", "(Ljava/util/Collection;)Z"⟩
abbrev cJ7_copyOf_1904c : ByteArray := prog_36_method_119_code
def yJ7_copyOf_1904c : MethodName := ⟨RJ7, "copyOf", "([Ljava/lang/Object;I)[Ljava/lang/Object;"⟩
abbrev cJ7_copyOf_6403c : ByteArray := prog_36_method_120_code
def yJ7_copyOf_6403c : MethodName := ⟨RJ7, "copyOf", "([Ljava/lang/Object;ILjava/lang/Class;)[Ljava/lang/Object;"⟩
abbrev cJ8_newLength_cabcc : ByteArray := prog_42_method_27_code
def yJ8_newLength_cabcc : MethodName := ⟨RJ8, "newLength", "(III)I"⟩
abbrev cL_sign : ByteArray := method_3_code
def yL_sign : MethodName := ⟨RL, "sign", "(LTallow;I[J)I"⟩
abbrev cL_digits : ByteArray := method_4_code
def yL_digits : MethodName := ⟨RL, "digits", "(LTallow;I[J)I"⟩
abbrev cL_letters : ByteArray := method_5_code
def yL_letters : MethodName := ⟨RL, "letters", "(LTallow;II[J)I"⟩
abbrev cL_three : ByteArray := method_6_code
def yL_three : MethodName := ⟨RL, "three", "(LTallow;IIII[J)I"⟩
abbrev cL_tell : ByteArray := method_7_code
def yL_tell : MethodName := ⟨RL, "tell", "(LTallow;II[J)I"⟩
abbrev cL_setShare : ByteArray := method_8_code
def yL_setShare : MethodName := ⟨RL, "setShare", "(LTallow;I[J)I"⟩
abbrev cL_setRule : ByteArray := method_9_code
def yL_setRule : MethodName := ⟨RL, "setRule", "(LTallow;II[J)I"⟩
abbrev cL_used : ByteArray := method_10_code
def yL_used : MethodName := ⟨RL, "used", "(LTallow;I[J)I"⟩
abbrev cL_score : ByteArray := method_11_code
def yL_score : MethodName := ⟨RL, "score", "(LTallow;I[J)I"⟩
abbrev cL_many : ByteArray := method_12_code
def yL_many : MethodName := ⟨RL, "many", "(LTallow;I[J)I"⟩
abbrev cL_width : ByteArray := method_13_code
def yL_width : MethodName := ⟨RL, "width", "(LTallow;I[J)I"⟩
abbrev cL_cell : ByteArray := method_14_code
def yL_cell : MethodName := ⟨RL, "cell", "(LTallow;III[J)I"⟩
abbrev cL_signAt : ByteArray := method_15_code
def yL_signAt : MethodName := ⟨RL, "signAt", "(LTallow;III[J)I"⟩
abbrev cL_column : ByteArray := method_16_code
def yL_column : MethodName := ⟨RL, "column", "(LTallow;II[J)I"⟩
abbrev cL_extreme : ByteArray := method_17_code
def yL_extreme : MethodName := ⟨RL, "extreme", "(LTallow;II[J)I"⟩
abbrev cL_sum : ByteArray := method_18_code
def yL_sum : MethodName := ⟨RL, "sum", "(LTallow;I[J)I"⟩
abbrev cL_mean : ByteArray := method_19_code
def yL_mean : MethodName := ⟨RL, "mean", "(LTallow;I[D)I"⟩
abbrev cL_fault : ByteArray := method_20_code
def yL_fault : MethodName := ⟨RL, "fault", "(LTallow;II[J)I"⟩
abbrev cL_kept : ByteArray := method_21_code
def yL_kept : MethodName := ⟨RL, "kept", "(LTallow;I[J)I"⟩
abbrev cL_value : ByteArray := method_22_code
def yL_value : MethodName := ⟨RL, "value", "(LTallow;II[J)I"⟩
abbrev cL_find : ByteArray := method_23_code
def yL_find : MethodName := ⟨RL, "find", "(LTallow;II[J)I"⟩
abbrev cL_keptWith : ByteArray := method_24_code
def yL_keptWith : MethodName := ⟨RL, "keptWith", "(LTallow;I[J)I"⟩
abbrev cL_kindWith : ByteArray := method_25_code
def yL_kindWith : MethodName := ⟨RL, "kindWith", "(LTallow;II[J)I"⟩
abbrev cL_law : ByteArray := code
def yL_law : MethodName := ⟨RL, "law", "([I)Z"⟩
def mC0 : List (Nat × Instr × Nat × Nat × Nat × Nat) := [(0, .aload_n 0, 0, 0, 0, 0), (1, .invokespecial 3, 0, 998, 0, 229), (4, .aload_n 0, 0, 0, 0, 0), (5, .new 9, 0, 3, 0, 230), (8, .dup, 0, 0, 0, 0), (9, .sipush 561, 0, 0, 0, 0), (12, .invokespecial 11, 0, 1, 1, 231), (15, .putfield 14, 0, 2, 0, 232), (18, .aload_n 0, 0, 0, 0, 0), (19, .new 9, 0, 3, 0, 230), (22, .dup, 0, 0, 0, 0), (23, .sipush 561, 0, 0, 0, 0), (26, .invokespecial 11, 0, 1, 1, 231), (29, .putfield 20, 0, 2, 1, 233), (32, .aload_n 0, 0, 0, 0, 0), (33, .new 9, 0, 3, 0, 230), (36, .dup, 0, 0, 0, 0), (37, .sipush 561, 0, 0, 0, 0), (40, .invokespecial 11, 0, 1, 1, 231), (43, .putfield 23, 0, 2, 2, 234), (46, .aload_n 0, 0, 0, 0, 0), (47, .iconst 0, 0, 0, 0, 0), (48, .putfield 26, 0, 2, 3, 235), (51, .return_, 0, 0, 0, 0)]
def mC1 : List (Nat × Instr × Nat × Nat × Nat × Nat) := [(0, .aload_n 0, 0, 0, 0, 0), (1, .invokespecial 1, 0, 998, 0, 110), (4, .aload_n 0, 0, 0, 0, 0), (5, .iload_n 1, 0, 0, 0, 0), (6, .ifCond .ge 7, 0, 0, 0, 0), (9, .iconst 0, 0, 0, 0, 0), (10, .goto 4, 0, 0, 0, 0), (13, .iload_n 1, 0, 0, 0, 0), (14, .newarray .int, 0, 0, 0, 0), (16, .putfield 7, 0, 3, 0, 111), (19, .return_, 0, 0, 0, 0)]
def mC2 : List (Nat × Instr × Nat × Nat × Nat × Nat) := [(0, .iload_n 1, 0, 0, 0, 0), (1, .ifCond .lt 21, 0, 0, 0, 0), (4, .iload_n 1, 0, 0, 0, 0), (5, .aload_n 0, 0, 0, 0, 0), (6, .getfield 7, 0, 3, 0, 111), (9, .arraylength, 0, 0, 0, 0), (10, .if_icmp .ge 12, 0, 0, 0, 0), (13, .aload_n 0, 0, 0, 0, 0), (14, .getfield 7, 0, 3, 0, 111), (17, .iload_n 1, 0, 0, 0, 0), (18, .iaload, 0, 0, 0, 0), (19, .goto 4, 0, 0, 0, 0), (22, .iconst 0, 0, 0, 0, 0), (23, .ireturn, 0, 0, 0, 0)]
def mC3 : List (Nat × Instr × Nat × Nat × Nat × Nat) := [(0, .iload_n 1, 0, 0, 0, 0), (1, .ifCond .lt 19, 0, 0, 0, 0), (4, .iload_n 1, 0, 0, 0, 0), (5, .aload_n 0, 0, 0, 0, 0), (6, .getfield 7, 0, 3, 0, 111), (9, .arraylength, 0, 0, 0, 0), (10, .if_icmp .ge 10, 0, 0, 0, 0), (13, .aload_n 0, 0, 0, 0, 0), (14, .getfield 7, 0, 3, 0, 111), (17, .iload_n 1, 0, 0, 0, 0), (18, .iload_n 2, 0, 0, 0, 0), (19, .iastore, 0, 0, 0, 0), (20, .return_, 0, 0, 0, 0)]
def mC4 : List (Nat × Instr × Nat × Nat × Nat × Nat) := [(0, .aload_n 0, 0, 0, 0, 0), (1, .invokespecial 3, 0, 998, 0, 164), (4, .aload_n 0, 0, 0, 0, 0), (5, .new 9, 0, 3, 0, 165), (8, .dup, 0, 0, 0, 0), (9, .sipush 500, 0, 0, 0, 0), (12, .invokespecial 11, 0, 1, 1, 166), (15, .putfield 14, 0, 4, 0, 167), (18, .aload_n 0, 0, 0, 0, 0), (19, .new 9, 0, 3, 0, 165), (22, .dup, 0, 0, 0, 0), (23, .sipush 501, 0, 0, 0, 0), (26, .invokespecial 11, 0, 1, 1, 166), (29, .putfield 20, 0, 4, 1, 170), (32, .aload_n 0, 0, 0, 0, 0), (33, .new 9, 0, 3, 0, 165), (36, .dup, 0, 0, 0, 0), (37, .sipush 501, 0, 0, 0, 0), (40, .invokespecial 11, 0, 1, 1, 166), (43, .putfield 23, 0, 4, 2, 173), (46, .aload_n 0, 0, 0, 0, 0), (47, .new 9, 0, 3, 0, 165), (50, .dup, 0, 0, 0, 0), (51, .sipush 501, 0, 0, 0, 0), (54, .invokespecial 11, 0, 1, 1, 166), (57, .putfield 26, 0, 4, 3, 176), (60, .aload_n 0, 0, 0, 0, 0), (61, .new 9, 0, 3, 0, 165), (64, .dup, 0, 0, 0, 0), (65, .sipush 501, 0, 0, 0, 0), (68, .invokespecial 11, 0, 1, 1, 166), (71, .putfield 29, 0, 4, 4, 178), (74, .aload_n 0, 0, 0, 0, 0), (75, .new 9, 0, 3, 0, 165), (78, .dup, 0, 0, 0, 0), (79, .bipush 60, 0, 0, 0, 0), (81, .invokespecial 11, 0, 1, 1, 166), (84, .putfield 32, 0, 4, 5, 180), (87, .aload_n 0, 0, 0, 0, 0), (88, .new 9, 0, 3, 0, 165), (91, .dup, 0, 0, 0, 0), (92, .bipush 60, 0, 0, 0, 0), (94, .invokespecial 11, 0, 1, 1, 166), (97, .putfield 35, 0, 4, 6, 181), (100, .aload_n 0, 0, 0, 0, 0), (101, .iconst 0, 0, 0, 0, 0), (102, .putfield 38, 0, 4, 7, 184), (105, .aload_n 0, 0, 0, 0, 0), (106, .iconst 0, 0, 0, 0, 0), (107, .putfield 42, 0, 4, 8, 185), (110, .aload_n 0, 0, 0, 0, 0), (111, .iconst 0, 0, 0, 0, 0), (112, .putfield 45, 0, 4, 9, 187), (115, .aload_n 0, 0, 0, 0, 0), (116, .iconst 0, 0, 0, 0, 0), (117, .putfield 48, 0, 4, 10, 190), (120, .aload_n 0, 0, 0, 0, 0), (121, .iconst 0, 0, 0, 0, 0), (122, .putfield 51, 0, 4, 11, 191), (125, .aload_n 0, 0, 0, 0, 0), (126, .iconst 0, 0, 0, 0, 0), (127, .putfield 54, 0, 4, 12, 192), (130, .aload_n 0, 0, 0, 0, 0), (131, .iconst 0, 0, 0, 0, 0), (132, .putfield 57, 0, 4, 13, 194), (135, .return_, 0, 0, 0, 0)]
def mC5 : List (Nat × Instr × Nat × Nat × Nat × Nat) := [(0, .aload_n 0, 0, 0, 0, 0), (1, .iconst 0, 0, 0, 0, 0), (2, .putfield 38, 0, 4, 7, 184), (5, .aload_n 0, 0, 0, 0, 0), (6, .iconst 0, 0, 0, 0, 0), (7, .putfield 42, 0, 4, 8, 185), (10, .aload_n 0, 0, 0, 0, 0), (11, .iconst 0, 0, 0, 0, 0), (12, .putfield 45, 0, 4, 9, 187), (15, .aload_n 0, 0, 0, 0, 0), (16, .iconst 0, 0, 0, 0, 0), (17, .putfield 48, 0, 4, 10, 190), (20, .iconst 0, 0, 0, 0, 0), (21, .istore_n 3, 0, 0, 0, 0), (22, .iconst 0, 0, 0, 0, 0), (23, .istore 4, 0, 0, 0, 0), (25, .iload 4, 0, 0, 0, 0), (27, .sipush 501, 0, 0, 0, 0), (30, .if_icmp .ge 111, 0, 0, 0, 0), (33, .aload_n 0, 0, 0, 0, 0), (34, .aload_n 1, 0, 0, 0, 0), (35, .iload_n 3, 0, 0, 0, 0), (36, .invokevirtual 60, 0, 6, 2, 337), (39, .ifCond .eq 102, 0, 0, 0, 0), (42, .aload_n 0, 0, 0, 0, 0), (43, .getfield 38, 0, 4, 7, 184), (46, .istore 5, 0, 0, 0, 0), (48, .iload_n 3, 0, 0, 0, 0), (49, .aload_n 1, 0, 0, 0, 0), (50, .getfield 64, 0, 6, 1, 119), (53, .if_icmp .ge 19, 0, 0, 0, 0), (56, .aload_n 1, 0, 0, 0, 0), (57, .getfield 69, 0, 6, 0, 117), (60, .iload_n 3, 0, 0, 0, 0), (61, .invokevirtual 70, 0, 2, 1, 341), (64, .iconst 4, 0, 0, 0, 0), (65, .if_icmp .ne 7, 0, 0, 0, 0), (68, .iconst 1, 0, 0, 0, 0), (69, .goto 4, 0, 0, 0, 0), (72, .iconst 0, 0, 0, 0, 0), (73, .istore 6, 0, 0, 0, 0), (75, .iload 6, 0, 0, 0, 0), (77, .ifCond .eq 15, 0, 0, 0, 0), (80, .aload_n 0, 0, 0, 0, 0), (81, .aload_n 1, 0, 0, 0, 0), (82, .iload_n 2, 0, 0, 0, 0), (83, .iload_n 3, 0, 0, 0, 0), (84, .iconst 1, 0, 0, 0, 0), (85, .iadd, 0, 0, 0, 0), (86, .invokevirtual 74, 0, 999, 0, 0), (89, .goto 10, 0, 0, 0, 0), (92, .aload_n 0, 0, 0, 0, 0), (93, .aload_n 1, 0, 0, 0, 0), (94, .iload_n 2, 0, 0, 0, 0), (95, .iload_n 3, 0, 0, 0, 0), (96, .invokevirtual 78, 0, 999, 0, 0), (99, .istore_n 3, 0, 0, 0, 0), (100, .aload_n 0, 0, 0, 0, 0), (101, .iload 5, 0, 0, 0, 0), (103, .iload 6, 0, 0, 0, 0), (105, .invokevirtual 81, 0, 999, 0, 0), (108, .iload_n 3, 0, 0, 0, 0), (109, .aload_n 1, 0, 0, 0, 0), (110, .getfield 64, 0, 6, 1, 119), (113, .if_icmp .ge 15, 0, 0, 0, 0), (116, .aload_n 1, 0, 0, 0, 0), (117, .getfield 69, 0, 6, 0, 117), (120, .iload_n 3, 0, 0, 0, 0), (121, .invokevirtual 70, 0, 2, 1, 341), (124, .iload_n 2, 0, 0, 0, 0), (125, .if_icmp .eq 7, 0, 0, 0, 0), (128, .aload_n 0, 0, 0, 0, 0), (129, .invokevirtual 85, 0, 999, 0, 0), (132, .iinc 3 1, 0, 0, 0, 0), (135, .iinc 4 1, 0, 0, 0, 0), (138, .goto (-113), 0, 0, 0, 0), (141, .aload_n 0, 0, 0, 0, 0), (142, .invokevirtual 88, 0, 7, 0, 373), (145, .return_, 0, 0, 0, 0)]
def mC6 : List (Nat × Instr × Nat × Nat × Nat × Nat) := [(0, .aload_n 0, 0, 0, 0, 0), (1, .getfield 45, 0, 4, 9, 187), (4, .bipush 60, 0, 0, 0, 0), (6, .if_icmp .ge 22, 0, 0, 0, 0), (9, .iload_n 2, 0, 0, 0, 0), (10, .aload_n 1, 0, 0, 0, 0), (11, .getfield 64, 0, 6, 1, 119), (14, .if_icmp .lt 10, 0, 0, 0, 0), (17, .aload_n 0, 0, 0, 0, 0), (18, .getfield 48, 0, 4, 10, 190), (21, .ifCond .le 7, 0, 0, 0, 0), (24, .iconst 1, 0, 0, 0, 0), (25, .goto 4, 0, 0, 0, 0), (28, .iconst 0, 0, 0, 0, 0), (29, .ireturn, 0, 0, 0, 0)]
def mC7 : List (Nat × Instr × Nat × Nat × Nat × Nat) := [(0, .aload_n 0, 0, 0, 0, 0), (1, .iconst 0, 0, 0, 0, 0), (2, .putfield 54, 0, 4, 12, 192), (5, .aload_n 0, 0, 0, 0, 0), (6, .iconst 0, 0, 0, 0, 0), (7, .putfield 57, 0, 4, 13, 194), (10, .iconst 0, 0, 0, 0, 0), (11, .istore_n 1, 0, 0, 0, 0), (12, .iload_n 1, 0, 0, 0, 0), (13, .aload_n 0, 0, 0, 0, 0), (14, .getfield 45, 0, 4, 9, 187), (17, .if_icmp .ge 58, 0, 0, 0, 0), (20, .aload_n 0, 0, 0, 0, 0), (21, .getfield 35, 0, 4, 6, 181), (24, .iload_n 1, 0, 0, 0, 0), (25, .invokevirtual 70, 0, 2, 1, 341), (28, .istore_n 2, 0, 0, 0, 0), (29, .aload_n 0, 0, 0, 0, 0), (30, .iload_n 2, 0, 0, 0, 0), (31, .invokevirtual 108, 0, 999, 0, 0), (34, .istore_n 3, 0, 0, 0, 0), (35, .iload_n 3, 0, 0, 0, 0), (36, .aload_n 0, 0, 0, 0, 0), (37, .getfield 57, 0, 4, 13, 194), (40, .if_icmp .gt 19, 0, 0, 0, 0), (43, .iload_n 3, 0, 0, 0, 0), (44, .aload_n 0, 0, 0, 0, 0), (45, .getfield 57, 0, 4, 13, 194), (48, .if_icmp .ne 21, 0, 0, 0, 0), (51, .iload_n 2, 0, 0, 0, 0), (52, .aload_n 0, 0, 0, 0, 0), (53, .getfield 54, 0, 4, 12, 192), (56, .if_icmp .le 13, 0, 0, 0, 0), (59, .aload_n 0, 0, 0, 0, 0), (60, .iload_n 2, 0, 0, 0, 0), (61, .putfield 54, 0, 4, 12, 192), (64, .aload_n 0, 0, 0, 0, 0), (65, .iload_n 3, 0, 0, 0, 0), (66, .putfield 57, 0, 4, 13, 194), (69, .iinc 1 1, 0, 0, 0, 0), (72, .goto (-60), 0, 0, 0, 0), (75, .return_, 0, 0, 0, 0)]
def mC8 : List (Nat × Instr × Nat × Nat × Nat × Nat) := [(0, .aload_n 0, 0, 0, 0, 0), (1, .getfield 54, 0, 4, 12, 192), (4, .bipush 20, 0, 0, 0, 0), (6, .invokestatic 102, 0, 997, 0, 370), (9, .ireturn, 0, 0, 0, 0)]
def mC9 : List (Nat × Instr × Nat × Nat × Nat × Nat) := [(0, .aload_n 0, 0, 0, 0, 0), (1, .invokevirtual 111, 0, 8, 0, 394), (4, .iconst 2, 0, 0, 0, 0), (5, .if_icmp .lt 11, 0, 0, 0, 0), (8, .aload_n 0, 0, 0, 0, 0), (9, .getfield 45, 0, 4, 9, 187), (12, .iconst 1, 0, 0, 0, 0), (13, .if_icmp .ge 5, 0, 0, 0, 0), (16, .iconst 0, 0, 0, 0, 0), (17, .ireturn, 0, 0, 0, 0), (18, .bipush 100, 0, 0, 0, 0), (20, .aload_n 0, 0, 0, 0, 0), (21, .getfield 57, 0, 4, 13, 194), (24, .imul, 0, 0, 0, 0), (25, .aload_n 0, 0, 0, 0, 0), (26, .getfield 45, 0, 4, 9, 187), (29, .idiv, 0, 0, 0, 0), (30, .aload_n 0, 0, 0, 0, 0), (31, .invokevirtual 111, 0, 8, 0, 394), (34, .iadd, 0, 0, 0, 0), (35, .ireturn, 0, 0, 0, 0)]
def mC10 : List (Nat × Instr × Nat × Nat × Nat × Nat) := [(0, .iload_n 1, 0, 0, 0, 0), (1, .ifCond .lt 24, 0, 0, 0, 0), (4, .iload_n 1, 0, 0, 0, 0), (5, .aload_n 0, 0, 0, 0, 0), (6, .getfield 45, 0, 4, 9, 187), (9, .if_icmp .ge 16, 0, 0, 0, 0), (12, .iload_n 2, 0, 0, 0, 0), (13, .ifCond .lt 12, 0, 0, 0, 0), (16, .iload_n 2, 0, 0, 0, 0), (17, .aload_n 0, 0, 0, 0, 0), (18, .iload_n 1, 0, 0, 0, 0), (19, .invokevirtual 115, 0, 999, 0, 0), (22, .if_icmp .lt 5, 0, 0, 0, 0), (25, .iconst (-1), 0, 0, 0, 0), (26, .ireturn, 0, 0, 0, 0), (27, .aload_n 0, 0, 0, 0, 0), (28, .getfield 32, 0, 4, 5, 180), (31, .iload_n 1, 0, 0, 0, 0), (32, .invokevirtual 70, 0, 2, 1, 341), (35, .iload_n 2, 0, 0, 0, 0), (36, .iadd, 0, 0, 0, 0), (37, .ireturn, 0, 0, 0, 0)]
def mC11 : List (Nat × Instr × Nat × Nat × Nat × Nat) := [(0, .iconst 0, 0, 0, 0, 0), (1, .istore_n 1, 0, 0, 0, 0), (2, .iconst 0, 0, 0, 0, 0), (3, .istore_n 2, 0, 0, 0, 0), (4, .iload_n 2, 0, 0, 0, 0), (5, .aload_n 0, 0, 0, 0, 0), (6, .getfield 42, 0, 4, 8, 185), (9, .if_icmp .ge 20, 0, 0, 0, 0), (12, .iload_n 1, 0, 0, 0, 0), (13, .aload_n 0, 0, 0, 0, 0), (14, .getfield 26, 0, 4, 3, 176), (17, .iload_n 2, 0, 0, 0, 0), (18, .invokevirtual 70, 0, 2, 1, 341), (21, .iadd, 0, 0, 0, 0), (22, .istore_n 1, 0, 0, 0, 0), (23, .iinc 2 1, 0, 0, 0, 0), (26, .goto (-22), 0, 0, 0, 0), (29, .iload_n 1, 0, 0, 0, 0), (30, .ireturn, 0, 0, 0, 0)]
def mC12 : List (Nat × Instr × Nat × Nat × Nat × Nat) := [(0, .aload_n 0, 0, 0, 0, 0), (1, .invokespecial 3, 0, 998, 0, 158), (4, .aload_n 0, 0, 0, 0, 0), (5, .new 9, 0, 4, 0, 159), (8, .dup, 0, 0, 0, 0), (9, .invokespecial 11, 1, 4, 0, 1), (12, .putfield 12, 0, 5, 0, 249), (15, .aload_n 0, 0, 0, 0, 0), (16, .new 18, 0, 2, 0, 224), (19, .dup, 0, 0, 0, 0), (20, .invokespecial 20, 1, 0, 0, 2), (23, .putfield 21, 0, 5, 1, 251), (26, .aload_n 0, 0, 0, 0, 0), (27, .new 25, 0, 3, 0, 247), (30, .dup, 0, 0, 0, 0), (31, .bipush 60, 0, 0, 0, 0), (33, .invokespecial 27, 0, 1, 1, 248), (36, .putfield 30, 0, 5, 2, 253), (39, .aload_n 0, 0, 0, 0, 0), (40, .new 25, 0, 3, 0, 247), (43, .dup, 0, 0, 0, 0), (44, .sipush 501, 0, 0, 0, 0), (47, .invokespecial 27, 0, 1, 1, 248), (50, .putfield 34, 0, 5, 3, 255), (53, .aload_n 0, 0, 0, 0, 0), (54, .new 25, 0, 3, 0, 247), (57, .dup, 0, 0, 0, 0), (58, .sipush 501, 0, 0, 0, 0), (61, .invokespecial 27, 0, 1, 1, 248), (64, .putfield 37, 0, 5, 4, 256), (67, .aload_n 0, 0, 0, 0, 0), (68, .new 25, 0, 3, 0, 247), (71, .dup, 0, 0, 0, 0), (72, .sipush 501, 0, 0, 0, 0), (75, .invokespecial 27, 0, 1, 1, 248), (78, .putfield 40, 0, 5, 5, 257), (81, .aload_n 0, 0, 0, 0, 0), (82, .new 25, 0, 3, 0, 247), (85, .dup, 0, 0, 0, 0), (86, .bipush 20, 0, 0, 0, 0), (88, .invokespecial 27, 0, 1, 1, 248), (91, .putfield 43, 0, 5, 6, 258), (94, .aload_n 0, 0, 0, 0, 0), (95, .new 25, 0, 3, 0, 247), (98, .dup, 0, 0, 0, 0), (99, .bipush 6, 0, 0, 0, 0), (101, .invokespecial 27, 0, 1, 1, 248), (104, .putfield 46, 0, 5, 7, 259), (107, .aload_n 0, 0, 0, 0, 0), (108, .iconst 0, 0, 0, 0, 0), (109, .putfield 49, 0, 5, 9, 261), (112, .aload_n 0, 0, 0, 0, 0), (113, .iconst 0, 0, 0, 0, 0), (114, .putfield 53, 0, 5, 10, 262), (117, .aload_n 0, 0, 0, 0, 0), (118, .iconst 0, 0, 0, 0, 0), (119, .putfield 56, 0, 5, 11, 264), (122, .aload_n 0, 0, 0, 0, 0), (123, .iconst 0, 0, 0, 0, 0), (124, .putfield 59, 0, 5, 12, 266), (127, .aload_n 0, 0, 0, 0, 0), (128, .iload_n 1, 0, 0, 0, 0), (129, .putfield 63, 0, 5, 8, 260), (132, .return_, 0, 0, 0, 0)]
def mC13 : List (Nat × Instr × Nat × Nat × Nat × Nat) := [(0, .aload_n 0, 0, 0, 0, 0), (1, .getfield 59, 0, 5, 12, 266), (4, .ifCond .eq 4, 0, 0, 0, 0), (7, .return_, 0, 0, 0, 0), (8, .aload_n 0, 0, 0, 0, 0), (9, .aload_n 1, 0, 0, 0, 0), (10, .getfield 66, 0, 7, 0, 139), (13, .iconst 1, 0, 0, 0, 0), (14, .invokevirtual 71, 0, 2, 1, 406), (17, .iconst (-1), 0, 0, 0, 0), (18, .if_icmp .ne 10, 0, 0, 0, 0), (21, .aload_n 0, 0, 0, 0, 0), (22, .invokevirtual 75, 0, 14, 0, 407), (25, .goto 11, 0, 0, 0, 0), (28, .aload_n 1, 0, 0, 0, 0), (29, .getfield 66, 0, 7, 0, 139), (32, .iconst 1, 0, 0, 0, 0), (33, .invokevirtual 71, 0, 2, 1, 406), (36, .putfield 49, 0, 5, 9, 261), (39, .iconst 0, 0, 0, 0, 0), (40, .istore_n 2, 0, 0, 0, 0), (41, .iload_n 2, 0, 0, 0, 0), (42, .aload_n 0, 0, 0, 0, 0), (43, .getfield 12, 0, 5, 0, 249), (46, .getfield 79, 0, 4, 8, 186), (49, .if_icmp .ge 14, 0, 0, 0, 0), (52, .aload_n 0, 0, 0, 0, 0), (53, .iload_n 2, 0, 0, 0, 0), (54, .invokevirtual 82, 0, 999, 0, 0), (57, .iinc 2 1, 0, 0, 0, 0), (60, .goto (-19), 0, 0, 0, 0), (63, .aload_n 0, 0, 0, 0, 0), (64, .aload_n 1, 0, 0, 0, 0), (65, .getfield 66, 0, 7, 0, 139), (68, .iconst 2, 0, 0, 0, 0), (69, .invokevirtual 71, 0, 2, 1, 406), (72, .iconst (-1), 0, 0, 0, 0), (73, .if_icmp .ne 14, 0, 0, 0, 0), (76, .aload_n 0, 0, 0, 0, 0), (77, .aload_n 1, 0, 0, 0, 0), (78, .getfield 85, 0, 7, 2, 144), (81, .invokevirtual 88, 0, 15, 1, 464), (84, .goto 11, 0, 0, 0, 0), (87, .aload_n 1, 0, 0, 0, 0), (88, .getfield 66, 0, 7, 0, 139), (91, .iconst 2, 0, 0, 0, 0), (92, .invokevirtual 71, 0, 2, 1, 406), (95, .putfield 53, 0, 5, 10, 262), (98, .iconst 0, 0, 0, 0, 0), (99, .istore_n 2, 0, 0, 0, 0), (100, .iload_n 2, 0, 0, 0, 0), (101, .aload_n 0, 0, 0, 0, 0), (102, .getfield 12, 0, 5, 0, 249), (105, .invokevirtual 91, 0, 8, 0, 477), (108, .if_icmp .ge 39, 0, 0, 0, 0), (111, .aload_n 0, 0, 0, 0, 0), (112, .iload_n 2, 0, 0, 0, 0), (113, .aload_n 0, 0, 0, 0, 0), (114, .getfield 53, 0, 5, 10, 262), (117, .invokevirtual 94, 0, 999, 0, 0), (120, .aload_n 0, 0, 0, 0, 0), (121, .getfield 43, 0, 5, 6, 258), (124, .iload_n 2, 0, 0, 0, 0), (125, .aload_n 0, 0, 0, 0, 0), (126, .aload_n 1, 0, 0, 0, 0), (127, .getfield 85, 0, 7, 2, 144), (130, .invokevirtual 98, 0, 999, 0, 0), (133, .invokevirtual 101, 0, 3, 2, 463), (136, .aload_n 0, 0, 0, 0, 0), (137, .iload_n 2, 0, 0, 0, 0), (138, .invokevirtual 104, 0, 999, 0, 0), (141, .iinc 2 1, 0, 0, 0, 0), (144, .goto (-44), 0, 0, 0, 0), (147, .aload_n 0, 0, 0, 0, 0), (148, .getfield 21, 0, 5, 1, 251), (151, .iconst 0, 0, 0, 0, 0), (152, .putfield 107, 0, 2, 3, 236), (155, .aload_n 0, 0, 0, 0, 0), (156, .iconst 0, 0, 0, 0, 0), (157, .putfield 56, 0, 5, 11, 264), (160, .aload_n 0, 0, 0, 0, 0), (161, .getfield 53, 0, 5, 10, 262), (164, .istore_n 2, 0, 0, 0, 0), (165, .iload_n 2, 0, 0, 0, 0), (166, .aload_n 0, 0, 0, 0, 0), (167, .getfield 12, 0, 5, 0, 249), (170, .getfield 110, 0, 4, 9, 188), (173, .if_icmp .ge 39, 0, 0, 0, 0), (176, .aload_n 0, 0, 0, 0, 0), (177, .getfield 21, 0, 5, 1, 251), (180, .getfield 107, 0, 2, 3, 236), (183, .istore_n 3, 0, 0, 0, 0), (184, .aload_n 0, 0, 0, 0, 0), (185, .aload_n 1, 0, 0, 0, 0), (186, .iload_n 2, 0, 0, 0, 0), (187, .invokevirtual 113, 0, 999, 0, 0), (190, .aload_n 0, 0, 0, 0, 0), (191, .getfield 21, 0, 5, 1, 251), (194, .getfield 107, 0, 2, 3, 236), (197, .iload_n 3, 0, 0, 0, 0), (198, .if_icmp .ne 8, 0, 0, 0, 0), (201, .aload_n 0, 0, 0, 0, 0), (202, .iload_n 2, 0, 0, 0, 0), (203, .invokevirtual 117, 0, 999, 0, 0), (206, .iinc 2 1, 0, 0, 0, 0), (209, .goto (-44), 0, 0, 0, 0), (212, .aload_n 0, 0, 0, 0, 0), (213, .iconst 1, 0, 0, 0, 0), (214, .putfield 59, 0, 5, 12, 266), (217, .return_, 0, 0, 0, 0)]
def mC14 : List (Nat × Instr × Nat × Nat × Nat × Nat) := [(0, .iconst 0, 0, 0, 0, 0), (1, .istore_n 1, 0, 0, 0, 0), (2, .iconst 0, 0, 0, 0, 0), (3, .istore_n 2, 0, 0, 0, 0), (4, .iconst 0, 0, 0, 0, 0), (5, .istore_n 3, 0, 0, 0, 0), (6, .iload_n 3, 0, 0, 0, 0), (7, .aload_n 0, 0, 0, 0, 0), (8, .getfield 12, 0, 5, 0, 249), (11, .getfield 79, 0, 4, 8, 186), (14, .if_icmp .ge 81, 0, 0, 0, 0), (17, .aload_n 0, 0, 0, 0, 0), (18, .getfield 12, 0, 5, 0, 249), (21, .getfield 120, 0, 4, 1, 171), (24, .iload_n 3, 0, 0, 0, 0), (25, .invokevirtual 71, 0, 2, 1, 406), (28, .istore 4, 0, 0, 0, 0), (30, .iload 4, 0, 0, 0, 0), (32, .aload_n 0, 0, 0, 0, 0), (33, .getfield 12, 0, 5, 0, 249), (36, .getfield 123, 0, 4, 2, 174), (39, .iload_n 3, 0, 0, 0, 0), (40, .invokevirtual 71, 0, 2, 1, 406), (43, .iadd, 0, 0, 0, 0), (44, .istore 5, 0, 0, 0, 0), (46, .aload_n 0, 0, 0, 0, 0), (47, .getfield 12, 0, 5, 0, 249), (50, .getfield 126, 0, 4, 0, 168), (53, .iload 4, 0, 0, 0, 0), (55, .iload 5, 0, 0, 0, 0), (57, .bipush 7, 0, 0, 0, 0), (59, .invokestatic 129, 0, 999, 0, 0), (62, .ifCond .eq 6, 0, 0, 0, 0), (65, .iinc 1 1, 0, 0, 0, 0), (68, .aload_n 0, 0, 0, 0, 0), (69, .getfield 12, 0, 5, 0, 249), (72, .getfield 126, 0, 4, 0, 168), (75, .iload 4, 0, 0, 0, 0), (77, .iload 5, 0, 0, 0, 0), (79, .iconst 0, 0, 0, 0, 0), (80, .invokestatic 129, 0, 999, 0, 0), (83, .ifCond .eq 6, 0, 0, 0, 0), (86, .iinc 2 1, 0, 0, 0, 0), (89, .iinc 3 1, 0, 0, 0, 0), (92, .goto (-86), 0, 0, 0, 0), (95, .iload_n 2, 0, 0, 0, 0), (96, .iload_n 1, 0, 0, 0, 0), (97, .if_icmp .le 7, 0, 0, 0, 0), (100, .iconst 1, 0, 0, 0, 0), (101, .goto 4, 0, 0, 0, 0), (104, .iconst 0, 0, 0, 0, 0), (105, .ireturn, 0, 0, 0, 0)]
def mC15 : List (Nat × Instr × Nat × Nat × Nat × Nat) := [(0, .aload_n 0, 0, 0, 0, 0), (1, .getfield 12, 0, 5, 0, 249), (4, .getfield 110, 0, 4, 9, 188), (7, .iconst 2, 0, 0, 0, 0), (8, .if_icmp .lt 24, 0, 0, 0, 0), (11, .aload_n 0, 0, 0, 0, 0), (12, .getfield 12, 0, 5, 0, 249), (15, .getfield 152, 0, 4, 6, 182), (18, .iconst 0, 0, 0, 0, 0), (19, .invokevirtual 71, 0, 2, 1, 406), (22, .aload_n 0, 0, 0, 0, 0), (23, .getfield 12, 0, 5, 0, 249), (26, .getfield 155, 0, 4, 12, 193), (29, .if_icmp .eq 5, 0, 0, 0, 0), (32, .iconst 0, 0, 0, 0, 0), (33, .ireturn, 0, 0, 0, 0), (34, .iconst 0, 0, 0, 0, 0), (35, .istore_n 2, 0, 0, 0, 0), (36, .iload_n 2, 0, 0, 0, 0), (37, .aload_n 0, 0, 0, 0, 0), (38, .getfield 12, 0, 5, 0, 249), (41, .iconst 0, 0, 0, 0, 0), (42, .invokevirtual 158, 0, 999, 0, 0), (45, .if_icmp .ge 31, 0, 0, 0, 0), (48, .aload_n 0, 0, 0, 0, 0), (49, .getfield 34, 0, 5, 3, 255), (52, .aload_n 0, 0, 0, 0, 0), (53, .getfield 12, 0, 5, 0, 249), (56, .iconst 0, 0, 0, 0, 0), (57, .iload_n 2, 0, 0, 0, 0), (58, .invokevirtual 161, 0, 10, 2, 472), (61, .invokevirtual 71, 0, 2, 1, 406), (64, .iconst 5, 0, 0, 0, 0), (65, .if_icmp .eq 5, 0, 0, 0, 0), (68, .iconst 0, 0, 0, 0, 0), (69, .ireturn, 0, 0, 0, 0), (70, .iinc 2 1, 0, 0, 0, 0), (73, .goto (-37), 0, 0, 0, 0), (76, .iconst 0, 0, 0, 0, 0), (77, .istore_n 2, 0, 0, 0, 0), (78, .iload_n 2, 0, 0, 0, 0), (79, .aload_n 0, 0, 0, 0, 0), (80, .getfield 12, 0, 5, 0, 249), (83, .invokevirtual 91, 0, 8, 0, 477), (86, .if_icmp .ge 32, 0, 0, 0, 0), (89, .aload_n 0, 0, 0, 0, 0), (90, .iload_n 2, 0, 0, 0, 0), (91, .iconst 1, 0, 0, 0, 0), (92, .invokevirtual 94, 0, 999, 0, 0), (95, .aload_n 0, 0, 0, 0, 0), (96, .iload_n 1, 0, 0, 0, 0), (97, .invokevirtual 98, 0, 999, 0, 0), (100, .istore_n 3, 0, 0, 0, 0), (101, .iload_n 3, 0, 0, 0, 0), (102, .iconst 5, 0, 0, 0, 0), (103, .if_icmp .eq 9, 0, 0, 0, 0), (106, .iload_n 3, 0, 0, 0, 0), (107, .ifCond .eq 5, 0, 0, 0, 0), (110, .iconst 1, 0, 0, 0, 0), (111, .ireturn, 0, 0, 0, 0), (112, .iinc 2 1, 0, 0, 0, 0), (115, .goto (-37), 0, 0, 0, 0), (118, .iconst 0, 0, 0, 0, 0), (119, .ireturn, 0, 0, 0, 0)]
def mC16 : List (Nat × Instr × Nat × Nat × Nat × Nat) := [(0, .iload_n 1, 0, 0, 0, 0), (1, .ifCond .lt 18, 0, 0, 0, 0), (4, .iload_n 1, 0, 0, 0, 0), (5, .aload_n 0, 0, 0, 0, 0), (6, .getfield 12, 0, 5, 0, 249), (9, .invokevirtual 91, 0, 8, 0, 477), (12, .if_icmp .ge 7, 0, 0, 0, 0), (15, .iconst 1, 0, 0, 0, 0), (16, .goto 4, 0, 0, 0, 0), (19, .iconst 0, 0, 0, 0, 0), (20, .ireturn, 0, 0, 0, 0)]
def mC17 : List (Nat × Instr × Nat × Nat × Nat × Nat) := [(0, .iload_n 1, 0, 0, 0, 0), (1, .ifCond .lt 15, 0, 0, 0, 0), (4, .iload_n 1, 0, 0, 0, 0), (5, .aload_n 0, 0, 0, 0, 0), (6, .getfield 56, 0, 5, 11, 264), (9, .if_icmp .ge 7, 0, 0, 0, 0), (12, .iconst 1, 0, 0, 0, 0), (13, .goto 4, 0, 0, 0, 0), (16, .iconst 0, 0, 0, 0, 0), (17, .ireturn, 0, 0, 0, 0)]
def mC18 : List (Nat × Instr × Nat × Nat × Nat × Nat) := [(0, .iload_n 1, 0, 0, 0, 0), (1, .lookupswitch 37 #[(0, 27), (1, 32)], 27, 0, 0, 0), (28, .aload_n 0, 0, 0, 0, 0), (29, .getfield 63, 0, 5, 8, 260), (32, .ireturn, 0, 0, 0, 0), (33, .aload_n 0, 0, 0, 0, 0), (34, .getfield 49, 0, 5, 9, 261), (37, .ireturn, 0, 0, 0, 0), (38, .aload_n 0, 0, 0, 0, 0), (39, .getfield 53, 0, 5, 10, 262), (42, .ireturn, 0, 0, 0, 0)]
def mC19 : List (Nat × Instr × Nat × Nat × Nat × Nat) := [(0, .iload_n 1, 0, 0, 0, 0), (1, .tableswitch 81 1 5 #[35, 43, 51, 68, 76], 35, 0, 0, 0), (36, .aload_n 0, 0, 0, 0, 0), (37, .getfield 12, 0, 5, 0, 249), (40, .getfield 110, 0, 4, 9, 188), (43, .ireturn, 0, 0, 0, 0), (44, .aload_n 0, 0, 0, 0, 0), (45, .getfield 12, 0, 5, 0, 249), (48, .invokevirtual 91, 0, 8, 0, 477), (51, .ireturn, 0, 0, 0, 0), (52, .iconst 0, 0, 0, 0, 0), (53, .aload_n 0, 0, 0, 0, 0), (54, .getfield 12, 0, 5, 0, 249), (57, .getfield 110, 0, 4, 9, 188), (60, .aload_n 0, 0, 0, 0, 0), (61, .getfield 53, 0, 5, 10, 262), (64, .isub, 0, 0, 0, 0), (65, .invokestatic 200, 0, 996, 0, 549), (68, .ireturn, 0, 0, 0, 0), (69, .aload_n 0, 0, 0, 0, 0), (70, .getfield 21, 0, 5, 1, 251), (73, .getfield 107, 0, 2, 3, 236), (76, .ireturn, 0, 0, 0, 0), (77, .aload_n 0, 0, 0, 0, 0), (78, .getfield 56, 0, 5, 11, 264), (81, .ireturn, 0, 0, 0, 0), (82, .aload_n 0, 0, 0, 0, 0), (83, .getfield 12, 0, 5, 0, 249), (86, .invokevirtual 205, 0, 11, 0, 552), (89, .ireturn, 0, 0, 0, 0)]
def mC20 : List (Nat × Instr × Nat × Nat × Nat × Nat) := [(0, .aload_n 0, 0, 0, 0, 0), (1, .invokespecial 3, 0, 998, 0, 104), (4, .aload_n 0, 0, 0, 0, 0), (5, .new 9, 0, 3, 0, 105), (8, .dup, 0, 0, 0, 0), (9, .sipush 500, 0, 0, 0, 0), (12, .invokespecial 11, 0, 1, 1, 107), (15, .putfield 14, 0, 6, 0, 116), (18, .aload_n 0, 0, 0, 0, 0), (19, .iconst 0, 0, 0, 0, 0), (20, .putfield 20, 0, 6, 1, 118), (23, .return_, 0, 0, 0, 0)]
def mC21 : List (Nat × Instr × Nat × Nat × Nat × Nat) := [(0, .aload_n 0, 0, 0, 0, 0), (1, .getfield 20, 0, 6, 1, 118), (4, .iload_n 1, 0, 0, 0, 0), (5, .iadd, 0, 0, 0, 0), (6, .sipush 500, 0, 0, 0, 0), (9, .if_icmp .gt 7, 0, 0, 0, 0), (12, .iconst 1, 0, 0, 0, 0), (13, .goto 4, 0, 0, 0, 0), (16, .iconst 0, 0, 0, 0, 0), (17, .ireturn, 0, 0, 0, 0)]
def mC22 : List (Nat × Instr × Nat × Nat × Nat × Nat) := [(0, .aload_n 0, 0, 0, 0, 0), (1, .iconst 1, 0, 0, 0, 0), (2, .invokevirtual 24, 0, 21, 1, 717), (5, .ifCond .eq 25, 0, 0, 0, 0), (8, .aload_n 0, 0, 0, 0, 0), (9, .getfield 14, 0, 6, 0, 116), (12, .aload_n 0, 0, 0, 0, 0), (13, .getfield 20, 0, 6, 1, 118), (16, .iload_n 1, 0, 0, 0, 0), (17, .invokevirtual 28, 0, 3, 2, 718), (20, .aload_n 0, 0, 0, 0, 0), (21, .dup, 0, 0, 0, 0), (22, .getfield 20, 0, 6, 1, 118), (25, .iconst 1, 0, 0, 0, 0), (26, .iadd, 0, 0, 0, 0), (27, .putfield 20, 0, 6, 1, 118), (30, .return_, 0, 0, 0, 0)]
def mC23 : List (Nat × Instr × Nat × Nat × Nat × Nat) := [(0, .iload_n 1, 0, 0, 0, 0), (1, .invokestatic 32, 0, 24, 1, 734), (4, .istore_n 2, 0, 0, 0, 0), (5, .aload_n 0, 0, 0, 0, 0), (6, .iload_n 2, 0, 0, 0, 0), (7, .invokevirtual 24, 0, 21, 1, 717), (10, .ifCond .eq 61, 0, 0, 0, 0), (13, .iload_n 1, 0, 0, 0, 0), (14, .istore_n 3, 0, 0, 0, 0), (15, .aload_n 0, 0, 0, 0, 0), (16, .getfield 20, 0, 6, 1, 118), (19, .iload_n 2, 0, 0, 0, 0), (20, .iadd, 0, 0, 0, 0), (21, .iconst 1, 0, 0, 0, 0), (22, .isub, 0, 0, 0, 0), (23, .istore 4, 0, 0, 0, 0), (25, .iload 4, 0, 0, 0, 0), (27, .aload_n 0, 0, 0, 0, 0), (28, .getfield 20, 0, 6, 1, 118), (31, .if_icmp .lt 30, 0, 0, 0, 0), (34, .aload_n 0, 0, 0, 0, 0), (35, .getfield 14, 0, 6, 0, 116), (38, .iload 4, 0, 0, 0, 0), (40, .bipush 10, 0, 0, 0, 0), (42, .iload_n 3, 0, 0, 0, 0), (43, .bipush 10, 0, 0, 0, 0), (45, .irem, 0, 0, 0, 0), (46, .iadd, 0, 0, 0, 0), (47, .invokevirtual 28, 0, 3, 2, 718), (50, .iload_n 3, 0, 0, 0, 0), (51, .bipush 10, 0, 0, 0, 0), (53, .idiv, 0, 0, 0, 0), (54, .istore_n 3, 0, 0, 0, 0), (55, .iinc 4 (-1), 0, 0, 0, 0), (58, .goto (-33), 0, 0, 0, 0), (61, .aload_n 0, 0, 0, 0, 0), (62, .aload_n 0, 0, 0, 0, 0), (63, .getfield 20, 0, 6, 1, 118), (66, .iload_n 2, 0, 0, 0, 0), (67, .iadd, 0, 0, 0, 0), (68, .putfield 20, 0, 6, 1, 118), (71, .return_, 0, 0, 0, 0)]
def mC24 : List (Nat × Instr × Nat × Nat × Nat × Nat) := [(0, .iconst 1, 0, 0, 0, 0), (1, .istore_n 1, 0, 0, 0, 0), (2, .iload_n 0, 0, 0, 0, 0), (3, .bipush 10, 0, 0, 0, 0), (5, .idiv, 0, 0, 0, 0), (6, .istore_n 2, 0, 0, 0, 0), (7, .iload_n 2, 0, 0, 0, 0), (8, .ifCond .le 20, 0, 0, 0, 0), (11, .iload_n 1, 0, 0, 0, 0), (12, .bipush 10, 0, 0, 0, 0), (14, .if_icmp .ge 14, 0, 0, 0, 0), (17, .iinc 1 1, 0, 0, 0, 0), (20, .iload_n 2, 0, 0, 0, 0), (21, .bipush 10, 0, 0, 0, 0), (23, .idiv, 0, 0, 0, 0), (24, .istore_n 2, 0, 0, 0, 0), (25, .goto (-18), 0, 0, 0, 0), (28, .iload_n 1, 0, 0, 0, 0), (29, .ireturn, 0, 0, 0, 0)]
def mC25 : List (Nat × Instr × Nat × Nat × Nat × Nat) := [(0, .aload_n 0, 0, 0, 0, 0), (1, .invokespecial 3, 0, 998, 0, 131), (4, .aload_n 0, 0, 0, 0, 0), (5, .new 9, 0, 3, 0, 132), (8, .dup, 0, 0, 0, 0), (9, .iconst 3, 0, 0, 0, 0), (10, .invokespecial 11, 0, 1, 1, 133), (13, .putfield 14, 0, 7, 0, 138), (16, .aload_n 0, 0, 0, 0, 0), (17, .new 9, 0, 3, 0, 132), (20, .dup, 0, 0, 0, 0), (21, .bipush 20, 0, 0, 0, 0), (23, .invokespecial 11, 0, 1, 1, 133), (26, .putfield 20, 0, 7, 1, 141), (29, .aload_n 0, 0, 0, 0, 0), (30, .bipush 80, 0, 0, 0, 0), (32, .putfield 23, 0, 7, 2, 143), (35, .aload_n 0, 0, 0, 0, 0), (36, .getfield 14, 0, 7, 0, 138), (39, .iconst 0, 0, 0, 0, 0), (40, .iconst (-1), 0, 0, 0, 0), (41, .invokevirtual 27, 0, 3, 2, 134), (44, .aload_n 0, 0, 0, 0, 0), (45, .getfield 14, 0, 7, 0, 138), (48, .iconst 1, 0, 0, 0, 0), (49, .iconst (-1), 0, 0, 0, 0), (50, .invokevirtual 27, 0, 3, 2, 134), (53, .aload_n 0, 0, 0, 0, 0), (54, .getfield 14, 0, 7, 0, 138), (57, .iconst 2, 0, 0, 0, 0), (58, .iconst (-1), 0, 0, 0, 0), (59, .invokevirtual 27, 0, 3, 2, 134), (62, .return_, 0, 0, 0, 0)]
def mC26 : List (Nat × Instr × Nat × Nat × Nat × Nat) := [(0, .aload_n 0, 0, 0, 0, 0), (1, .invokespecial 3, 0, 998, 0, 96), (4, .aload_n 0, 0, 0, 0, 0), (5, .new 9, 0, 6, 0, 99), (8, .dup, 0, 0, 0, 0), (9, .invokespecial 11, 1, 20, 0, 0), (12, .putfield 12, 0, 8, 0, 295), (15, .aload_n 0, 0, 0, 0, 0), (16, .new 16, 0, 7, 0, 126), (19, .dup, 0, 0, 0, 0), (20, .invokespecial 18, 0, 25, 0, 128), (23, .putfield 19, 0, 8, 1, 296), (26, .aload_n 0, 0, 0, 0, 0), (27, .new 23, 0, 5, 0, 153), (30, .dup, 0, 0, 0, 0), (31, .iconst 0, 0, 0, 0, 0), (32, .invokespecial 25, 0, 12, 1, 155), (35, .putfield 28, 0, 8, 2, 297), (38, .aload_n 0, 0, 0, 0, 0), (39, .new 23, 0, 5, 0, 153), (42, .dup, 0, 0, 0, 0), (43, .iconst 1, 0, 0, 0, 0), (44, .invokespecial 25, 0, 12, 1, 155), (47, .putfield 32, 0, 8, 3, 298), (50, .aload_n 0, 0, 0, 0, 0), (51, .new 23, 0, 5, 0, 153), (54, .dup, 0, 0, 0, 0), (55, .iconst 2, 0, 0, 0, 0), (56, .invokespecial 25, 0, 12, 1, 155), (59, .putfield 35, 0, 8, 4, 299), (62, .aload_n 0, 0, 0, 0, 0), (63, .new 23, 0, 5, 0, 153), (66, .dup, 0, 0, 0, 0), (67, .iconst 3, 0, 0, 0, 0), (68, .invokespecial 25, 0, 12, 1, 155), (71, .putfield 38, 0, 8, 5, 300), (74, .aload_n 0, 0, 0, 0, 0), (75, .iconst 0, 0, 0, 0, 0), (76, .putfield 41, 0, 8, 6, 301), (79, .return_, 0, 0, 0, 0)]
def mC27 : List (Nat × Instr × Nat × Nat × Nat × Nat) := [(0, .iload_n 1, 0, 0, 0, 0), (1, .invokestatic 45, 0, 56, 1, 622), (4, .ifCond .ne 13, 0, 0, 0, 0), (7, .new 49, 0, 995, 0, 0), (10, .dup, 0, 0, 0, 0), (11, .ldc 51, 999, 0, 0, 0), (13, .invokespecial 53, 0, 999, 0, 0), (16, .athrow, 0, 0, 0, 0), (17, .aload_n 0, 0, 0, 0, 0), (18, .getfield 12, 0, 8, 0, 295), (21, .iconst 1, 0, 0, 0, 0), (22, .invokevirtual 56, 0, 21, 1, 693), (25, .ifCond .ne 13, 0, 0, 0, 0), (28, .new 59, 0, 995, 1, 0), (31, .dup, 0, 0, 0, 0), (32, .ldc 61, 999, 0, 0, 0), (34, .invokespecial 63, 0, 999, 0, 0), (37, .athrow, 0, 0, 0, 0), (38, .aload_n 0, 0, 0, 0, 0), (39, .getfield 12, 0, 8, 0, 295), (42, .iload_n 1, 0, 0, 0, 0), (43, .invokevirtual 64, 0, 22, 1, 713), (46, .aload_n 0, 0, 0, 0, 0), (47, .iconst 0, 0, 0, 0, 0), (48, .putfield 41, 0, 8, 6, 301), (51, .aload_n 0, 0, 0, 0, 0), (52, .getfield 12, 0, 8, 0, 295), (55, .getfield 67, 0, 6, 1, 120), (58, .ireturn, 0, 0, 0, 0)]
def mC28 : List (Nat × Instr × Nat × Nat × Nat × Nat) := [(0, .iload_n 1, 0, 0, 0, 0), (1, .ifCond .ge 13, 0, 0, 0, 0), (4, .new 49, 0, 995, 2, 0), (7, .dup, 0, 0, 0, 0), (8, .ldc 71, 999, 0, 0, 0), (10, .invokespecial 53, 0, 999, 0, 0), (13, .athrow, 0, 0, 0, 0), (14, .aload_n 0, 0, 0, 0, 0), (15, .getfield 12, 0, 8, 0, 295), (18, .iload_n 1, 0, 0, 0, 0), (19, .invokestatic 73, 0, 24, 1, 727), (22, .invokevirtual 56, 0, 21, 1, 693), (25, .ifCond .ne 13, 0, 0, 0, 0), (28, .new 59, 0, 995, 1, 0), (31, .dup, 0, 0, 0, 0), (32, .ldc 61, 999, 0, 0, 0), (34, .invokespecial 63, 0, 999, 0, 0), (37, .athrow, 0, 0, 0, 0), (38, .aload_n 0, 0, 0, 0, 0), (39, .getfield 12, 0, 8, 0, 295), (42, .iload_n 1, 0, 0, 0, 0), (43, .invokevirtual 77, 0, 23, 1, 730), (46, .aload_n 0, 0, 0, 0, 0), (47, .iconst 0, 0, 0, 0, 0), (48, .putfield 41, 0, 8, 6, 301), (51, .aload_n 0, 0, 0, 0, 0), (52, .getfield 12, 0, 8, 0, 295), (55, .getfield 67, 0, 6, 1, 120), (58, .ireturn, 0, 0, 0, 0)]
def mC29 : List (Nat × Instr × Nat × Nat × Nat × Nat) := [(0, .iload_n 1, 0, 0, 0, 0), (1, .ifCond .lt 20, 0, 0, 0, 0), (4, .iload_n 1, 0, 0, 0, 0), (5, .bipush 26, 0, 0, 0, 0), (7, .if_icmp .ge 14, 0, 0, 0, 0), (10, .iload_n 2, 0, 0, 0, 0), (11, .iconst 1, 0, 0, 0, 0), (12, .if_icmp .lt 9, 0, 0, 0, 0), (15, .iload_n 2, 0, 0, 0, 0), (16, .bipush 12, 0, 0, 0, 0), (18, .if_icmp .le 13, 0, 0, 0, 0), (21, .new 49, 0, 995, 3, 0), (24, .dup, 0, 0, 0, 0), (25, .ldc 80, 999, 0, 0, 0), (27, .invokespecial 53, 0, 999, 0, 0), (30, .athrow, 0, 0, 0, 0), (31, .aload_n 0, 0, 0, 0, 0), (32, .getfield 12, 0, 8, 0, 295), (35, .iload_n 2, 0, 0, 0, 0), (36, .invokevirtual 56, 0, 21, 1, 693), (39, .ifCond .ne 13, 0, 0, 0, 0), (42, .new 59, 0, 995, 1, 0), (45, .dup, 0, 0, 0, 0), (46, .ldc 61, 999, 0, 0, 0), (48, .invokespecial 63, 0, 999, 0, 0), (51, .athrow, 0, 0, 0, 0), (52, .iconst 0, 0, 0, 0, 0), (53, .istore_n 3, 0, 0, 0, 0), (54, .iload_n 3, 0, 0, 0, 0), (55, .iload_n 2, 0, 0, 0, 0), (56, .if_icmp .ge 25, 0, 0, 0, 0), (59, .aload_n 0, 0, 0, 0, 0), (60, .getfield 12, 0, 8, 0, 295), (63, .bipush 20, 0, 0, 0, 0), (65, .iload_n 1, 0, 0, 0, 0), (66, .iload_n 3, 0, 0, 0, 0), (67, .iadd, 0, 0, 0, 0), (68, .bipush 26, 0, 0, 0, 0), (70, .irem, 0, 0, 0, 0), (71, .iadd, 0, 0, 0, 0), (72, .invokevirtual 64, 0, 22, 1, 713), (75, .iinc 3 1, 0, 0, 0, 0), (78, .goto (-24), 0, 0, 0, 0), (81, .aload_n 0, 0, 0, 0, 0), (82, .iconst 0, 0, 0, 0, 0), (83, .putfield 41, 0, 8, 6, 301), (86, .aload_n 0, 0, 0, 0, 0), (87, .getfield 12, 0, 8, 0, 295), (90, .getfield 67, 0, 6, 1, 120), (93, .ireturn, 0, 0, 0, 0)]
def mC30 : List (Nat × Instr × Nat × Nat × Nat × Nat) := [(0, .iload_n 1, 0, 0, 0, 0), (1, .ifCond .lt 19, 0, 0, 0, 0), (4, .iload_n 2, 0, 0, 0, 0), (5, .ifCond .lt 15, 0, 0, 0, 0), (8, .iload_n 3, 0, 0, 0, 0), (9, .ifCond .lt 11, 0, 0, 0, 0), (12, .iload 4, 0, 0, 0, 0), (14, .invokestatic 45, 0, 56, 1, 622), (17, .ifCond .ne 13, 0, 0, 0, 0), (20, .new 49, 0, 995, 4, 0), (23, .dup, 0, 0, 0, 0), (24, .ldc 82, 999, 0, 0, 0), (26, .invokespecial 53, 0, 999, 0, 0), (29, .athrow, 0, 0, 0, 0), (30, .aload_n 0, 0, 0, 0, 0), (31, .getfield 12, 0, 8, 0, 295), (34, .iload_n 1, 0, 0, 0, 0), (35, .invokestatic 73, 0, 24, 1, 727), (38, .iload_n 2, 0, 0, 0, 0), (39, .invokestatic 73, 0, 24, 1, 727), (42, .iadd, 0, 0, 0, 0), (43, .iload_n 3, 0, 0, 0, 0), (44, .invokestatic 73, 0, 24, 1, 727), (47, .iadd, 0, 0, 0, 0), (48, .iconst 2, 0, 0, 0, 0), (49, .iadd, 0, 0, 0, 0), (50, .invokevirtual 56, 0, 21, 1, 693), (53, .ifCond .ne 13, 0, 0, 0, 0), (56, .new 59, 0, 995, 1, 0), (59, .dup, 0, 0, 0, 0), (60, .ldc 61, 999, 0, 0, 0), (62, .invokespecial 63, 0, 999, 0, 0), (65, .athrow, 0, 0, 0, 0), (66, .aload_n 0, 0, 0, 0, 0), (67, .getfield 12, 0, 8, 0, 295), (70, .iload_n 1, 0, 0, 0, 0), (71, .invokevirtual 77, 0, 23, 1, 730), (74, .aload_n 0, 0, 0, 0, 0), (75, .getfield 12, 0, 8, 0, 295), (78, .iload 4, 0, 0, 0, 0), (80, .invokevirtual 64, 0, 22, 1, 713), (83, .aload_n 0, 0, 0, 0, 0), (84, .getfield 12, 0, 8, 0, 295), (87, .iload_n 2, 0, 0, 0, 0), (88, .invokevirtual 77, 0, 23, 1, 730), (91, .aload_n 0, 0, 0, 0, 0), (92, .getfield 12, 0, 8, 0, 295), (95, .iload 4, 0, 0, 0, 0), (97, .invokevirtual 64, 0, 22, 1, 713), (100, .aload_n 0, 0, 0, 0, 0), (101, .getfield 12, 0, 8, 0, 295), (104, .iload_n 3, 0, 0, 0, 0), (105, .invokevirtual 77, 0, 23, 1, 730), (108, .aload_n 0, 0, 0, 0, 0), (109, .iconst 0, 0, 0, 0, 0), (110, .putfield 41, 0, 8, 6, 301), (113, .aload_n 0, 0, 0, 0, 0), (114, .getfield 12, 0, 8, 0, 295), (117, .getfield 67, 0, 6, 1, 120), (120, .ireturn, 0, 0, 0, 0)]
def mC31 : List (Nat × Instr × Nat × Nat × Nat × Nat) := [(0, .aload_n 0, 0, 0, 0, 0), (1, .getfield 12, 0, 8, 0, 295), (4, .getfield 67, 0, 6, 1, 120), (7, .istore_n 1, 0, 0, 0, 0), (8, .aload_n 0, 0, 0, 0, 0), (9, .getfield 12, 0, 8, 0, 295), (12, .iconst 0, 0, 0, 0, 0), (13, .putfield 67, 0, 6, 1, 120), (16, .aload_n 0, 0, 0, 0, 0), (17, .iconst 0, 0, 0, 0, 0), (18, .putfield 41, 0, 8, 6, 301), (21, .iload_n 1, 0, 0, 0, 0), (22, .ireturn, 0, 0, 0, 0)]
def mC32 : List (Nat × Instr × Nat × Nat × Nat × Nat) := [(0, .iload_n 1, 0, 0, 0, 0), (1, .ifCond .lt 8, 0, 0, 0, 0), (4, .iload_n 1, 0, 0, 0, 0), (5, .iconst 2, 0, 0, 0, 0), (6, .if_icmp .le 13, 0, 0, 0, 0), (9, .new 49, 0, 995, 5, 0), (12, .dup, 0, 0, 0, 0), (13, .ldc 84, 999, 0, 0, 0), (15, .invokespecial 53, 0, 999, 0, 0), (18, .athrow, 0, 0, 0, 0), (19, .iload_n 2, 0, 0, 0, 0), (20, .iconst (-1), 0, 0, 0, 0), (21, .if_icmp .lt 16, 0, 0, 0, 0), (24, .iload_n 2, 0, 0, 0, 0), (25, .iload_n 1, 0, 0, 0, 0), (26, .ifCond .ne 7, 0, 0, 0, 0), (29, .iconst 3, 0, 0, 0, 0), (30, .goto 4, 0, 0, 0, 0), (33, .iconst 1, 0, 0, 0, 0), (34, .if_icmp .le 13, 0, 0, 0, 0), (37, .new 49, 0, 995, 6, 0), (40, .dup, 0, 0, 0, 0), (41, .ldc 86, 999, 0, 0, 0), (43, .invokespecial 53, 0, 999, 0, 0), (46, .athrow, 0, 0, 0, 0), (47, .aload_n 0, 0, 0, 0, 0), (48, .getfield 19, 0, 8, 1, 296), (51, .getfield 88, 0, 7, 0, 140), (54, .iload_n 1, 0, 0, 0, 0), (55, .invokevirtual 92, 0, 2, 1, 385), (58, .istore_n 3, 0, 0, 0, 0), (59, .aload_n 0, 0, 0, 0, 0), (60, .getfield 19, 0, 8, 1, 296), (63, .getfield 88, 0, 7, 0, 140), (66, .iload_n 1, 0, 0, 0, 0), (67, .iload_n 2, 0, 0, 0, 0), (68, .invokevirtual 97, 0, 3, 2, 760), (71, .aload_n 0, 0, 0, 0, 0), (72, .invokevirtual 101, 0, 63, 0, 381), (75, .iload_n 3, 0, 0, 0, 0), (76, .ireturn, 0, 0, 0, 0)]
def mC33 : List (Nat × Instr × Nat × Nat × Nat × Nat) := [(0, .iload_n 1, 0, 0, 0, 0), (1, .invokestatic 104, 0, 58, 1, 768), (4, .ifCond .ne 13, 0, 0, 0, 0), (7, .new 49, 0, 995, 7, 0), (10, .dup, 0, 0, 0, 0), (11, .ldc 107, 999, 0, 0, 0), (13, .invokespecial 53, 0, 999, 0, 0), (16, .athrow, 0, 0, 0, 0), (17, .aload_n 0, 0, 0, 0, 0), (18, .getfield 19, 0, 8, 1, 296), (21, .getfield 109, 0, 7, 2, 145), (24, .istore_n 2, 0, 0, 0, 0), (25, .aload_n 0, 0, 0, 0, 0), (26, .getfield 19, 0, 8, 1, 296), (29, .iload_n 1, 0, 0, 0, 0), (30, .putfield 109, 0, 7, 2, 145), (33, .aload_n 0, 0, 0, 0, 0), (34, .invokevirtual 101, 0, 63, 0, 381), (37, .iload_n 2, 0, 0, 0, 0), (38, .ireturn, 0, 0, 0, 0)]
def mC34 : List (Nat × Instr × Nat × Nat × Nat × Nat) := [(0, .iload_n 1, 0, 0, 0, 0), (1, .ifCond .lt 9, 0, 0, 0, 0), (4, .iload_n 1, 0, 0, 0, 0), (5, .bipush 20, 0, 0, 0, 0), (7, .if_icmp .lt 13, 0, 0, 0, 0), (10, .new 112, 0, 995, 8, 0), (13, .dup, 0, 0, 0, 0), (14, .ldc 114, 999, 0, 0, 0), (16, .invokespecial 116, 0, 999, 0, 0), (19, .athrow, 0, 0, 0, 0), (20, .iload_n 2, 0, 0, 0, 0), (21, .ifCond .lt 8, 0, 0, 0, 0), (24, .iload_n 2, 0, 0, 0, 0), (25, .iconst 3, 0, 0, 0, 0), (26, .if_icmp .le 13, 0, 0, 0, 0), (29, .new 49, 0, 995, 9, 0), (32, .dup, 0, 0, 0, 0), (33, .ldc 117, 999, 0, 0, 0), (35, .invokespecial 53, 0, 999, 0, 0), (38, .athrow, 0, 0, 0, 0), (39, .aload_n 0, 0, 0, 0, 0), (40, .getfield 19, 0, 8, 1, 296), (43, .getfield 119, 0, 7, 1, 142), (46, .iload_n 1, 0, 0, 0, 0), (47, .invokevirtual 92, 0, 2, 1, 385), (50, .istore_n 3, 0, 0, 0, 0), (51, .aload_n 0, 0, 0, 0, 0), (52, .getfield 19, 0, 8, 1, 296), (55, .getfield 119, 0, 7, 1, 142), (58, .iload_n 1, 0, 0, 0, 0), (59, .iload_n 2, 0, 0, 0, 0), (60, .invokevirtual 97, 0, 3, 2, 760), (63, .aload_n 0, 0, 0, 0, 0), (64, .invokevirtual 101, 0, 63, 0, 381), (67, .iload_n 3, 0, 0, 0, 0), (68, .ireturn, 0, 0, 0, 0)]
def mC35 : List (Nat × Instr × Nat × Nat × Nat × Nat) := [(0, .iload_n 1, 0, 0, 0, 0), (1, .ifCond .lt 8, 0, 0, 0, 0), (4, .iload_n 1, 0, 0, 0, 0), (5, .iconst 2, 0, 0, 0, 0), (6, .if_icmp .le 13, 0, 0, 0, 0), (9, .new 49, 0, 995, 10, 0), (12, .dup, 0, 0, 0, 0), (13, .ldc 122, 999, 0, 0, 0), (15, .invokespecial 53, 0, 999, 0, 0), (18, .athrow, 0, 0, 0, 0), (19, .aload_n 0, 0, 0, 0, 0), (20, .invokevirtual 124, 0, 59, 0, 325), (23, .iload_n 1, 0, 0, 0, 0), (24, .invokevirtual 128, 0, 18, 1, 537), (27, .ireturn, 0, 0, 0, 0)]
def mC36 : List (Nat × Instr × Nat × Nat × Nat × Nat) := [(0, .iload_n 1, 0, 0, 0, 0), (1, .invokestatic 131, 0, 57, 1, 812), (4, .ifCond .ne 13, 0, 0, 0, 0), (7, .new 49, 0, 995, 11, 0), (10, .dup, 0, 0, 0, 0), (11, .ldc 134, 999, 0, 0, 0), (13, .invokespecial 53, 0, 999, 0, 0), (16, .athrow, 0, 0, 0, 0), (17, .aload_n 0, 0, 0, 0, 0), (18, .invokevirtual 136, 0, 62, 0, 329), (21, .aload_n 0, 0, 0, 0, 0), (22, .iload_n 1, 0, 0, 0, 0), (23, .invokevirtual 139, 0, 61, 1, 398), (26, .getfield 143, 0, 5, 0, 250), (29, .invokevirtual 147, 0, 9, 0, 390), (32, .ireturn, 0, 0, 0, 0)]
def mC37 : List (Nat × Instr × Nat × Nat × Nat × Nat) := [(0, .iload_n 1, 0, 0, 0, 0), (1, .ifCond .lt 9, 0, 0, 0, 0), (4, .iload_n 1, 0, 0, 0, 0), (5, .bipush 6, 0, 0, 0, 0), (7, .if_icmp .le 13, 0, 0, 0, 0), (10, .new 49, 0, 995, 12, 0), (13, .dup, 0, 0, 0, 0), (14, .ldc 153, 999, 0, 0, 0), (16, .invokespecial 53, 0, 999, 0, 0), (19, .athrow, 0, 0, 0, 0), (20, .iload_n 1, 0, 0, 0, 0), (21, .ifCond .ne 13, 0, 0, 0, 0), (24, .aload_n 0, 0, 0, 0, 0), (25, .getfield 12, 0, 8, 0, 295), (28, .getfield 67, 0, 6, 1, 120), (31, .goto 11, 0, 0, 0, 0), (34, .aload_n 0, 0, 0, 0, 0), (35, .invokevirtual 124, 0, 59, 0, 325), (38, .iload_n 1, 0, 0, 0, 0), (39, .invokevirtual 155, 0, 19, 1, 545), (42, .ireturn, 0, 0, 0, 0)]
def mC38 : List (Nat × Instr × Nat × Nat × Nat × Nat) := [(0, .aload_n 0, 0, 0, 0, 0), (1, .invokevirtual 124, 0, 59, 0, 325), (4, .getfield 143, 0, 5, 0, 250), (7, .astore_n 2, 0, 0, 0, 0), (8, .iload_n 1, 0, 0, 0, 0), (9, .ifCond .lt 11, 0, 0, 0, 0), (12, .iload_n 1, 0, 0, 0, 0), (13, .aload_n 2, 0, 0, 0, 0), (14, .getfield 158, 0, 4, 9, 189), (17, .if_icmp .lt 13, 0, 0, 0, 0), (20, .new 112, 0, 995, 13, 0), (23, .dup, 0, 0, 0, 0), (24, .ldc 161, 999, 0, 0, 0), (26, .invokespecial 116, 0, 999, 0, 0), (29, .athrow, 0, 0, 0, 0), (30, .aload_n 2, 0, 0, 0, 0), (31, .getfield 163, 0, 4, 6, 183), (34, .iload_n 1, 0, 0, 0, 0), (35, .invokevirtual 92, 0, 2, 1, 385), (38, .ireturn, 0, 0, 0, 0)]
def mC39 : List (Nat × Instr × Nat × Nat × Nat × Nat) := [(0, .aload_n 0, 0, 0, 0, 0), (1, .invokevirtual 124, 0, 59, 0, 325), (4, .astore 4, 0, 0, 0, 0), (6, .aload 4, 0, 0, 0, 0), (8, .getfield 143, 0, 5, 0, 250), (11, .iload_n 1, 0, 0, 0, 0), (12, .iload_n 2, 0, 0, 0, 0), (13, .invokevirtual 166, 0, 10, 2, 560), (16, .istore 5, 0, 0, 0, 0), (18, .iload 5, 0, 0, 0, 0), (20, .iconst (-1), 0, 0, 0, 0), (21, .if_icmp .ne 13, 0, 0, 0, 0), (24, .new 112, 0, 995, 14, 0), (27, .dup, 0, 0, 0, 0), (28, .ldc 170, 999, 0, 0, 0), (30, .invokespecial 116, 0, 999, 0, 0), (33, .athrow, 0, 0, 0, 0), (34, .iload_n 3, 0, 0, 0, 0), (35, .ifCond .lt 8, 0, 0, 0, 0), (38, .iload_n 3, 0, 0, 0, 0), (39, .iconst 4, 0, 0, 0, 0), (40, .if_icmp .le 13, 0, 0, 0, 0), (43, .new 49, 0, 995, 15, 0), (46, .dup, 0, 0, 0, 0), (47, .ldc 172, 999, 0, 0, 0), (49, .invokespecial 53, 0, 999, 0, 0), (52, .athrow, 0, 0, 0, 0), (53, .aload 4, 0, 0, 0, 0), (55, .iload 5, 0, 0, 0, 0), (57, .iload_n 3, 0, 0, 0, 0), (58, .invokevirtual 174, 0, 999, 0, 0), (61, .ireturn, 0, 0, 0, 0)]
def mC40 : List (Nat × Instr × Nat × Nat × Nat × Nat) := [(0, .aload_n 0, 0, 0, 0, 0), (1, .invokevirtual 124, 0, 59, 0, 325), (4, .getfield 143, 0, 5, 0, 250), (7, .astore 4, 0, 0, 0, 0), (9, .aload 4, 0, 0, 0, 0), (11, .iload_n 1, 0, 0, 0, 0), (12, .iload_n 2, 0, 0, 0, 0), (13, .invokevirtual 166, 0, 10, 2, 560), (16, .istore 5, 0, 0, 0, 0), (18, .iload 5, 0, 0, 0, 0), (20, .iconst (-1), 0, 0, 0, 0), (21, .if_icmp .ne 13, 0, 0, 0, 0), (24, .new 112, 0, 995, 14, 0), (27, .dup, 0, 0, 0, 0), (28, .ldc 170, 999, 0, 0, 0), (30, .invokespecial 116, 0, 999, 0, 0), (33, .athrow, 0, 0, 0, 0), (34, .iload_n 3, 0, 0, 0, 0), (35, .ifCond .lt 17, 0, 0, 0, 0), (38, .iload_n 3, 0, 0, 0, 0), (39, .aload 4, 0, 0, 0, 0), (41, .getfield 177, 0, 4, 2, 175), (44, .iload 5, 0, 0, 0, 0), (46, .invokevirtual 92, 0, 2, 1, 385), (49, .if_icmp .lt 5, 0, 0, 0, 0), (52, .iconst (-1), 0, 0, 0, 0), (53, .ireturn, 0, 0, 0, 0), (54, .aload 4, 0, 0, 0, 0), (56, .getfield 180, 0, 4, 0, 169), (59, .aload 4, 0, 0, 0, 0), (61, .getfield 183, 0, 4, 1, 172), (64, .iload 5, 0, 0, 0, 0), (66, .invokevirtual 92, 0, 2, 1, 385), (69, .iload_n 3, 0, 0, 0, 0), (70, .iadd, 0, 0, 0, 0), (71, .invokevirtual 92, 0, 2, 1, 385), (74, .ireturn, 0, 0, 0, 0)]
def mC41 : List (Nat × Instr × Nat × Nat × Nat × Nat) := [(0, .aload_n 0, 0, 0, 0, 0), (1, .invokevirtual 124, 0, 59, 0, 325), (4, .astore_n 3, 0, 0, 0, 0), (5, .aload_n 3, 0, 0, 0, 0), (6, .iload_n 1, 0, 0, 0, 0), (7, .invokevirtual 186, 0, 16, 1, 855), (10, .ifCond .ne 13, 0, 0, 0, 0), (13, .new 112, 0, 995, 16, 0), (16, .dup, 0, 0, 0, 0), (17, .ldc 189, 999, 0, 0, 0), (19, .invokespecial 116, 0, 999, 0, 0), (22, .athrow, 0, 0, 0, 0), (23, .iload_n 2, 0, 0, 0, 0), (24, .ifCond .lt 8, 0, 0, 0, 0), (27, .iload_n 2, 0, 0, 0, 0), (28, .iconst 4, 0, 0, 0, 0), (29, .if_icmp .le 13, 0, 0, 0, 0), (32, .new 49, 0, 995, 17, 0), (35, .dup, 0, 0, 0, 0), (36, .ldc 191, 999, 0, 0, 0), (38, .invokespecial 53, 0, 999, 0, 0), (41, .athrow, 0, 0, 0, 0), (42, .aload_n 3, 0, 0, 0, 0), (43, .iload_n 1, 0, 0, 0, 0), (44, .iload_n 2, 0, 0, 0, 0), (45, .invokevirtual 193, 0, 999, 0, 0), (48, .ireturn, 0, 0, 0, 0)]
def mC42 : List (Nat × Instr × Nat × Nat × Nat × Nat) := [(0, .aload_n 0, 0, 0, 0, 0), (1, .invokevirtual 124, 0, 59, 0, 325), (4, .astore_n 3, 0, 0, 0, 0), (5, .aload_n 3, 0, 0, 0, 0), (6, .iload_n 1, 0, 0, 0, 0), (7, .invokevirtual 186, 0, 16, 1, 855), (10, .ifCond .ne 13, 0, 0, 0, 0), (13, .new 112, 0, 995, 16, 0), (16, .dup, 0, 0, 0, 0), (17, .ldc 189, 999, 0, 0, 0), (19, .invokespecial 116, 0, 999, 0, 0), (22, .athrow, 0, 0, 0, 0), (23, .iload_n 2, 0, 0, 0, 0), (24, .ifCond .eq 18, 0, 0, 0, 0), (27, .iload_n 2, 0, 0, 0, 0), (28, .iconst 1, 0, 0, 0, 0), (29, .if_icmp .eq 13, 0, 0, 0, 0), (32, .new 49, 0, 995, 18, 0), (35, .dup, 0, 0, 0, 0), (36, .ldc 196, 999, 0, 0, 0), (38, .invokespecial 53, 0, 999, 0, 0), (41, .athrow, 0, 0, 0, 0), (42, .aload_n 3, 0, 0, 0, 0), (43, .iload_n 1, 0, 0, 0, 0), (44, .iload_n 2, 0, 0, 0, 0), (45, .iconst 1, 0, 0, 0, 0), (46, .if_icmp .ne 7, 0, 0, 0, 0), (49, .iconst 1, 0, 0, 0, 0), (50, .goto 4, 0, 0, 0, 0), (53, .iconst 0, 0, 0, 0, 0), (54, .invokevirtual 198, 0, 999, 0, 0), (57, .ireturn, 0, 0, 0, 0)]
def mC43 : List (Nat × Instr × Nat × Nat × Nat × Nat) := [(0, .aload_n 0, 0, 0, 0, 0), (1, .invokevirtual 124, 0, 59, 0, 325), (4, .astore_n 2, 0, 0, 0, 0), (5, .aload_n 2, 0, 0, 0, 0), (6, .iload_n 1, 0, 0, 0, 0), (7, .invokevirtual 186, 0, 16, 1, 855), (10, .ifCond .ne 13, 0, 0, 0, 0), (13, .new 112, 0, 995, 16, 0), (16, .dup, 0, 0, 0, 0), (17, .ldc 189, 999, 0, 0, 0), (19, .invokespecial 116, 0, 999, 0, 0), (22, .athrow, 0, 0, 0, 0), (23, .aload_n 2, 0, 0, 0, 0), (24, .iload_n 1, 0, 0, 0, 0), (25, .invokevirtual 202, 0, 999, 0, 0), (28, .lreturn, 0, 0, 0, 0)]
def mC44 : List (Nat × Instr × Nat × Nat × Nat × Nat) := [(0, .aload_n 0, 0, 0, 0, 0), (1, .invokevirtual 124, 0, 59, 0, 325), (4, .astore_n 2, 0, 0, 0, 0), (5, .aload_n 2, 0, 0, 0, 0), (6, .iload_n 1, 0, 0, 0, 0), (7, .invokevirtual 186, 0, 16, 1, 855), (10, .ifCond .ne 13, 0, 0, 0, 0), (13, .new 112, 0, 995, 16, 0), (16, .dup, 0, 0, 0, 0), (17, .ldc 189, 999, 0, 0, 0), (19, .invokespecial 116, 0, 999, 0, 0), (22, .athrow, 0, 0, 0, 0), (23, .aload_n 2, 0, 0, 0, 0), (24, .iload_n 1, 0, 0, 0, 0), (25, .invokevirtual 206, 0, 999, 0, 0), (28, .istore_n 3, 0, 0, 0, 0), (29, .iload_n 3, 0, 0, 0, 0), (30, .ifCond .ne 7, 0, 0, 0, 0), (33, .dconst 0, 0, 0, 0, 0), (34, .goto 12, 0, 0, 0, 0), (37, .aload_n 2, 0, 0, 0, 0), (38, .iload_n 1, 0, 0, 0, 0), (39, .invokevirtual 202, 0, 999, 0, 0), (42, .l2d, 0, 0, 0, 0), (43, .iload_n 3, 0, 0, 0, 0), (44, .i2d, 0, 0, 0, 0), (45, .ddiv, 0, 0, 0, 0), (46, .dreturn, 0, 0, 0, 0)]
def mC45 : List (Nat × Instr × Nat × Nat × Nat × Nat) := [(0, .aload_n 0, 0, 0, 0, 0), (1, .invokevirtual 124, 0, 59, 0, 325), (4, .getfield 209, 0, 5, 1, 252), (7, .astore_n 3, 0, 0, 0, 0), (8, .iload_n 1, 0, 0, 0, 0), (9, .ifCond .lt 11, 0, 0, 0, 0), (12, .iload_n 1, 0, 0, 0, 0), (13, .aload_n 3, 0, 0, 0, 0), (14, .getfield 213, 0, 2, 3, 237), (17, .if_icmp .lt 13, 0, 0, 0, 0), (20, .new 112, 0, 995, 19, 0), (23, .dup, 0, 0, 0, 0), (24, .ldc 216, 999, 0, 0, 0), (26, .invokespecial 116, 0, 999, 0, 0), (29, .athrow, 0, 0, 0, 0), (30, .iload_n 2, 0, 0, 0, 0), (31, .ifCond .lt 8, 0, 0, 0, 0), (34, .iload_n 2, 0, 0, 0, 0), (35, .iconst 2, 0, 0, 0, 0), (36, .if_icmp .le 13, 0, 0, 0, 0), (39, .new 49, 0, 995, 20, 0), (42, .dup, 0, 0, 0, 0), (43, .ldc 218, 999, 0, 0, 0), (45, .invokespecial 53, 0, 999, 0, 0), (48, .athrow, 0, 0, 0, 0), (49, .aload_n 3, 0, 0, 0, 0), (50, .iload_n 1, 0, 0, 0, 0), (51, .iload_n 2, 0, 0, 0, 0), (52, .invokevirtual 220, 0, 999, 0, 0), (55, .ireturn, 0, 0, 0, 0)]
def mC46 : List (Nat × Instr × Nat × Nat × Nat × Nat) := [(0, .aload_n 0, 0, 0, 0, 0), (1, .invokevirtual 124, 0, 59, 0, 325), (4, .astore_n 2, 0, 0, 0, 0), (5, .aload_n 2, 0, 0, 0, 0), (6, .iload_n 1, 0, 0, 0, 0), (7, .invokevirtual 223, 0, 17, 1, 903), (10, .ifCond .ne 13, 0, 0, 0, 0), (13, .new 112, 0, 995, 21, 0), (16, .dup, 0, 0, 0, 0), (17, .ldc 226, 999, 0, 0, 0), (19, .invokespecial 116, 0, 999, 0, 0), (22, .athrow, 0, 0, 0, 0), (23, .aload_n 2, 0, 0, 0, 0), (24, .getfield 228, 0, 5, 2, 254), (27, .iload_n 1, 0, 0, 0, 0), (28, .invokevirtual 92, 0, 2, 1, 385), (31, .ireturn, 0, 0, 0, 0)]
def mC47 : List (Nat × Instr × Nat × Nat × Nat × Nat) := [(0, .aload_n 0, 0, 0, 0, 0), (1, .invokevirtual 124, 0, 59, 0, 325), (4, .astore_n 3, 0, 0, 0, 0), (5, .aload_n 3, 0, 0, 0, 0), (6, .iload_n 1, 0, 0, 0, 0), (7, .invokevirtual 223, 0, 17, 1, 903), (10, .ifCond .eq 11, 0, 0, 0, 0), (13, .aload_n 3, 0, 0, 0, 0), (14, .iload_n 2, 0, 0, 0, 0), (15, .invokevirtual 186, 0, 16, 1, 855), (18, .ifCond .ne 13, 0, 0, 0, 0), (21, .new 112, 0, 995, 22, 0), (24, .dup, 0, 0, 0, 0), (25, .ldc 231, 999, 0, 0, 0), (27, .invokespecial 116, 0, 999, 0, 0), (30, .athrow, 0, 0, 0, 0), (31, .aload_n 3, 0, 0, 0, 0), (32, .iload_n 1, 0, 0, 0, 0), (33, .iload_n 2, 0, 0, 0, 0), (34, .invokevirtual 233, 0, 999, 0, 0), (37, .ireturn, 0, 0, 0, 0)]
def mC48 : List (Nat × Instr × Nat × Nat × Nat × Nat) := [(0, .aload_n 0, 0, 0, 0, 0), (1, .invokevirtual 124, 0, 59, 0, 325), (4, .astore_n 3, 0, 0, 0, 0), (5, .aload_n 3, 0, 0, 0, 0), (6, .iload_n 1, 0, 0, 0, 0), (7, .invokevirtual 186, 0, 16, 1, 855), (10, .ifCond .ne 13, 0, 0, 0, 0), (13, .new 112, 0, 995, 16, 0), (16, .dup, 0, 0, 0, 0), (17, .ldc 189, 999, 0, 0, 0), (19, .invokespecial 116, 0, 999, 0, 0), (22, .athrow, 0, 0, 0, 0), (23, .aload_n 3, 0, 0, 0, 0), (24, .iload_n 1, 0, 0, 0, 0), (25, .iload_n 2, 0, 0, 0, 0), (26, .invokevirtual 236, 0, 999, 0, 0), (29, .ireturn, 0, 0, 0, 0)]
def mC49 : List (Nat × Instr × Nat × Nat × Nat × Nat) := [(0, .iload_n 1, 0, 0, 0, 0), (1, .invokestatic 131, 0, 57, 1, 812), (4, .ifCond .ne 13, 0, 0, 0, 0), (7, .new 49, 0, 995, 11, 0), (10, .dup, 0, 0, 0, 0), (11, .ldc 134, 999, 0, 0, 0), (13, .invokespecial 53, 0, 999, 0, 0), (16, .athrow, 0, 0, 0, 0), (17, .aload_n 0, 0, 0, 0, 0), (18, .iload_n 1, 0, 0, 0, 0), (19, .invokevirtual 239, 0, 60, 1, 609), (22, .getfield 242, 0, 5, 11, 265), (25, .ireturn, 0, 0, 0, 0)]
def mC50 : List (Nat × Instr × Nat × Nat × Nat × Nat) := [(0, .aload_n 0, 0, 0, 0, 0), (1, .invokevirtual 124, 0, 59, 0, 325), (4, .astore_n 3, 0, 0, 0, 0), (5, .aload_n 3, 0, 0, 0, 0), (6, .iload_n 1, 0, 0, 0, 0), (7, .invokevirtual 186, 0, 16, 1, 855), (10, .ifCond .ne 13, 0, 0, 0, 0), (13, .new 112, 0, 995, 16, 0), (16, .dup, 0, 0, 0, 0), (17, .ldc 189, 999, 0, 0, 0), (19, .invokespecial 116, 0, 999, 0, 0), (22, .athrow, 0, 0, 0, 0), (23, .iload_n 2, 0, 0, 0, 0), (24, .invokestatic 104, 0, 58, 1, 768), (27, .ifCond .ne 13, 0, 0, 0, 0), (30, .new 49, 0, 995, 7, 0), (33, .dup, 0, 0, 0, 0), (34, .ldc 107, 999, 0, 0, 0), (36, .invokespecial 53, 0, 999, 0, 0), (39, .athrow, 0, 0, 0, 0), (40, .aload_n 3, 0, 0, 0, 0), (41, .iload_n 1, 0, 0, 0, 0), (42, .aload_n 3, 0, 0, 0, 0), (43, .getfield 245, 0, 5, 10, 263), (46, .invokevirtual 248, 0, 999, 0, 0), (49, .aload_n 3, 0, 0, 0, 0), (50, .iload_n 2, 0, 0, 0, 0), (51, .invokevirtual 251, 0, 999, 0, 0), (54, .ireturn, 0, 0, 0, 0)]
def mC51 : List (Nat × Instr × Nat × Nat × Nat × Nat) := [(0, .aload_n 0, 0, 0, 0, 0), (1, .invokevirtual 124, 0, 59, 0, 325), (4, .astore_n 1, 0, 0, 0, 0), (5, .ldc2_w 254, 0, 58075, 0, 536), (8, .lstore_n 2, 0, 0, 0, 0), (9, .iconst 0, 0, 0, 0, 0), (10, .istore 4, 0, 0, 0, 0), (12, .iload 4, 0, 0, 0, 0), (14, .iconst 2, 0, 0, 0, 0), (15, .if_icmp .gt 21, 0, 0, 0, 0), (18, .lload_n 2, 0, 0, 0, 0), (19, .aload_n 1, 0, 0, 0, 0), (20, .iload 4, 0, 0, 0, 0), (22, .invokevirtual 128, 0, 18, 1, 537), (25, .i2l, 0, 0, 0, 0), (26, .invokestatic 256, 0, 55, 2, 541), (29, .lstore_n 2, 0, 0, 0, 0), (30, .iinc 4 1, 0, 0, 0, 0), (33, .goto (-21), 0, 0, 0, 0), (36, .iconst 0, 0, 0, 0, 0), (37, .istore 4, 0, 0, 0, 0), (39, .iload 4, 0, 0, 0, 0), (41, .iconst 3, 0, 0, 0, 0), (42, .if_icmp .gt 27, 0, 0, 0, 0), (45, .lload_n 2, 0, 0, 0, 0), (46, .aload_n 0, 0, 0, 0, 0), (47, .iload 4, 0, 0, 0, 0), (49, .invokevirtual 139, 0, 61, 1, 398), (52, .getfield 143, 0, 5, 0, 250), (55, .invokevirtual 147, 0, 9, 0, 390), (58, .i2l, 0, 0, 0, 0), (59, .invokestatic 256, 0, 55, 2, 541), (62, .lstore_n 2, 0, 0, 0, 0), (63, .iinc 4 1, 0, 0, 0, 0), (66, .goto (-27), 0, 0, 0, 0), (69, .lload_n 2, 0, 0, 0, 0), (70, .aload_n 0, 0, 0, 0, 0), (71, .getfield 12, 0, 8, 0, 295), (74, .getfield 67, 0, 6, 1, 120), (77, .i2l, 0, 0, 0, 0), (78, .invokestatic 256, 0, 55, 2, 541), (81, .lstore_n 2, 0, 0, 0, 0), (82, .iconst 1, 0, 0, 0, 0), (83, .istore 4, 0, 0, 0, 0), (85, .iload 4, 0, 0, 0, 0), (87, .bipush 6, 0, 0, 0, 0), (89, .if_icmp .gt 21, 0, 0, 0, 0), (92, .lload_n 2, 0, 0, 0, 0), (93, .aload_n 1, 0, 0, 0, 0), (94, .iload 4, 0, 0, 0, 0), (96, .invokevirtual 155, 0, 19, 1, 545), (99, .i2l, 0, 0, 0, 0), (100, .invokestatic 256, 0, 55, 2, 541), (103, .lstore_n 2, 0, 0, 0, 0), (104, .iinc 4 1, 0, 0, 0, 0), (107, .goto (-22), 0, 0, 0, 0), (110, .lload_n 2, 0, 0, 0, 0), (111, .aload_n 1, 0, 0, 0, 0), (112, .invokestatic 260, 0, 52, 2, 556), (115, .lstore_n 2, 0, 0, 0, 0), (116, .lload_n 2, 0, 0, 0, 0), (117, .aload_n 1, 0, 0, 0, 0), (118, .invokestatic 264, 0, 53, 2, 565), (121, .lstore_n 2, 0, 0, 0, 0), (122, .lload_n 2, 0, 0, 0, 0), (123, .aload_n 1, 0, 0, 0, 0), (124, .invokestatic 267, 0, 54, 2, 602), (127, .lstore_n 2, 0, 0, 0, 0), (128, .iconst 0, 0, 0, 0, 0), (129, .istore 4, 0, 0, 0, 0), (131, .iload 4, 0, 0, 0, 0), (133, .iconst 3, 0, 0, 0, 0), (134, .if_icmp .gt 24, 0, 0, 0, 0), (137, .lload_n 2, 0, 0, 0, 0), (138, .aload_n 0, 0, 0, 0, 0), (139, .iload 4, 0, 0, 0, 0), (141, .invokevirtual 239, 0, 60, 1, 609), (144, .getfield 242, 0, 5, 11, 265), (147, .i2l, 0, 0, 0, 0), (148, .invokestatic 256, 0, 55, 2, 541), (151, .lstore_n 2, 0, 0, 0, 0), (152, .iinc 4 1, 0, 0, 0, 0), (155, .goto (-24), 0, 0, 0, 0), (158, .lload_n 2, 0, 0, 0, 0), (159, .lreturn, 0, 0, 0, 0)]
def mC52 : List (Nat × Instr × Nat × Nat × Nat × Nat) := [(0, .lload_n 0, 0, 0, 0, 0), (1, .lstore_n 3, 0, 0, 0, 0), (2, .iconst 0, 0, 0, 0, 0), (3, .istore 5, 0, 0, 0, 0), (5, .iload 5, 0, 0, 0, 0), (7, .aload_n 2, 0, 0, 0, 0), (8, .getfield 143, 0, 5, 0, 250), (11, .getfield 158, 0, 4, 9, 189), (14, .if_icmp .ge 92, 0, 0, 0, 0), (17, .lload_n 3, 0, 0, 0, 0), (18, .aload_n 2, 0, 0, 0, 0), (19, .getfield 143, 0, 5, 0, 250), (22, .getfield 163, 0, 4, 6, 183), (25, .iload 5, 0, 0, 0, 0), (27, .invokevirtual 92, 0, 2, 1, 385), (30, .i2l, 0, 0, 0, 0), (31, .invokestatic 256, 0, 55, 2, 541), (34, .lstore_n 3, 0, 0, 0, 0), (35, .iconst 0, 0, 0, 0, 0), (36, .istore 6, 0, 0, 0, 0), (38, .iload 6, 0, 0, 0, 0), (40, .aload_n 2, 0, 0, 0, 0), (41, .getfield 143, 0, 5, 0, 250), (44, .iload 5, 0, 0, 0, 0), (46, .invokevirtual 270, 0, 999, 0, 0), (49, .if_icmp .ge 51, 0, 0, 0, 0), (52, .aload_n 2, 0, 0, 0, 0), (53, .getfield 143, 0, 5, 0, 250), (56, .iload 5, 0, 0, 0, 0), (58, .iload 6, 0, 0, 0, 0), (60, .invokevirtual 166, 0, 10, 2, 560), (63, .istore 7, 0, 0, 0, 0), (65, .iconst 0, 0, 0, 0, 0), (66, .istore 8, 0, 0, 0, 0), (68, .iload 8, 0, 0, 0, 0), (70, .iconst 4, 0, 0, 0, 0), (71, .if_icmp .gt 23, 0, 0, 0, 0), (74, .lload_n 3, 0, 0, 0, 0), (75, .aload_n 2, 0, 0, 0, 0), (76, .iload 7, 0, 0, 0, 0), (78, .iload 8, 0, 0, 0, 0), (80, .invokevirtual 174, 0, 999, 0, 0), (83, .i2l, 0, 0, 0, 0), (84, .invokestatic 256, 0, 55, 2, 541), (87, .lstore_n 3, 0, 0, 0, 0), (88, .iinc 8 1, 0, 0, 0, 0), (91, .goto (-23), 0, 0, 0, 0), (94, .iinc 6 1, 0, 0, 0, 0), (97, .goto (-59), 0, 0, 0, 0), (100, .iinc 5 1, 0, 0, 0, 0), (103, .goto (-98), 0, 0, 0, 0), (106, .lload_n 3, 0, 0, 0, 0), (107, .lreturn, 0, 0, 0, 0)]
def mC53 : List (Nat × Instr × Nat × Nat × Nat × Nat) := [(0, .lload_n 0, 0, 0, 0, 0), (1, .lstore_n 3, 0, 0, 0, 0), (2, .iconst 0, 0, 0, 0, 0), (3, .istore 5, 0, 0, 0, 0), (5, .iload 5, 0, 0, 0, 0), (7, .aload_n 2, 0, 0, 0, 0), (8, .getfield 143, 0, 5, 0, 250), (11, .invokevirtual 273, 0, 8, 0, 568), (14, .if_icmp .ge 75, 0, 0, 0, 0), (17, .iconst 0, 0, 0, 0, 0), (18, .istore 6, 0, 0, 0, 0), (20, .iload 6, 0, 0, 0, 0), (22, .iconst 4, 0, 0, 0, 0), (23, .if_icmp .gt 23, 0, 0, 0, 0), (26, .lload_n 3, 0, 0, 0, 0), (27, .aload_n 2, 0, 0, 0, 0), (28, .iload 5, 0, 0, 0, 0), (30, .iload 6, 0, 0, 0, 0), (32, .invokevirtual 193, 0, 999, 0, 0), (35, .i2l, 0, 0, 0, 0), (36, .invokestatic 256, 0, 55, 2, 541), (39, .lstore_n 3, 0, 0, 0, 0), (40, .iinc 6 1, 0, 0, 0, 0), (43, .goto (-23), 0, 0, 0, 0), (46, .lload_n 3, 0, 0, 0, 0), (47, .aload_n 2, 0, 0, 0, 0), (48, .iload 5, 0, 0, 0, 0), (50, .iconst 0, 0, 0, 0, 0), (51, .invokevirtual 198, 0, 999, 0, 0), (54, .i2l, 0, 0, 0, 0), (55, .invokestatic 256, 0, 55, 2, 541), (58, .lstore_n 3, 0, 0, 0, 0), (59, .lload_n 3, 0, 0, 0, 0), (60, .aload_n 2, 0, 0, 0, 0), (61, .iload 5, 0, 0, 0, 0), (63, .iconst 1, 0, 0, 0, 0), (64, .invokevirtual 198, 0, 999, 0, 0), (67, .i2l, 0, 0, 0, 0), (68, .invokestatic 256, 0, 55, 2, 541), (71, .lstore_n 3, 0, 0, 0, 0), (72, .lload_n 3, 0, 0, 0, 0), (73, .aload_n 2, 0, 0, 0, 0), (74, .iload 5, 0, 0, 0, 0), (76, .invokevirtual 202, 0, 999, 0, 0), (79, .invokestatic 256, 0, 55, 2, 541), (82, .lstore_n 3, 0, 0, 0, 0), (83, .iinc 5 1, 0, 0, 0, 0), (86, .goto (-81), 0, 0, 0, 0), (89, .lload_n 3, 0, 0, 0, 0), (90, .lreturn, 0, 0, 0, 0)]
def mC54 : List (Nat × Instr × Nat × Nat × Nat × Nat) := [(0, .lload_n 0, 0, 0, 0, 0), (1, .lstore_n 3, 0, 0, 0, 0), (2, .iconst 0, 0, 0, 0, 0), (3, .istore 5, 0, 0, 0, 0), (5, .iload 5, 0, 0, 0, 0), (7, .aload_n 2, 0, 0, 0, 0), (8, .getfield 209, 0, 5, 1, 252), (11, .getfield 213, 0, 2, 3, 237), (14, .if_icmp .ge 41, 0, 0, 0, 0), (17, .iconst 0, 0, 0, 0, 0), (18, .istore 6, 0, 0, 0, 0), (20, .iload 6, 0, 0, 0, 0), (22, .iconst 2, 0, 0, 0, 0), (23, .if_icmp .gt 26, 0, 0, 0, 0), (26, .lload_n 3, 0, 0, 0, 0), (27, .aload_n 2, 0, 0, 0, 0), (28, .getfield 209, 0, 5, 1, 252), (31, .iload 5, 0, 0, 0, 0), (33, .iload 6, 0, 0, 0, 0), (35, .invokevirtual 220, 0, 999, 0, 0), (38, .i2l, 0, 0, 0, 0), (39, .invokestatic 256, 0, 55, 2, 541), (42, .lstore_n 3, 0, 0, 0, 0), (43, .iinc 6 1, 0, 0, 0, 0), (46, .goto (-26), 0, 0, 0, 0), (49, .iinc 5 1, 0, 0, 0, 0), (52, .goto (-47), 0, 0, 0, 0), (55, .iconst 0, 0, 0, 0, 0), (56, .istore 5, 0, 0, 0, 0), (58, .iload 5, 0, 0, 0, 0), (60, .aload_n 2, 0, 0, 0, 0), (61, .getfield 242, 0, 5, 11, 265), (64, .if_icmp .ge 24, 0, 0, 0, 0), (67, .lload_n 3, 0, 0, 0, 0), (68, .aload_n 2, 0, 0, 0, 0), (69, .getfield 228, 0, 5, 2, 254), (72, .iload 5, 0, 0, 0, 0), (74, .invokevirtual 92, 0, 2, 1, 385), (77, .i2l, 0, 0, 0, 0), (78, .invokestatic 256, 0, 55, 2, 541), (81, .lstore_n 3, 0, 0, 0, 0), (82, .iinc 5 1, 0, 0, 0, 0), (85, .goto (-27), 0, 0, 0, 0), (88, .lload_n 3, 0, 0, 0, 0), (89, .lreturn, 0, 0, 0, 0)]
def mC55 : List (Nat × Instr × Nat × Nat × Nat × Nat) := [(0, .lload_n 0, 0, 0, 0, 0), (1, .ldc2_w 276, 0, 31, 0, 544), (4, .lmul, 0, 0, 0, 0), (5, .lload_n 2, 0, 0, 0, 0), (6, .ladd, 0, 0, 0, 0), (7, .lreturn, 0, 0, 0, 0)]
def mC56 : List (Nat × Instr × Nat × Nat × Nat × Nat) := [(0, .iload_n 0, 0, 0, 0, 0), (1, .ifCond .lt 13, 0, 0, 0, 0), (4, .iload_n 0, 0, 0, 0, 0), (5, .bipush 45, 0, 0, 0, 0), (7, .if_icmp .gt 7, 0, 0, 0, 0), (10, .iconst 1, 0, 0, 0, 0), (11, .goto 4, 0, 0, 0, 0), (14, .iconst 0, 0, 0, 0, 0), (15, .ireturn, 0, 0, 0, 0)]
def mC57 : List (Nat × Instr × Nat × Nat × Nat × Nat) := [(0, .iload_n 0, 0, 0, 0, 0), (1, .ifCond .lt 12, 0, 0, 0, 0), (4, .iload_n 0, 0, 0, 0, 0), (5, .iconst 3, 0, 0, 0, 0), (6, .if_icmp .gt 7, 0, 0, 0, 0), (9, .iconst 1, 0, 0, 0, 0), (10, .goto 4, 0, 0, 0, 0), (13, .iconst 0, 0, 0, 0, 0), (14, .ireturn, 0, 0, 0, 0)]
def mC58 : List (Nat × Instr × Nat × Nat × Nat × Nat) := [(0, .iload_n 0, 0, 0, 0, 0), (1, .iconst 1, 0, 0, 0, 0), (2, .if_icmp .lt 13, 0, 0, 0, 0), (5, .iload_n 0, 0, 0, 0, 0), (6, .bipush 100, 0, 0, 0, 0), (8, .if_icmp .gt 7, 0, 0, 0, 0), (11, .iconst 1, 0, 0, 0, 0), (12, .goto 4, 0, 0, 0, 0), (15, .iconst 0, 0, 0, 0, 0), (16, .ireturn, 0, 0, 0, 0)]
def mC59 : List (Nat × Instr × Nat × Nat × Nat × Nat) := [(0, .aload_n 0, 0, 0, 0, 0), (1, .invokevirtual 136, 0, 62, 0, 329), (4, .aload_n 0, 0, 0, 0, 0), (5, .getfield 19, 0, 8, 1, 296), (8, .getfield 88, 0, 7, 0, 140), (11, .iconst 0, 0, 0, 0, 0), (12, .invokevirtual 92, 0, 2, 1, 385), (15, .istore_n 1, 0, 0, 0, 0), (16, .aload_n 0, 0, 0, 0, 0), (17, .iload_n 1, 0, 0, 0, 0), (18, .iconst (-1), 0, 0, 0, 0), (19, .if_icmp .ne 10, 0, 0, 0, 0), (22, .aload_n 0, 0, 0, 0, 0), (23, .invokevirtual 278, 0, 64, 0, 386), (26, .goto 4, 0, 0, 0, 0), (29, .iload_n 1, 0, 0, 0, 0), (30, .invokevirtual 139, 0, 61, 1, 398), (33, .astore_n 2, 0, 0, 0, 0), (34, .aload_n 2, 0, 0, 0, 0), (35, .aload_n 0, 0, 0, 0, 0), (36, .getfield 19, 0, 8, 1, 296), (39, .invokevirtual 281, 0, 13, 1, 402), (42, .aload_n 2, 0, 0, 0, 0), (43, .areturn, 0, 0, 0, 0)]
def mC60 : List (Nat × Instr × Nat × Nat × Nat × Nat) := [(0, .aload_n 0, 0, 0, 0, 0), (1, .invokevirtual 136, 0, 62, 0, 329), (4, .aload_n 0, 0, 0, 0, 0), (5, .iload_n 1, 0, 0, 0, 0), (6, .invokevirtual 139, 0, 61, 1, 398), (9, .astore_n 2, 0, 0, 0, 0), (10, .aload_n 2, 0, 0, 0, 0), (11, .aload_n 0, 0, 0, 0, 0), (12, .getfield 19, 0, 8, 1, 296), (15, .invokevirtual 281, 0, 13, 1, 402), (18, .aload_n 2, 0, 0, 0, 0), (19, .areturn, 0, 0, 0, 0)]
def mC61 : List (Nat × Instr × Nat × Nat × Nat × Nat) := [(0, .iload_n 1, 0, 0, 0, 0), (1, .tableswitch 42 0 2 #[27, 32, 37], 27, 0, 0, 0), (28, .aload_n 0, 0, 0, 0, 0), (29, .getfield 28, 0, 8, 2, 297), (32, .areturn, 0, 0, 0, 0), (33, .aload_n 0, 0, 0, 0, 0), (34, .getfield 32, 0, 8, 3, 298), (37, .areturn, 0, 0, 0, 0), (38, .aload_n 0, 0, 0, 0, 0), (39, .getfield 35, 0, 8, 4, 299), (42, .areturn, 0, 0, 0, 0), (43, .aload_n 0, 0, 0, 0, 0), (44, .getfield 38, 0, 8, 5, 300), (47, .areturn, 0, 0, 0, 0)]
def mC62 : List (Nat × Instr × Nat × Nat × Nat × Nat) := [(0, .aload_n 0, 0, 0, 0, 0), (1, .getfield 41, 0, 8, 6, 301), (4, .ifCond .eq 4, 0, 0, 0, 0), (7, .return_, 0, 0, 0, 0), (8, .aload_n 0, 0, 0, 0, 0), (9, .getfield 28, 0, 8, 2, 297), (12, .getfield 143, 0, 5, 0, 250), (15, .aload_n 0, 0, 0, 0, 0), (16, .getfield 12, 0, 8, 0, 295), (19, .iconst 0, 0, 0, 0, 0), (20, .invokevirtual 285, 0, 5, 2, 333), (23, .aload_n 0, 0, 0, 0, 0), (24, .getfield 32, 0, 8, 3, 298), (27, .getfield 143, 0, 5, 0, 250), (30, .aload_n 0, 0, 0, 0, 0), (31, .getfield 12, 0, 8, 0, 295), (34, .iconst 1, 0, 0, 0, 0), (35, .invokevirtual 285, 0, 5, 2, 333), (38, .aload_n 0, 0, 0, 0, 0), (39, .getfield 35, 0, 8, 4, 299), (42, .getfield 143, 0, 5, 0, 250), (45, .aload_n 0, 0, 0, 0, 0), (46, .getfield 12, 0, 8, 0, 295), (49, .iconst 2, 0, 0, 0, 0), (50, .invokevirtual 285, 0, 5, 2, 333), (53, .aload_n 0, 0, 0, 0, 0), (54, .getfield 38, 0, 8, 5, 300), (57, .getfield 143, 0, 5, 0, 250), (60, .aload_n 0, 0, 0, 0, 0), (61, .getfield 12, 0, 8, 0, 295), (64, .iconst 3, 0, 0, 0, 0), (65, .invokevirtual 285, 0, 5, 2, 333), (68, .aload_n 0, 0, 0, 0, 0), (69, .iconst 1, 0, 0, 0, 0), (70, .putfield 41, 0, 8, 6, 301), (73, .aload_n 0, 0, 0, 0, 0), (74, .invokevirtual 101, 0, 63, 0, 381), (77, .return_, 0, 0, 0, 0)]
def mC63 : List (Nat × Instr × Nat × Nat × Nat × Nat) := [(0, .aload_n 0, 0, 0, 0, 0), (1, .getfield 28, 0, 8, 2, 297), (4, .iconst 0, 0, 0, 0, 0), (5, .putfield 289, 0, 5, 12, 267), (8, .aload_n 0, 0, 0, 0, 0), (9, .getfield 32, 0, 8, 3, 298), (12, .iconst 0, 0, 0, 0, 0), (13, .putfield 289, 0, 5, 12, 267), (16, .aload_n 0, 0, 0, 0, 0), (17, .getfield 35, 0, 8, 4, 299), (20, .iconst 0, 0, 0, 0, 0), (21, .putfield 289, 0, 5, 12, 267), (24, .aload_n 0, 0, 0, 0, 0), (25, .getfield 38, 0, 8, 5, 300), (28, .iconst 0, 0, 0, 0, 0), (29, .putfield 289, 0, 5, 12, 267), (32, .return_, 0, 0, 0, 0)]
def mC64 : List (Nat × Instr × Nat × Nat × Nat × Nat) := [(0, .iconst 0, 0, 0, 0, 0), (1, .istore_n 1, 0, 0, 0, 0), (2, .aload_n 0, 0, 0, 0, 0), (3, .getfield 28, 0, 8, 2, 297), (6, .getfield 143, 0, 5, 0, 250), (9, .invokevirtual 147, 0, 9, 0, 390), (12, .istore_n 2, 0, 0, 0, 0), (13, .iconst 1, 0, 0, 0, 0), (14, .istore_n 3, 0, 0, 0, 0), (15, .iload_n 3, 0, 0, 0, 0), (16, .iconst 3, 0, 0, 0, 0), (17, .if_icmp .gt 33, 0, 0, 0, 0), (20, .aload_n 0, 0, 0, 0, 0), (21, .iload_n 3, 0, 0, 0, 0), (22, .invokevirtual 139, 0, 61, 1, 398), (25, .getfield 143, 0, 5, 0, 250), (28, .invokevirtual 147, 0, 9, 0, 390), (31, .istore 4, 0, 0, 0, 0), (33, .iload 4, 0, 0, 0, 0), (35, .iload_n 2, 0, 0, 0, 0), (36, .if_icmp .le 8, 0, 0, 0, 0), (39, .iload_n 3, 0, 0, 0, 0), (40, .istore_n 1, 0, 0, 0, 0), (41, .iload 4, 0, 0, 0, 0), (43, .istore_n 2, 0, 0, 0, 0), (44, .iinc 3 1, 0, 0, 0, 0), (47, .goto (-32), 0, 0, 0, 0), (50, .iload_n 1, 0, 0, 0, 0), (51, .ireturn, 0, 0, 0, 0)]
def mC65 : List (Nat × Instr × Nat × Nat × Nat × Nat) := [(0, .aload_n 0, 0, 0, 0, 0), (1, .aload_n 1, 0, 0, 0, 0), (2, .putfield 3, 0, 10, 2, 1182), (5, .aload_n 0, 0, 0, 0, 0), (6, .invokespecial 9, 0, 998, 0, 1179), (9, .aload_n 0, 0, 0, 0, 0), (10, .iload_n 2, 0, 0, 0, 0), (11, .putfield 15, 0, 10, 0, 1180), (14, .return_, 0, 0, 0, 0)]
def mC66 : List (Nat × Instr × Nat × Nat × Nat × Nat) := [(0, .aload_n 0, 0, 0, 0, 0), (1, .getfield 19, 0, 10, 1, 1181), (4, .aload_n 0, 0, 0, 0, 0), (5, .getfield 3, 0, 10, 2, 1182), (8, .getfield 22, 1, 13, 1, 5), (11, .invokevirtual 26, 0, 121, 0, 1200), (14, .if_icmp .ne 7, 0, 0, 0, 0), (17, .iconst 1, 0, 0, 0, 0), (18, .goto 4, 0, 0, 0, 0), (21, .iconst 0, 0, 0, 0, 0), (22, .ireturn, 0, 0, 0, 0)]
def mC67 : List (Nat × Instr × Nat × Nat × Nat × Nat) := [(0, .new 27, 0, 1, 0, 1194), (3, .dup, 0, 0, 0, 0), (4, .invokespecial 45, 0, 118, 0, 1195), (7, .astore_n 1, 0, 0, 0, 0), (8, .aload_n 0, 0, 0, 0, 0), (9, .invokevirtual 32, 0, 66, 0, 1196), (12, .ifCond .ne 122, 0, 0, 0, 0), (15, .aload_n 1, 0, 0, 0, 0), (16, .invokevirtual 26, 0, 121, 0, 1200), (19, .bipush 60, 0, 0, 0, 0), (21, .if_icmp .ge 113, 0, 0, 0, 0), (24, .new 76, 0, 11, 0, 1201), (27, .dup, 0, 0, 0, 0), (28, .invokespecial 78, 0, 999, 0, 0), (31, .astore_n 2, 0, 0, 0, 0), (32, .aload_n 2, 0, 0, 0, 0), (33, .aload_n 0, 0, 0, 0, 0), (34, .invokevirtual 79, 0, 999, 0, 0), (37, .invokevirtual 83, 0, 999, 0, 0), (40, .aload_n 0, 0, 0, 0, 0), (41, .invokevirtual 32, 0, 66, 0, 1196), (44, .ifCond .ne 51, 0, 0, 0, 0), (47, .aload_n 0, 0, 0, 0, 0), (48, .getfield 3, 0, 10, 2, 1182), (51, .getfield 22, 1, 13, 1, 5), (54, .aload_n 0, 0, 0, 0, 0), (55, .getfield 19, 0, 10, 1, 1181), (58, .invokevirtual 36, 0, 999, 0, 0), (61, .checkcast 40, 0, 0, 0, 0), (64, .invokevirtual 42, 0, 999, 0, 0), (67, .aload_n 0, 0, 0, 0, 0), (68, .getfield 15, 0, 10, 0, 1180), (71, .if_icmp .ne 24, 0, 0, 0, 0), (74, .aload_n 0, 0, 0, 0, 0), (75, .dup, 0, 0, 0, 0), (76, .getfield 19, 0, 10, 1, 1181), (79, .iconst 1, 0, 0, 0, 0), (80, .iadd, 0, 0, 0, 0), (81, .putfield 19, 0, 10, 1, 1181), (84, .aload_n 2, 0, 0, 0, 0), (85, .aload_n 0, 0, 0, 0, 0), (86, .invokevirtual 79, 0, 999, 0, 0), (89, .invokevirtual 83, 0, 999, 0, 0), (92, .goto (-52), 0, 0, 0, 0), (95, .aload_n 0, 0, 0, 0, 0), (96, .aload_n 0, 0, 0, 0, 0), (97, .getfield 19, 0, 10, 1, 1181), (100, .iconst 1, 0, 0, 0, 0), (101, .iadd, 0, 0, 0, 0), (102, .aload_n 0, 0, 0, 0, 0), (103, .getfield 3, 0, 10, 2, 1182), (106, .getfield 22, 1, 13, 1, 5), (109, .invokevirtual 26, 0, 121, 0, 1200), (112, .invokestatic 86, 0, 997, 0, 1299), (115, .putfield 19, 0, 10, 1, 1181), (118, .aload_n 2, 0, 0, 0, 0), (119, .invokevirtual 92, 0, 999, 0, 0), (122, .ifCond .ne 9, 0, 0, 0, 0), (125, .aload_n 1, 0, 0, 0, 0), (126, .aload_n 2, 0, 0, 0, 0), (127, .invokevirtual 53, 0, 124, 1, 1276), (130, .pop, 0, 0, 0, 0), (131, .goto (-123), 0, 0, 0, 0), (134, .aload_n 1, 0, 0, 0, 0), (135, .areturn, 0, 0, 0, 0)]
def mC68 : List (Nat × Instr × Nat × Nat × Nat × Nat) := [(0, .aload_n 0, 0, 0, 0, 0), (1, .aload_n 1, 0, 0, 0, 0), (2, .putfield 3, 0, 12, 9, 1430), (5, .aload_n 0, 0, 0, 0, 0), (6, .invokespecial 9, 0, 998, 0, 1318), (9, .aload_n 0, 0, 0, 0, 0), (10, .new 15, 0, 1, 0, 1319), (13, .dup, 0, 0, 0, 0), (14, .invokespecial 17, 0, 118, 0, 1320), (17, .putfield 18, 0, 12, 7, 1426), (20, .aload_n 0, 0, 0, 0, 0), (21, .new 15, 0, 1, 0, 1319), (24, .dup, 0, 0, 0, 0), (25, .invokespecial 17, 0, 118, 0, 1320), (28, .putfield 22, 0, 12, 8, 1428), (31, .aload_n 0, 0, 0, 0, 0), (32, .iload_n 2, 0, 0, 0, 0), (33, .putfield 25, 0, 12, 0, 1414), (36, .aload_n 0, 0, 0, 0, 0), (37, .new 29, 0, 10, 0, 1321), (40, .dup, 0, 0, 0, 0), (41, .aload_n 1, 0, 0, 0, 0), (42, .iload_n 2, 0, 0, 0, 0), (43, .invokespecial 31, 0, 65, 2, 1322), (46, .invokevirtual 34, 0, 67, 0, 1323), (49, .putfield 38, 0, 12, 1, 1416), (52, .aload_n 0, 0, 0, 0, 0), (53, .aload_n 0, 0, 0, 0, 0), (54, .getfield 38, 0, 12, 1, 1416), (57, .invokestatic 40, 1, 78, 1, 4), (60, .putfield 44, 0, 12, 2, 1418), (63, .aload_n 0, 0, 0, 0, 0), (64, .bipush 20, 0, 0, 0, 0), (66, .aload_n 0, 0, 0, 0, 0), (67, .getfield 44, 0, 12, 2, 1418), (70, .invokestatic 46, 0, 997, 0, 1325), (73, .putfield 52, 0, 12, 3, 1419), (76, .aload_n 0, 0, 0, 0, 0), (77, .aload_n 1, 0, 0, 0, 0), (78, .getfield 55, 1, 13, 2, 6), (81, .iconst 1, 0, 0, 0, 0), (82, .iaload, 0, 0, 0, 0), (83, .iconst (-1), 0, 0, 0, 0), (84, .if_icmp .ne 24, 0, 0, 0, 0), (87, .aload_n 0, 0, 0, 0, 0), (88, .iconst 1, 0, 0, 0, 0), (89, .invokevirtual 59, 0, 70, 1, 1326), (92, .aload_n 0, 0, 0, 0, 0), (93, .iconst 0, 0, 0, 0, 0), (94, .invokevirtual 59, 0, 70, 1, 1326), (97, .if_icmp .le 7, 0, 0, 0, 0), (100, .iconst 1, 0, 0, 0, 0), (101, .goto 13, 0, 0, 0, 0), (104, .iconst 0, 0, 0, 0, 0), (105, .goto 9, 0, 0, 0, 0), (108, .aload_n 1, 0, 0, 0, 0), (109, .getfield 55, 1, 13, 2, 6), (112, .iconst 1, 0, 0, 0, 0), (113, .iaload, 0, 0, 0, 0), (114, .putfield 63, 0, 12, 4, 1421), (117, .aload_n 0, 0, 0, 0, 0), (118, .aload_n 1, 0, 0, 0, 0), (119, .getfield 55, 1, 13, 2, 6), (122, .iconst 2, 0, 0, 0, 0), (123, .iaload, 0, 0, 0, 0), (124, .iconst (-1), 0, 0, 0, 0), (125, .if_icmp .ne 10, 0, 0, 0, 0), (128, .aload_n 0, 0, 0, 0, 0), (129, .invokevirtual 66, 0, 71, 0, 1372), (132, .goto 18, 0, 0, 0, 0), (135, .aload_n 1, 0, 0, 0, 0), (136, .getfield 55, 1, 13, 2, 6), (139, .iconst 2, 0, 0, 0, 0), (140, .iaload, 0, 0, 0, 0), (141, .iconst 1, 0, 0, 0, 0), (142, .if_icmp .ne 7, 0, 0, 0, 0), (145, .iconst 1, 0, 0, 0, 0), (146, .goto 4, 0, 0, 0, 0), (149, .iconst 0, 0, 0, 0, 0), (150, .putfield 70, 0, 12, 5, 1423), (153, .aload_n 0, 0, 0, 0, 0), (154, .aload_n 0, 0, 0, 0, 0), (155, .getfield 52, 0, 12, 3, 1419), (158, .newarray .int, 0, 0, 0, 0), (160, .putfield 74, 0, 12, 6, 1425), (163, .iconst 0, 0, 0, 0, 0), (164, .istore_n 3, 0, 0, 0, 0), (165, .iload_n 3, 0, 0, 0, 0), (166, .aload_n 0, 0, 0, 0, 0), (167, .getfield 52, 0, 12, 3, 1419), (170, .if_icmp .ge 32, 0, 0, 0, 0), (173, .aload_n 0, 0, 0, 0, 0), (174, .getfield 74, 0, 12, 6, 1425), (177, .iload_n 3, 0, 0, 0, 0), (178, .aload_n 0, 0, 0, 0, 0), (179, .aload_n 0, 0, 0, 0, 0), (180, .iload_n 3, 0, 0, 0, 0), (181, .aload_n 0, 0, 0, 0, 0), (182, .invokevirtual 77, 0, 69, 0, 1385), (185, .invokevirtual 81, 0, 999, 0, 0), (188, .aload_n 1, 0, 0, 0, 0), (189, .getfield 85, 1, 13, 4, 8), (192, .invokevirtual 88, 0, 999, 0, 0), (195, .iastore, 0, 0, 0, 0), (196, .iinc 3 1, 0, 0, 0, 0), (199, .goto (-34), 0, 0, 0, 0), (202, .aload_n 0, 0, 0, 0, 0), (203, .invokevirtual 77, 0, 69, 0, 1385), (206, .istore_n 3, 0, 0, 0, 0), (207, .iload_n 3, 0, 0, 0, 0), (208, .aload_n 0, 0, 0, 0, 0), (209, .getfield 38, 0, 12, 1, 1416), (212, .invokevirtual 92, 0, 121, 0, 1330), (215, .if_icmp .ge 14, 0, 0, 0, 0), (218, .aload_n 0, 0, 0, 0, 0), (219, .iload_n 3, 0, 0, 0, 0), (220, .invokevirtual 95, 0, 999, 0, 0), (223, .iinc 3 1, 0, 0, 0, 0), (226, .goto (-19), 0, 0, 0, 0), (229, .return_, 0, 0, 0, 0)]
def mC69 : List (Nat × Instr × Nat × Nat × Nat × Nat) := [(0, .aload_n 0, 0, 0, 0, 0), (1, .getfield 70, 0, 12, 5, 1423), (4, .ifCond .eq 17, 0, 0, 0, 0), (7, .iconst 1, 0, 0, 0, 0), (8, .aload_n 0, 0, 0, 0, 0), (9, .getfield 38, 0, 12, 1, 1416), (12, .invokevirtual 92, 0, 121, 0, 1330), (15, .invokestatic 46, 0, 997, 0, 1325), (18, .goto 4, 0, 0, 0, 0), (21, .iconst 0, 0, 0, 0, 0), (22, .ireturn, 0, 0, 0, 0)]
def mC70 : List (Nat × Instr × Nat × Nat × Nat × Nat) := [(0, .iconst 0, 0, 0, 0, 0), (1, .istore_n 2, 0, 0, 0, 0), (2, .iconst 0, 0, 0, 0, 0), (3, .istore_n 3, 0, 0, 0, 0), (4, .iload_n 3, 0, 0, 0, 0), (5, .aload_n 0, 0, 0, 0, 0), (6, .getfield 38, 0, 12, 1, 1416), (9, .invokevirtual 92, 0, 121, 0, 1330), (12, .if_icmp .ge 78, 0, 0, 0, 0), (15, .iconst 0, 0, 0, 0, 0), (16, .istore 4, 0, 0, 0, 0), (18, .iload 4, 0, 0, 0, 0), (20, .aload_n 0, 0, 0, 0, 0), (21, .getfield 38, 0, 12, 1, 1416), (24, .iload_n 3, 0, 0, 0, 0), (25, .invokevirtual 99, 0, 999, 0, 0), (28, .checkcast 103, 0, 0, 0, 0), (31, .getfield 105, 0, 11, 0, 1210), (34, .invokevirtual 92, 0, 121, 0, 1330), (37, .if_icmp .ge 47, 0, 0, 0, 0), (40, .iload_n 2, 0, 0, 0, 0), (41, .aload_n 0, 0, 0, 0, 0), (42, .getfield 38, 0, 12, 1, 1416), (45, .iload_n 3, 0, 0, 0, 0), (46, .invokevirtual 99, 0, 999, 0, 0), (49, .checkcast 103, 0, 0, 0, 0), (52, .getfield 105, 0, 11, 0, 1210), (55, .iload 4, 0, 0, 0, 0), (57, .invokevirtual 99, 0, 999, 0, 0), (60, .checkcast 107, 0, 0, 0, 0), (63, .iload_n 1, 0, 0, 0, 0), (64, .invokevirtual 109, 0, 999, 0, 0), (67, .iconst 2, 0, 0, 0, 0), (68, .if_icmp .ne 7, 0, 0, 0, 0), (71, .iconst 1, 0, 0, 0, 0), (72, .goto 4, 0, 0, 0, 0), (75, .iconst 0, 0, 0, 0, 0), (76, .iadd, 0, 0, 0, 0), (77, .istore_n 2, 0, 0, 0, 0), (78, .iinc 4 1, 0, 0, 0, 0), (81, .goto (-63), 0, 0, 0, 0), (84, .iinc 3 1, 0, 0, 0, 0), (87, .goto (-83), 0, 0, 0, 0), (90, .iload_n 2, 0, 0, 0, 0), (91, .ireturn, 0, 0, 0, 0)]
def mC71 : List (Nat × Instr × Nat × Nat × Nat × Nat) := [(0, .aload_n 0, 0, 0, 0, 0), (1, .getfield 38, 0, 12, 1, 1416), (4, .invokevirtual 92, 0, 121, 0, 1330), (7, .iconst 2, 0, 0, 0, 0), (8, .if_icmp .lt 24, 0, 0, 0, 0), (11, .aload_n 0, 0, 0, 0, 0), (12, .getfield 38, 0, 12, 1, 1416), (15, .iconst 0, 0, 0, 0, 0), (16, .invokevirtual 99, 0, 999, 0, 0), (19, .checkcast 103, 0, 0, 0, 0), (22, .getfield 116, 0, 11, 1, 1214), (25, .aload_n 0, 0, 0, 0, 0), (26, .getfield 44, 0, 12, 2, 1418), (29, .if_icmp .eq 5, 0, 0, 0, 0), (32, .iconst 0, 0, 0, 0, 0), (33, .ireturn, 0, 0, 0, 0), (34, .iconst 0, 0, 0, 0, 0), (35, .istore_n 1, 0, 0, 0, 0), (36, .iload_n 1, 0, 0, 0, 0), (37, .aload_n 0, 0, 0, 0, 0), (38, .getfield 38, 0, 12, 1, 1416), (41, .iconst 0, 0, 0, 0, 0), (42, .invokevirtual 99, 0, 999, 0, 0), (45, .checkcast 103, 0, 0, 0, 0), (48, .getfield 105, 0, 11, 0, 1210), (51, .invokevirtual 92, 0, 121, 0, 1330), (54, .if_icmp .ge 43, 0, 0, 0, 0), (57, .aload_n 0, 0, 0, 0, 0), (58, .getfield 38, 0, 12, 1, 1416), (61, .iconst 0, 0, 0, 0, 0), (62, .invokevirtual 99, 0, 999, 0, 0), (65, .checkcast 103, 0, 0, 0, 0), (68, .getfield 105, 0, 11, 0, 1210), (71, .iload_n 1, 0, 0, 0, 0), (72, .invokevirtual 99, 0, 999, 0, 0), (75, .checkcast 107, 0, 0, 0, 0), (78, .aload_n 0, 0, 0, 0, 0), (79, .getfield 63, 0, 12, 4, 1421), (82, .invokevirtual 109, 0, 999, 0, 0), (85, .iconst 5, 0, 0, 0, 0), (86, .if_icmp .eq 5, 0, 0, 0, 0), (89, .iconst 0, 0, 0, 0, 0), (90, .ireturn, 0, 0, 0, 0), (91, .iinc 1 1, 0, 0, 0, 0), (94, .goto (-58), 0, 0, 0, 0), (97, .iconst 0, 0, 0, 0, 0), (98, .istore_n 1, 0, 0, 0, 0), (99, .iload_n 1, 0, 0, 0, 0), (100, .aload_n 0, 0, 0, 0, 0), (101, .getfield 52, 0, 12, 3, 1419), (104, .if_icmp .ge 38, 0, 0, 0, 0), (107, .aload_n 0, 0, 0, 0, 0), (108, .aload_n 0, 0, 0, 0, 0), (109, .iload_n 1, 0, 0, 0, 0), (110, .iconst 1, 0, 0, 0, 0), (111, .invokevirtual 81, 0, 999, 0, 0), (114, .aload_n 0, 0, 0, 0, 0), (115, .getfield 3, 0, 12, 9, 1430), (118, .getfield 85, 1, 13, 4, 8), (121, .invokevirtual 88, 0, 999, 0, 0), (124, .istore_n 2, 0, 0, 0, 0), (125, .iload_n 2, 0, 0, 0, 0), (126, .iconst 5, 0, 0, 0, 0), (127, .if_icmp .eq 9, 0, 0, 0, 0), (130, .iload_n 2, 0, 0, 0, 0), (131, .ifCond .eq 5, 0, 0, 0, 0), (134, .iconst 1, 0, 0, 0, 0), (135, .ireturn, 0, 0, 0, 0), (136, .iinc 1 1, 0, 0, 0, 0), (139, .goto (-40), 0, 0, 0, 0), (142, .iconst 0, 0, 0, 0, 0), (143, .ireturn, 0, 0, 0, 0)]
def mC72 : List (Nat × Instr × Nat × Nat × Nat × Nat) := [(0, .iconst 0, 0, 0, 0, 0), (1, .istore_n 1, 0, 0, 0, 0), (2, .iconst 0, 0, 0, 0, 0), (3, .istore_n 2, 0, 0, 0, 0), (4, .iload_n 2, 0, 0, 0, 0), (5, .aload_n 0, 0, 0, 0, 0), (6, .getfield 38, 0, 12, 1, 1416), (9, .invokevirtual 92, 0, 121, 0, 1330), (12, .if_icmp .ge 73, 0, 0, 0, 0), (15, .iconst 0, 0, 0, 0, 0), (16, .istore_n 3, 0, 0, 0, 0), (17, .iload_n 3, 0, 0, 0, 0), (18, .aload_n 0, 0, 0, 0, 0), (19, .getfield 38, 0, 12, 1, 1416), (22, .iload_n 2, 0, 0, 0, 0), (23, .invokevirtual 99, 0, 999, 0, 0), (26, .checkcast 103, 0, 0, 0, 0), (29, .getfield 105, 0, 11, 0, 1210), (32, .invokevirtual 92, 0, 121, 0, 1330), (35, .if_icmp .ge 44, 0, 0, 0, 0), (38, .iload_n 1, 0, 0, 0, 0), (39, .aload_n 0, 0, 0, 0, 0), (40, .getfield 38, 0, 12, 1, 1416), (43, .iload_n 2, 0, 0, 0, 0), (44, .invokevirtual 99, 0, 999, 0, 0), (47, .checkcast 103, 0, 0, 0, 0), (50, .getfield 105, 0, 11, 0, 1210), (53, .iload_n 3, 0, 0, 0, 0), (54, .invokevirtual 99, 0, 999, 0, 0), (57, .checkcast 107, 0, 0, 0, 0), (60, .getfield 164, 0, 9, 1, 1263), (63, .ifCond .eq 7, 0, 0, 0, 0), (66, .iconst 1, 0, 0, 0, 0), (67, .goto 4, 0, 0, 0, 0), (70, .iconst 0, 0, 0, 0, 0), (71, .iadd, 0, 0, 0, 0), (72, .istore_n 1, 0, 0, 0, 0), (73, .iinc 3 1, 0, 0, 0, 0), (76, .goto (-59), 0, 0, 0, 0), (79, .iinc 2 1, 0, 0, 0, 0), (82, .goto (-78), 0, 0, 0, 0), (85, .iload_n 1, 0, 0, 0, 0), (86, .ireturn, 0, 0, 0, 0)]
def mC73 : List (Nat × Instr × Nat × Nat × Nat × Nat) := [(0, .aload_n 0, 0, 0, 0, 0), (1, .invokespecial 1, 0, 998, 0, 949), (4, .aload_n 0, 0, 0, 0, 0), (5, .new 7, 0, 1, 0, 950), (8, .dup, 0, 0, 0, 0), (9, .invokespecial 9, 0, 118, 0, 952), (12, .putfield 10, 0, 13, 1, 977), (15, .aload_n 0, 0, 0, 0, 0), (16, .iconst 3, 0, 0, 0, 0), (17, .newarray .int, 0, 0, 0, 0), (19, .dup, 0, 0, 0, 0), (20, .iconst 0, 0, 0, 0, 0), (21, .iconst (-1), 0, 0, 0, 0), (22, .iastore, 0, 0, 0, 0), (23, .dup, 0, 0, 0, 0), (24, .iconst 1, 0, 0, 0, 0), (25, .iconst (-1), 0, 0, 0, 0), (26, .iastore, 0, 0, 0, 0), (27, .dup, 0, 0, 0, 0), (28, .iconst 2, 0, 0, 0, 0), (29, .iconst (-1), 0, 0, 0, 0), (30, .iastore, 0, 0, 0, 0), (31, .putfield 16, 0, 13, 2, 979), (34, .aload_n 0, 0, 0, 0, 0), (35, .bipush 20, 0, 0, 0, 0), (37, .newarray .int, 0, 0, 0, 0), (39, .putfield 20, 0, 13, 3, 981), (42, .aload_n 0, 0, 0, 0, 0), (43, .bipush 80, 0, 0, 0, 0), (45, .putfield 23, 0, 13, 4, 983), (48, .return_, 0, 0, 0, 0)]
def mC74 : List (Nat × Instr × Nat × Nat × Nat × Nat) := [(0, .aload_n 0, 0, 0, 0, 0), (1, .getfield 27, 0, 13, 0, 976), (4, .ireturn, 0, 0, 0, 0)]
def mC75 : List (Nat × Instr × Nat × Nat × Nat × Nat) := [(0, .iload_n 0, 0, 0, 0, 0), (1, .iload_n 1, 0, 0, 0, 0), (2, .if_icmp .lt 12, 0, 0, 0, 0), (5, .iload_n 0, 0, 0, 0, 0), (6, .iload_n 2, 0, 0, 0, 0), (7, .if_icmp .gt 7, 0, 0, 0, 0), (10, .iconst 1, 0, 0, 0, 0), (11, .goto 4, 0, 0, 0, 0), (14, .iconst 0, 0, 0, 0, 0), (15, .ireturn, 0, 0, 0, 0)]
def mC76 : List (Nat × Instr × Nat × Nat × Nat × Nat) := [(0, .iload_n 1, 0, 0, 0, 0), (1, .ifCond .eq 15, 0, 0, 0, 0), (4, .aload_n 0, 0, 0, 0, 0), (5, .getfield 27, 0, 13, 0, 976), (8, .ifCond .ne 8, 0, 0, 0, 0), (11, .aload_n 0, 0, 0, 0, 0), (12, .iload_n 2, 0, 0, 0, 0), (13, .putfield 27, 0, 13, 0, 976), (16, .aload_n 0, 0, 0, 0, 0), (17, .getfield 27, 0, 13, 0, 976), (20, .ifCond .le 7, 0, 0, 0, 0), (23, .iconst 1, 0, 0, 0, 0), (24, .goto 4, 0, 0, 0, 0), (27, .iconst 0, 0, 0, 0, 0), (28, .ireturn, 0, 0, 0, 0)]
def mC77 : List (Nat × Instr × Nat × Nat × Nat × Nat) := [(0, .aload_n 0, 0, 0, 0, 0), (1, .iconst 0, 0, 0, 0, 0), (2, .putfield 27, 0, 13, 0, 976), (5, .aload_n 0, 0, 0, 0, 0), (6, .iload_n 1, 0, 0, 0, 0), (7, .iload_n 2, 0, 0, 0, 0), (8, .invokevirtual 30, 0, 76, 2, 1014), (11, .ireturn, 0, 0, 0, 0)]
def mC78 : List (Nat × Instr × Nat × Nat × Nat × Nat) := [(0, .iconst 0, 0, 0, 0, 0), (1, .istore_n 1, 0, 0, 0, 0), (2, .iconst 0, 0, 0, 0, 0), (3, .istore_n 2, 0, 0, 0, 0), (4, .iconst 0, 0, 0, 0, 0), (5, .istore_n 3, 0, 0, 0, 0), (6, .iload_n 3, 0, 0, 0, 0), (7, .aload_n 0, 0, 0, 0, 0), (8, .invokevirtual 34, 0, 121, 0, 1102), (11, .if_icmp .ge 57, 0, 0, 0, 0), (14, .aload_n 0, 0, 0, 0, 0), (15, .iload_n 3, 0, 0, 0, 0), (16, .invokevirtual 38, 0, 999, 0, 0), (19, .checkcast 42, 0, 0, 0, 0), (22, .getfield 44, 0, 11, 1, 1213), (25, .istore 4, 0, 0, 0, 0), (27, .aload_n 0, 0, 0, 0, 0), (28, .iload 4, 0, 0, 0, 0), (30, .invokestatic 47, 0, 999, 0, 0), (33, .istore 5, 0, 0, 0, 0), (35, .iload 5, 0, 0, 0, 0), (37, .iload_n 2, 0, 0, 0, 0), (38, .if_icmp .lt 24, 0, 0, 0, 0), (41, .iload 5, 0, 0, 0, 0), (43, .iload_n 2, 0, 0, 0, 0), (44, .if_icmp .ne 12, 0, 0, 0, 0), (47, .iload 4, 0, 0, 0, 0), (49, .iload_n 1, 0, 0, 0, 0), (50, .if_icmp .gt 6, 0, 0, 0, 0), (53, .goto 9, 0, 0, 0, 0), (56, .iload 5, 0, 0, 0, 0), (58, .istore_n 2, 0, 0, 0, 0), (59, .iload 4, 0, 0, 0, 0), (61, .istore_n 1, 0, 0, 0, 0), (62, .iinc 3 1, 0, 0, 0, 0), (65, .goto (-59), 0, 0, 0, 0), (68, .iload_n 1, 0, 0, 0, 0), (69, .ireturn, 0, 0, 0, 0)]
def mC79 : List (Nat × Instr × Nat × Nat × Nat × Nat) := [(0, .new 51, 0, 10, 0, 1174), (3, .dup, 0, 0, 0, 0), (4, .aload_n 0, 0, 0, 0, 0), (5, .iload_n 1, 0, 0, 0, 0), (6, .invokespecial 53, 0, 65, 2, 1176), (9, .invokevirtual 56, 0, 67, 0, 1190), (12, .astore_n 2, 0, 0, 0, 0), (13, .aload_n 2, 0, 0, 0, 0), (14, .invokestatic 60, 0, 78, 1, 1306), (17, .istore_n 3, 0, 0, 0, 0), (18, .iload_n 3, 0, 0, 0, 0), (19, .iconst 2, 0, 0, 0, 0), (20, .if_icmp .ge 7, 0, 0, 0, 0), (23, .iconst 0, 0, 0, 0, 0), (24, .goto 23, 0, 0, 0, 0), (27, .bipush 100, 0, 0, 0, 0), (29, .aload_n 2, 0, 0, 0, 0), (30, .iload_n 3, 0, 0, 0, 0), (31, .invokestatic 47, 0, 999, 0, 0), (34, .imul, 0, 0, 0, 0), (35, .aload_n 2, 0, 0, 0, 0), (36, .invokevirtual 34, 0, 121, 0, 1102), (39, .idiv, 0, 0, 0, 0), (40, .bipush 20, 0, 0, 0, 0), (42, .iload_n 3, 0, 0, 0, 0), (43, .invokestatic 64, 0, 997, 0, 1314), (46, .iadd, 0, 0, 0, 0), (47, .ireturn, 0, 0, 0, 0)]
def mC80 : List (Nat × Instr × Nat × Nat × Nat × Nat) := [(0, .aload_n 0, 0, 0, 0, 0), (1, .getfield 16, 0, 13, 2, 979), (4, .iconst 0, 0, 0, 0, 0), (5, .iaload, 0, 0, 0, 0), (6, .iconst (-1), 0, 0, 0, 0), (7, .if_icmp .eq 10, 0, 0, 0, 0), (10, .aload_n 0, 0, 0, 0, 0), (11, .getfield 16, 0, 13, 2, 979), (14, .iconst 0, 0, 0, 0, 0), (15, .iaload, 0, 0, 0, 0), (16, .ireturn, 0, 0, 0, 0), (17, .iconst 0, 0, 0, 0, 0), (18, .istore_n 1, 0, 0, 0, 0), (19, .iconst 1, 0, 0, 0, 0), (20, .istore_n 2, 0, 0, 0, 0), (21, .iload_n 2, 0, 0, 0, 0), (22, .iconst 4, 0, 0, 0, 0), (23, .if_icmp .ge 24, 0, 0, 0, 0), (26, .aload_n 0, 0, 0, 0, 0), (27, .iload_n 2, 0, 0, 0, 0), (28, .invokevirtual 70, 0, 79, 1, 1170), (31, .aload_n 0, 0, 0, 0, 0), (32, .iload_n 1, 0, 0, 0, 0), (33, .invokevirtual 70, 0, 79, 1, 1170), (36, .if_icmp .le 5, 0, 0, 0, 0), (39, .iload_n 2, 0, 0, 0, 0), (40, .istore_n 1, 0, 0, 0, 0), (41, .iinc 2 1, 0, 0, 0, 0), (44, .goto (-23), 0, 0, 0, 0), (47, .iload_n 1, 0, 0, 0, 0), (48, .ireturn, 0, 0, 0, 0)]
def mC81 : List (Nat × Instr × Nat × Nat × Nat × Nat) := [(0, .new 74, 0, 12, 0, 1164), (3, .dup, 0, 0, 0, 0), (4, .aload_n 0, 0, 0, 0, 0), (5, .aload_n 0, 0, 0, 0, 0), (6, .invokevirtual 76, 0, 80, 0, 1166), (9, .invokespecial 79, 0, 68, 2, 1315), (12, .areturn, 0, 0, 0, 0)]
def mC82 : List (Nat × Instr × Nat × Nat × Nat × Nat) := [(0, .aload_n 0, 0, 0, 0, 0), (1, .aload_n 0, 0, 0, 0, 0), (2, .getfield 10, 0, 13, 1, 977), (5, .invokevirtual 34, 0, 121, 0, 1102), (8, .aload_n 1, 0, 0, 0, 0), (9, .invokevirtual 34, 0, 121, 0, 1102), (12, .iadd, 0, 0, 0, 0), (13, .sipush 500, 0, 0, 0, 0), (16, .if_icmp .le 7, 0, 0, 0, 0), (19, .iconst 1, 0, 0, 0, 0), (20, .goto 4, 0, 0, 0, 0), (23, .iconst 0, 0, 0, 0, 0), (24, .iconst 2, 0, 0, 0, 0), (25, .invokevirtual 30, 0, 76, 2, 1014), (28, .ifCond .eq 5, 0, 0, 0, 0), (31, .iconst 0, 0, 0, 0, 0), (32, .ireturn, 0, 0, 0, 0), (33, .aload_n 0, 0, 0, 0, 0), (34, .getfield 10, 0, 13, 1, 977), (37, .aload_n 1, 0, 0, 0, 0), (38, .invokevirtual 80, 0, 126, 1, 1106), (41, .pop, 0, 0, 0, 0), (42, .aload_n 0, 0, 0, 0, 0), (43, .getfield 10, 0, 13, 1, 977), (46, .invokevirtual 34, 0, 121, 0, 1102), (49, .ireturn, 0, 0, 0, 0)]
def mC83 : List (Nat × Instr × Nat × Nat × Nat × Nat) := [(0, .iload_n 0, 0, 0, 0, 0), (1, .iconst 0, 0, 0, 0, 0), (2, .bipush 45, 0, 0, 0, 0), (4, .invokestatic 84, 0, 75, 3, 1007), (7, .ifCond .ne 7, 0, 0, 0, 0), (10, .iconst 1, 0, 0, 0, 0), (11, .goto 4, 0, 0, 0, 0), (14, .iconst 0, 0, 0, 0, 0), (15, .ireturn, 0, 0, 0, 0)]
def mC84 : List (Nat × Instr × Nat × Nat × Nat × Nat) := [(0, .iload_n 1, 0, 0, 0, 0), (1, .bipush 9, 0, 0, 0, 0), (3, .if_icmp .le 11, 0, 0, 0, 0), (6, .aload_n 0, 0, 0, 0, 0), (7, .iload_n 1, 0, 0, 0, 0), (8, .bipush 10, 0, 0, 0, 0), (10, .idiv, 0, 0, 0, 0), (11, .invokestatic 88, 0, 154, 2, 1125), (14, .aload_n 0, 0, 0, 0, 0), (15, .bipush 10, 0, 0, 0, 0), (17, .iload_n 1, 0, 0, 0, 0), (18, .bipush 10, 0, 0, 0, 0), (20, .irem, 0, 0, 0, 0), (21, .iadd, 0, 0, 0, 0), (22, .invokestatic 92, 0, 115, 1, 1018), (25, .invokevirtual 98, 0, 124, 1, 1038), (28, .pop, 0, 0, 0, 0), (29, .return_, 0, 0, 0, 0)]
def mC85 : List (Nat × Instr × Nat × Nat × Nat × Nat) := [(0, .aload_n 0, 0, 0, 0, 0), (1, .iload_n 1, 0, 0, 0, 0), (2, .invokestatic 102, 0, 83, 1, 1004), (5, .iconst 1, 0, 0, 0, 0), (6, .invokevirtual 106, 0, 77, 2, 1010), (9, .ifCond .eq 5, 0, 0, 0, 0), (12, .iconst 0, 0, 0, 0, 0), (13, .ireturn, 0, 0, 0, 0), (14, .new 7, 0, 1, 0, 950), (17, .dup, 0, 0, 0, 0), (18, .invokespecial 9, 0, 118, 0, 952), (21, .astore_n 2, 0, 0, 0, 0), (22, .aload_n 2, 0, 0, 0, 0), (23, .iload_n 1, 0, 0, 0, 0), (24, .invokestatic 92, 0, 115, 1, 1018), (27, .invokevirtual 98, 0, 124, 1, 1038), (30, .pop, 0, 0, 0, 0), (31, .aload_n 0, 0, 0, 0, 0), (32, .aload_n 2, 0, 0, 0, 0), (33, .invokevirtual 109, 0, 82, 1, 1098), (36, .ireturn, 0, 0, 0, 0)]
def mC86 : List (Nat × Instr × Nat × Nat × Nat × Nat) := [(0, .aload_n 0, 0, 0, 0, 0), (1, .iload_n 1, 0, 0, 0, 0), (2, .ifCond .ge 7, 0, 0, 0, 0), (5, .iconst 1, 0, 0, 0, 0), (6, .goto 4, 0, 0, 0, 0), (9, .iconst 0, 0, 0, 0, 0), (10, .iconst 1, 0, 0, 0, 0), (11, .invokevirtual 106, 0, 77, 2, 1010), (14, .ifCond .eq 5, 0, 0, 0, 0), (17, .iconst 0, 0, 0, 0, 0), (18, .ireturn, 0, 0, 0, 0), (19, .new 7, 0, 1, 0, 950), (22, .dup, 0, 0, 0, 0), (23, .invokespecial 9, 0, 118, 0, 952), (26, .astore_n 2, 0, 0, 0, 0), (27, .aload_n 2, 0, 0, 0, 0), (28, .iload_n 1, 0, 0, 0, 0), (29, .invokestatic 88, 0, 84, 2, 1125), (32, .aload_n 0, 0, 0, 0, 0), (33, .aload_n 2, 0, 0, 0, 0), (34, .invokevirtual 109, 0, 82, 1, 1098), (37, .ireturn, 0, 0, 0, 0)]
def mC87 : List (Nat × Instr × Nat × Nat × Nat × Nat) := [(0, .aload_n 0, 0, 0, 0, 0), (1, .iload_n 1, 0, 0, 0, 0), (2, .iconst 0, 0, 0, 0, 0), (3, .bipush 25, 0, 0, 0, 0), (5, .invokestatic 84, 0, 75, 3, 1007), (8, .ifCond .eq 13, 0, 0, 0, 0), (11, .iload_n 2, 0, 0, 0, 0), (12, .iconst 1, 0, 0, 0, 0), (13, .bipush 12, 0, 0, 0, 0), (15, .invokestatic 84, 0, 75, 3, 1007), (18, .ifCond .ne 7, 0, 0, 0, 0), (21, .iconst 1, 0, 0, 0, 0), (22, .goto 4, 0, 0, 0, 0), (25, .iconst 0, 0, 0, 0, 0), (26, .iconst 1, 0, 0, 0, 0), (27, .invokevirtual 106, 0, 77, 2, 1010), (30, .ifCond .eq 5, 0, 0, 0, 0), (33, .iconst 0, 0, 0, 0, 0), (34, .ireturn, 0, 0, 0, 0), (35, .new 7, 0, 1, 0, 950), (38, .dup, 0, 0, 0, 0), (39, .invokespecial 9, 0, 118, 0, 952), (42, .astore_n 3, 0, 0, 0, 0), (43, .iconst 0, 0, 0, 0, 0), (44, .istore 4, 0, 0, 0, 0), (46, .iload 4, 0, 0, 0, 0), (48, .iload_n 2, 0, 0, 0, 0), (49, .if_icmp .ge 27, 0, 0, 0, 0), (52, .aload_n 3, 0, 0, 0, 0), (53, .bipush 20, 0, 0, 0, 0), (55, .iload_n 1, 0, 0, 0, 0), (56, .iload 4, 0, 0, 0, 0), (58, .iadd, 0, 0, 0, 0), (59, .bipush 26, 0, 0, 0, 0), (61, .irem, 0, 0, 0, 0), (62, .iadd, 0, 0, 0, 0), (63, .invokestatic 92, 0, 115, 1, 1018), (66, .invokevirtual 98, 0, 124, 1, 1038), (69, .pop, 0, 0, 0, 0), (70, .iinc 4 1, 0, 0, 0, 0), (73, .goto (-27), 0, 0, 0, 0), (76, .aload_n 0, 0, 0, 0, 0), (77, .aload_n 3, 0, 0, 0, 0), (78, .invokevirtual 109, 0, 82, 1, 1098), (81, .ireturn, 0, 0, 0, 0)]
def mC88 : List (Nat × Instr × Nat × Nat × Nat × Nat) := [(0, .aload_n 0, 0, 0, 0, 0), (1, .iload_n 1, 0, 0, 0, 0), (2, .ifCond .lt 19, 0, 0, 0, 0), (5, .iload_n 2, 0, 0, 0, 0), (6, .ifCond .lt 15, 0, 0, 0, 0), (9, .iload_n 3, 0, 0, 0, 0), (10, .ifCond .lt 11, 0, 0, 0, 0), (13, .iload 4, 0, 0, 0, 0), (15, .invokestatic 102, 0, 83, 1, 1004), (18, .ifCond .eq 7, 0, 0, 0, 0), (21, .iconst 1, 0, 0, 0, 0), (22, .goto 4, 0, 0, 0, 0), (25, .iconst 0, 0, 0, 0, 0), (26, .iconst 1, 0, 0, 0, 0), (27, .invokevirtual 106, 0, 77, 2, 1010), (30, .ifCond .eq 5, 0, 0, 0, 0), (33, .iconst 0, 0, 0, 0, 0), (34, .ireturn, 0, 0, 0, 0), (35, .new 7, 0, 1, 0, 950), (38, .dup, 0, 0, 0, 0), (39, .invokespecial 9, 0, 118, 0, 952), (42, .astore 5, 0, 0, 0, 0), (44, .aload 5, 0, 0, 0, 0), (46, .iload_n 1, 0, 0, 0, 0), (47, .invokestatic 88, 0, 84, 2, 1125), (50, .aload 5, 0, 0, 0, 0), (52, .iload 4, 0, 0, 0, 0), (54, .invokestatic 92, 0, 115, 1, 1018), (57, .invokevirtual 98, 0, 124, 1, 1038), (60, .pop, 0, 0, 0, 0), (61, .aload 5, 0, 0, 0, 0), (63, .iload_n 2, 0, 0, 0, 0), (64, .invokestatic 88, 0, 84, 2, 1125), (67, .aload 5, 0, 0, 0, 0), (69, .iload 4, 0, 0, 0, 0), (71, .invokestatic 92, 0, 115, 1, 1018), (74, .invokevirtual 98, 0, 124, 1, 1038), (77, .pop, 0, 0, 0, 0), (78, .aload 5, 0, 0, 0, 0), (80, .iload_n 3, 0, 0, 0, 0), (81, .invokestatic 88, 0, 84, 2, 1125), (84, .aload_n 0, 0, 0, 0, 0), (85, .aload 5, 0, 0, 0, 0), (87, .invokevirtual 109, 0, 82, 1, 1098), (90, .ireturn, 0, 0, 0, 0)]
def mC89 : List (Nat × Instr × Nat × Nat × Nat × Nat) := [(0, .aload_n 0, 0, 0, 0, 0), (1, .iconst 0, 0, 0, 0, 0), (2, .putfield 27, 0, 13, 0, 976), (5, .aload_n 0, 0, 0, 0, 0), (6, .getfield 10, 0, 13, 1, 977), (9, .invokevirtual 34, 0, 121, 0, 1102), (12, .istore_n 1, 0, 0, 0, 0), (13, .aload_n 0, 0, 0, 0, 0), (14, .getfield 10, 0, 13, 1, 977), (17, .invokevirtual 111, 0, 125, 0, 1140), (20, .iload_n 1, 0, 0, 0, 0), (21, .ireturn, 0, 0, 0, 0)]
def mC90 : List (Nat × Instr × Nat × Nat × Nat × Nat) := [(0, .aload_n 0, 0, 0, 0, 0), (1, .iload_n 1, 0, 0, 0, 0), (2, .iconst 0, 0, 0, 0, 0), (3, .iconst 2, 0, 0, 0, 0), (4, .invokestatic 84, 0, 75, 3, 1007), (7, .ifCond .eq 20, 0, 0, 0, 0), (10, .iload_n 2, 0, 0, 0, 0), (11, .iconst (-1), 0, 0, 0, 0), (12, .iload_n 1, 0, 0, 0, 0), (13, .ifCond .ne 7, 0, 0, 0, 0), (16, .iconst 3, 0, 0, 0, 0), (17, .goto 4, 0, 0, 0, 0), (20, .iconst 1, 0, 0, 0, 0), (21, .invokestatic 84, 0, 75, 3, 1007), (24, .ifCond .ne 7, 0, 0, 0, 0), (27, .iconst 1, 0, 0, 0, 0), (28, .goto 4, 0, 0, 0, 0), (31, .iconst 0, 0, 0, 0, 0), (32, .iconst 1, 0, 0, 0, 0), (33, .invokevirtual 106, 0, 77, 2, 1010), (36, .ifCond .eq 5, 0, 0, 0, 0), (39, .iconst 0, 0, 0, 0, 0), (40, .ireturn, 0, 0, 0, 0), (41, .aload_n 0, 0, 0, 0, 0), (42, .getfield 16, 0, 13, 2, 979), (45, .iload_n 1, 0, 0, 0, 0), (46, .iaload, 0, 0, 0, 0), (47, .istore_n 3, 0, 0, 0, 0), (48, .aload_n 0, 0, 0, 0, 0), (49, .getfield 16, 0, 13, 2, 979), (52, .iload_n 1, 0, 0, 0, 0), (53, .iload_n 2, 0, 0, 0, 0), (54, .iastore, 0, 0, 0, 0), (55, .iload_n 3, 0, 0, 0, 0), (56, .ireturn, 0, 0, 0, 0)]
def mC91 : List (Nat × Instr × Nat × Nat × Nat × Nat) := [(0, .aload_n 0, 0, 0, 0, 0), (1, .iload_n 1, 0, 0, 0, 0), (2, .iconst 1, 0, 0, 0, 0), (3, .bipush 100, 0, 0, 0, 0), (5, .invokestatic 84, 0, 75, 3, 1007), (8, .ifCond .ne 7, 0, 0, 0, 0), (11, .iconst 1, 0, 0, 0, 0), (12, .goto 4, 0, 0, 0, 0), (15, .iconst 0, 0, 0, 0, 0), (16, .iconst 1, 0, 0, 0, 0), (17, .invokevirtual 106, 0, 77, 2, 1010), (20, .ifCond .eq 5, 0, 0, 0, 0), (23, .iconst 0, 0, 0, 0, 0), (24, .ireturn, 0, 0, 0, 0), (25, .aload_n 0, 0, 0, 0, 0), (26, .getfield 23, 0, 13, 4, 983), (29, .istore_n 2, 0, 0, 0, 0), (30, .aload_n 0, 0, 0, 0, 0), (31, .iload_n 1, 0, 0, 0, 0), (32, .putfield 23, 0, 13, 4, 983), (35, .iload_n 2, 0, 0, 0, 0), (36, .ireturn, 0, 0, 0, 0)]
def mC92 : List (Nat × Instr × Nat × Nat × Nat × Nat) := [(0, .aload_n 0, 0, 0, 0, 0), (1, .iload_n 1, 0, 0, 0, 0), (2, .iconst 0, 0, 0, 0, 0), (3, .bipush 19, 0, 0, 0, 0), (5, .invokestatic 84, 0, 75, 3, 1007), (8, .ifCond .ne 7, 0, 0, 0, 0), (11, .iconst 1, 0, 0, 0, 0), (12, .goto 4, 0, 0, 0, 0), (15, .iconst 0, 0, 0, 0, 0), (16, .iconst 1, 0, 0, 0, 0), (17, .invokevirtual 106, 0, 77, 2, 1010), (20, .ifCond .ne 25, 0, 0, 0, 0), (23, .aload_n 0, 0, 0, 0, 0), (24, .iload_n 2, 0, 0, 0, 0), (25, .iconst 0, 0, 0, 0, 0), (26, .iconst 3, 0, 0, 0, 0), (27, .invokestatic 84, 0, 75, 3, 1007), (30, .ifCond .ne 7, 0, 0, 0, 0), (33, .iconst 1, 0, 0, 0, 0), (34, .goto 4, 0, 0, 0, 0), (37, .iconst 0, 0, 0, 0, 0), (38, .iconst 2, 0, 0, 0, 0), (39, .invokevirtual 30, 0, 76, 2, 1014), (42, .ifCond .eq 5, 0, 0, 0, 0), (45, .iconst 0, 0, 0, 0, 0), (46, .ireturn, 0, 0, 0, 0), (47, .aload_n 0, 0, 0, 0, 0), (48, .getfield 20, 0, 13, 3, 981), (51, .iload_n 1, 0, 0, 0, 0), (52, .iaload, 0, 0, 0, 0), (53, .istore_n 3, 0, 0, 0, 0), (54, .aload_n 0, 0, 0, 0, 0), (55, .getfield 20, 0, 13, 3, 981), (58, .iload_n 1, 0, 0, 0, 0), (59, .iload_n 2, 0, 0, 0, 0), (60, .iastore, 0, 0, 0, 0), (61, .iload_n 3, 0, 0, 0, 0), (62, .ireturn, 0, 0, 0, 0)]
def mC93 : List (Nat × Instr × Nat × Nat × Nat × Nat) := [(0, .iload_n 1, 0, 0, 0, 0), (1, .ifCond .ne 10, 0, 0, 0, 0), (4, .aload_n 0, 0, 0, 0, 0), (5, .getfield 114, 0, 12, 0, 1415), (8, .goto 27, 0, 0, 0, 0), (11, .iload_n 1, 0, 0, 0, 0), (12, .iconst 1, 0, 0, 0, 0), (13, .if_icmp .ne 10, 0, 0, 0, 0), (16, .aload_n 0, 0, 0, 0, 0), (17, .getfield 116, 0, 12, 4, 1422), (20, .goto 15, 0, 0, 0, 0), (23, .aload_n 0, 0, 0, 0, 0), (24, .getfield 119, 0, 12, 5, 1424), (27, .ifCond .eq 7, 0, 0, 0, 0), (30, .iconst 1, 0, 0, 0, 0), (31, .goto 4, 0, 0, 0, 0), (34, .iconst 0, 0, 0, 0, 0), (35, .ireturn, 0, 0, 0, 0)]
def mC94 : List (Nat × Instr × Nat × Nat × Nat × Nat) := [(0, .aload_n 0, 0, 0, 0, 0), (1, .iload_n 1, 0, 0, 0, 0), (2, .iconst 0, 0, 0, 0, 0), (3, .iconst 2, 0, 0, 0, 0), (4, .invokestatic 84, 0, 75, 3, 1007), (7, .ifCond .ne 7, 0, 0, 0, 0), (10, .iconst 1, 0, 0, 0, 0), (11, .goto 4, 0, 0, 0, 0), (14, .iconst 0, 0, 0, 0, 0), (15, .iconst 1, 0, 0, 0, 0), (16, .invokevirtual 106, 0, 77, 2, 1010), (19, .ifCond .eq 7, 0, 0, 0, 0), (22, .iconst 0, 0, 0, 0, 0), (23, .goto 11, 0, 0, 0, 0), (26, .aload_n 0, 0, 0, 0, 0), (27, .invokevirtual 123, 0, 81, 0, 1160), (30, .iload_n 1, 0, 0, 0, 0), (31, .invokestatic 127, 0, 93, 2, 1452), (34, .ireturn, 0, 0, 0, 0)]
def mC95 : List (Nat × Instr × Nat × Nat × Nat × Nat) := [(0, .aload_n 0, 0, 0, 0, 0), (1, .iload_n 1, 0, 0, 0, 0), (2, .iconst 0, 0, 0, 0, 0), (3, .iconst 3, 0, 0, 0, 0), (4, .invokestatic 84, 0, 75, 3, 1007), (7, .ifCond .ne 7, 0, 0, 0, 0), (10, .iconst 1, 0, 0, 0, 0), (11, .goto 4, 0, 0, 0, 0), (14, .iconst 0, 0, 0, 0, 0), (15, .iconst 1, 0, 0, 0, 0), (16, .invokevirtual 106, 0, 77, 2, 1010), (19, .ifCond .eq 7, 0, 0, 0, 0), (22, .iconst 0, 0, 0, 0, 0), (23, .goto 8, 0, 0, 0, 0), (26, .aload_n 0, 0, 0, 0, 0), (27, .iload_n 1, 0, 0, 0, 0), (28, .invokevirtual 70, 0, 79, 1, 1170), (31, .ireturn, 0, 0, 0, 0)]
def mC96 : List (Nat × Instr × Nat × Nat × Nat × Nat) := [(0, .bipush 7, 0, 0, 0, 0), (2, .newarray .int, 0, 0, 0, 0), (4, .dup, 0, 0, 0, 0), (5, .iconst 0, 0, 0, 0, 0), (6, .aload_n 0, 0, 0, 0, 0), (7, .getfield 10, 0, 13, 1, 977), (10, .invokevirtual 34, 0, 121, 0, 1102), (13, .iastore, 0, 0, 0, 0), (14, .dup, 0, 0, 0, 0), (15, .iconst 1, 0, 0, 0, 0), (16, .aload_n 1, 0, 0, 0, 0), (17, .getfield 131, 0, 12, 1, 1417), (20, .invokevirtual 34, 0, 121, 0, 1102), (23, .iastore, 0, 0, 0, 0), (24, .dup, 0, 0, 0, 0), (25, .iconst 2, 0, 0, 0, 0), (26, .aload_n 1, 0, 0, 0, 0), (27, .getfield 133, 0, 12, 3, 1420), (30, .iastore, 0, 0, 0, 0), (31, .dup, 0, 0, 0, 0), (32, .iconst 3, 0, 0, 0, 0), (33, .aload_n 1, 0, 0, 0, 0), (34, .getfield 131, 0, 12, 1, 1417), (37, .invokevirtual 34, 0, 121, 0, 1102), (40, .aload_n 1, 0, 0, 0, 0), (41, .invokevirtual 136, 0, 69, 0, 1467), (44, .isub, 0, 0, 0, 0), (45, .iastore, 0, 0, 0, 0), (46, .dup, 0, 0, 0, 0), (47, .iconst 4, 0, 0, 0, 0), (48, .aload_n 1, 0, 0, 0, 0), (49, .getfield 139, 0, 12, 7, 1427), (52, .invokevirtual 34, 0, 121, 0, 1102), (55, .iastore, 0, 0, 0, 0), (56, .dup, 0, 0, 0, 0), (57, .iconst 5, 0, 0, 0, 0), (58, .aload_n 1, 0, 0, 0, 0), (59, .getfield 142, 0, 12, 8, 1429), (62, .invokevirtual 34, 0, 121, 0, 1102), (65, .iastore, 0, 0, 0, 0), (66, .dup, 0, 0, 0, 0), (67, .bipush 6, 0, 0, 0, 0), (69, .aload_n 1, 0, 0, 0, 0), (70, .invokevirtual 145, 0, 72, 0, 1468), (73, .iastore, 0, 0, 0, 0), (74, .astore_n 3, 0, 0, 0, 0), (75, .aload_n 3, 0, 0, 0, 0), (76, .iload_n 2, 0, 0, 0, 0), (77, .iaload, 0, 0, 0, 0), (78, .ireturn, 0, 0, 0, 0)]
def mC97 : List (Nat × Instr × Nat × Nat × Nat × Nat) := [(0, .aload_n 0, 0, 0, 0, 0), (1, .iload_n 1, 0, 0, 0, 0), (2, .iconst 0, 0, 0, 0, 0), (3, .bipush 6, 0, 0, 0, 0), (5, .invokestatic 84, 0, 75, 3, 1007), (8, .ifCond .ne 7, 0, 0, 0, 0), (11, .iconst 1, 0, 0, 0, 0), (12, .goto 4, 0, 0, 0, 0), (15, .iconst 0, 0, 0, 0, 0), (16, .iconst 1, 0, 0, 0, 0), (17, .invokevirtual 106, 0, 77, 2, 1010), (20, .ifCond .eq 7, 0, 0, 0, 0), (23, .iconst 0, 0, 0, 0, 0), (24, .goto 12, 0, 0, 0, 0), (27, .aload_n 0, 0, 0, 0, 0), (28, .aload_n 0, 0, 0, 0, 0), (29, .invokevirtual 123, 0, 81, 0, 1160), (32, .iload_n 1, 0, 0, 0, 0), (33, .invokevirtual 148, 0, 96, 2, 1463), (36, .ireturn, 0, 0, 0, 0)]
def mC98 : List (Nat × Instr × Nat × Nat × Nat × Nat) := [(0, .aload_n 0, 0, 0, 0, 0), (1, .invokevirtual 123, 0, 81, 0, 1160), (4, .astore_n 2, 0, 0, 0, 0), (5, .aload_n 0, 0, 0, 0, 0), (6, .iload_n 1, 0, 0, 0, 0), (7, .iconst 0, 0, 0, 0, 0), (8, .aload_n 2, 0, 0, 0, 0), (9, .getfield 131, 0, 12, 1, 1417), (12, .invokevirtual 34, 0, 121, 0, 1102), (15, .iconst 1, 0, 0, 0, 0), (16, .isub, 0, 0, 0, 0), (17, .invokestatic 84, 0, 75, 3, 1007), (20, .ifCond .ne 7, 0, 0, 0, 0), (23, .iconst 1, 0, 0, 0, 0), (24, .goto 4, 0, 0, 0, 0), (27, .iconst 0, 0, 0, 0, 0), (28, .iconst 1, 0, 0, 0, 0), (29, .invokevirtual 106, 0, 77, 2, 1010), (32, .ifCond .eq 7, 0, 0, 0, 0), (35, .iconst 0, 0, 0, 0, 0), (36, .goto 17, 0, 0, 0, 0), (39, .aload_n 2, 0, 0, 0, 0), (40, .getfield 131, 0, 12, 1, 1417), (43, .iload_n 1, 0, 0, 0, 0), (44, .invokevirtual 38, 0, 999, 0, 0), (47, .checkcast 42, 0, 0, 0, 0), (50, .getfield 44, 0, 11, 1, 1213), (53, .ireturn, 0, 0, 0, 0)]
def mC99 : List (Nat × Instr × Nat × Nat × Nat × Nat) := [(0, .aload_n 0, 0, 0, 0, 0), (1, .iload_n 2, 0, 0, 0, 0), (2, .iconst 0, 0, 0, 0, 0), (3, .aload_n 1, 0, 0, 0, 0), (4, .getfield 131, 0, 12, 1, 1417), (7, .invokevirtual 34, 0, 121, 0, 1102), (10, .iconst 1, 0, 0, 0, 0), (11, .isub, 0, 0, 0, 0), (12, .invokestatic 84, 0, 75, 3, 1007), (15, .ifCond .eq 30, 0, 0, 0, 0), (18, .iload_n 3, 0, 0, 0, 0), (19, .iconst 0, 0, 0, 0, 0), (20, .aload_n 1, 0, 0, 0, 0), (21, .getfield 131, 0, 12, 1, 1417), (24, .iload_n 2, 0, 0, 0, 0), (25, .invokevirtual 38, 0, 999, 0, 0), (28, .checkcast 42, 0, 0, 0, 0), (31, .getfield 168, 0, 11, 0, 1211), (34, .invokevirtual 34, 0, 121, 0, 1102), (37, .iconst 1, 0, 0, 0, 0), (38, .isub, 0, 0, 0, 0), (39, .invokestatic 84, 0, 75, 3, 1007), (42, .ifCond .ne 7, 0, 0, 0, 0), (45, .iconst 1, 0, 0, 0, 0), (46, .goto 4, 0, 0, 0, 0), (49, .iconst 0, 0, 0, 0, 0), (50, .iconst 1, 0, 0, 0, 0), (51, .invokevirtual 106, 0, 77, 2, 1010), (54, .ireturn, 0, 0, 0, 0)]
def mC100 : List (Nat × Instr × Nat × Nat × Nat × Nat) := [(0, .aload_n 0, 0, 0, 0, 0), (1, .invokevirtual 123, 0, 81, 0, 1160), (4, .astore 4, 0, 0, 0, 0), (6, .aload_n 0, 0, 0, 0, 0), (7, .aload 4, 0, 0, 0, 0), (9, .iload_n 1, 0, 0, 0, 0), (10, .iload_n 2, 0, 0, 0, 0), (11, .invokevirtual 171, 0, 99, 3, 1480), (14, .ifCond .ne 25, 0, 0, 0, 0), (17, .aload_n 0, 0, 0, 0, 0), (18, .iload_n 3, 0, 0, 0, 0), (19, .iconst 0, 0, 0, 0, 0), (20, .iconst 4, 0, 0, 0, 0), (21, .invokestatic 84, 0, 75, 3, 1007), (24, .ifCond .ne 7, 0, 0, 0, 0), (27, .iconst 1, 0, 0, 0, 0), (28, .goto 4, 0, 0, 0, 0), (31, .iconst 0, 0, 0, 0, 0), (32, .iconst 2, 0, 0, 0, 0), (33, .invokevirtual 30, 0, 76, 2, 1014), (36, .ifCond .eq 7, 0, 0, 0, 0), (39, .iconst 0, 0, 0, 0, 0), (40, .goto 34, 0, 0, 0, 0), (43, .aload 4, 0, 0, 0, 0), (45, .getfield 131, 0, 12, 1, 1417), (48, .iload_n 1, 0, 0, 0, 0), (49, .invokevirtual 38, 0, 999, 0, 0), (52, .checkcast 42, 0, 0, 0, 0), (55, .getfield 168, 0, 11, 0, 1211), (58, .iload_n 2, 0, 0, 0, 0), (59, .invokevirtual 38, 0, 999, 0, 0), (62, .checkcast 152, 0, 0, 0, 0), (65, .iload_n 3, 0, 0, 0, 0), (66, .aload 4, 0, 0, 0, 0), (68, .getfield 116, 0, 12, 4, 1422), (71, .invokestatic 175, 0, 999, 0, 0), (74, .ireturn, 0, 0, 0, 0)]
def mC101 : List (Nat × Instr × Nat × Nat × Nat × Nat) := [(0, .aload_n 0, 0, 0, 0, 0), (1, .invokevirtual 123, 0, 81, 0, 1160), (4, .astore 4, 0, 0, 0, 0), (6, .aload_n 0, 0, 0, 0, 0), (7, .aload 4, 0, 0, 0, 0), (9, .iload_n 1, 0, 0, 0, 0), (10, .iload_n 2, 0, 0, 0, 0), (11, .invokevirtual 171, 0, 99, 3, 1480), (14, .ifCond .eq 5, 0, 0, 0, 0), (17, .iconst 0, 0, 0, 0, 0), (18, .ireturn, 0, 0, 0, 0), (19, .aload 4, 0, 0, 0, 0), (21, .getfield 131, 0, 12, 1, 1417), (24, .iload_n 1, 0, 0, 0, 0), (25, .invokevirtual 38, 0, 999, 0, 0), (28, .checkcast 42, 0, 0, 0, 0), (31, .getfield 168, 0, 11, 0, 1211), (34, .iload_n 2, 0, 0, 0, 0), (35, .invokevirtual 38, 0, 999, 0, 0), (38, .checkcast 152, 0, 0, 0, 0), (41, .getfield 159, 0, 9, 0, 1260), (44, .astore 5, 0, 0, 0, 0), (46, .iload_n 3, 0, 0, 0, 0), (47, .iconst 0, 0, 0, 0, 0), (48, .aload 5, 0, 0, 0, 0), (50, .arraylength, 0, 0, 0, 0), (51, .iconst 1, 0, 0, 0, 0), (52, .isub, 0, 0, 0, 0), (53, .invokestatic 84, 0, 75, 3, 1007), (56, .ifCond .eq 10, 0, 0, 0, 0), (59, .aload 5, 0, 0, 0, 0), (61, .iload_n 3, 0, 0, 0, 0), (62, .iaload, 0, 0, 0, 0), (63, .goto 4, 0, 0, 0, 0), (66, .iconst (-1), 0, 0, 0, 0), (67, .ireturn, 0, 0, 0, 0)]
def mC102 : List (Nat × Instr × Nat × Nat × Nat × Nat) := [(0, .aload_n 0, 0, 0, 0, 0), (1, .iload_n 2, 0, 0, 0, 0), (2, .iconst 0, 0, 0, 0, 0), (3, .aload_n 1, 0, 0, 0, 0), (4, .getfield 133, 0, 12, 3, 1420), (7, .iconst 1, 0, 0, 0, 0), (8, .isub, 0, 0, 0, 0), (9, .invokestatic 84, 0, 75, 3, 1007), (12, .ifCond .ne 7, 0, 0, 0, 0), (15, .iconst 1, 0, 0, 0, 0), (16, .goto 4, 0, 0, 0, 0), (19, .iconst 0, 0, 0, 0, 0), (20, .iconst 1, 0, 0, 0, 0), (21, .invokevirtual 106, 0, 77, 2, 1010), (24, .ireturn, 0, 0, 0, 0)]
def mC103 : List (Nat × Instr × Nat × Nat × Nat × Nat) := [(0, .aload_n 0, 0, 0, 0, 0), (1, .invokevirtual 123, 0, 81, 0, 1160), (4, .astore_n 3, 0, 0, 0, 0), (5, .aload_n 0, 0, 0, 0, 0), (6, .aload_n 3, 0, 0, 0, 0), (7, .iload_n 1, 0, 0, 0, 0), (8, .invokevirtual 178, 0, 102, 2, 1504), (11, .ifCond .ne 25, 0, 0, 0, 0), (14, .aload_n 0, 0, 0, 0, 0), (15, .iload_n 2, 0, 0, 0, 0), (16, .iconst 0, 0, 0, 0, 0), (17, .iconst 4, 0, 0, 0, 0), (18, .invokestatic 84, 0, 75, 3, 1007), (21, .ifCond .ne 7, 0, 0, 0, 0), (24, .iconst 1, 0, 0, 0, 0), (25, .goto 4, 0, 0, 0, 0), (28, .iconst 0, 0, 0, 0, 0), (29, .iconst 2, 0, 0, 0, 0), (30, .invokevirtual 30, 0, 76, 2, 1014), (33, .ifCond .eq 7, 0, 0, 0, 0), (36, .iconst 0, 0, 0, 0, 0), (37, .goto 9, 0, 0, 0, 0), (40, .aload_n 3, 0, 0, 0, 0), (41, .iload_n 1, 0, 0, 0, 0), (42, .iload_n 2, 0, 0, 0, 0), (43, .invokevirtual 182, 0, 999, 0, 0), (46, .ireturn, 0, 0, 0, 0)]
def mC104 : List (Nat × Instr × Nat × Nat × Nat × Nat) := [(0, .aload_n 0, 0, 0, 0, 0), (1, .invokevirtual 123, 0, 81, 0, 1160), (4, .astore_n 3, 0, 0, 0, 0), (5, .aload_n 0, 0, 0, 0, 0), (6, .aload_n 3, 0, 0, 0, 0), (7, .iload_n 1, 0, 0, 0, 0), (8, .invokevirtual 178, 0, 102, 2, 1504), (11, .ifCond .ne 25, 0, 0, 0, 0), (14, .aload_n 0, 0, 0, 0, 0), (15, .iload_n 2, 0, 0, 0, 0), (16, .iconst 0, 0, 0, 0, 0), (17, .iconst 1, 0, 0, 0, 0), (18, .invokestatic 84, 0, 75, 3, 1007), (21, .ifCond .ne 7, 0, 0, 0, 0), (24, .iconst 1, 0, 0, 0, 0), (25, .goto 4, 0, 0, 0, 0), (28, .iconst 0, 0, 0, 0, 0), (29, .iconst 2, 0, 0, 0, 0), (30, .invokevirtual 30, 0, 76, 2, 1014), (33, .ifCond .eq 7, 0, 0, 0, 0), (36, .iconst 0, 0, 0, 0, 0), (37, .goto 9, 0, 0, 0, 0), (40, .aload_n 3, 0, 0, 0, 0), (41, .iload_n 1, 0, 0, 0, 0), (42, .iload_n 2, 0, 0, 0, 0), (43, .invokevirtual 185, 0, 999, 0, 0), (46, .ireturn, 0, 0, 0, 0)]
def mC105 : List (Nat × Instr × Nat × Nat × Nat × Nat) := [(0, .aload_n 0, 0, 0, 0, 0), (1, .invokevirtual 123, 0, 81, 0, 1160), (4, .astore_n 2, 0, 0, 0, 0), (5, .aload_n 0, 0, 0, 0, 0), (6, .aload_n 2, 0, 0, 0, 0), (7, .iload_n 1, 0, 0, 0, 0), (8, .invokevirtual 178, 0, 102, 2, 1504), (11, .ifCond .eq 7, 0, 0, 0, 0), (14, .lconst 0, 0, 0, 0, 0), (15, .goto 8, 0, 0, 0, 0), (18, .aload_n 2, 0, 0, 0, 0), (19, .iload_n 1, 0, 0, 0, 0), (20, .invokevirtual 188, 0, 999, 0, 0), (23, .lreturn, 0, 0, 0, 0)]
def mC106 : List (Nat × Instr × Nat × Nat × Nat × Nat) := [(0, .aload_n 0, 0, 0, 0, 0), (1, .invokevirtual 123, 0, 81, 0, 1160), (4, .astore_n 2, 0, 0, 0, 0), (5, .aload_n 0, 0, 0, 0, 0), (6, .aload_n 2, 0, 0, 0, 0), (7, .iload_n 1, 0, 0, 0, 0), (8, .invokevirtual 178, 0, 102, 2, 1504), (11, .ifCond .ne 11, 0, 0, 0, 0), (14, .aload_n 2, 0, 0, 0, 0), (15, .iload_n 1, 0, 0, 0, 0), (16, .invokevirtual 192, 0, 999, 0, 0), (19, .ifCond .ne 7, 0, 0, 0, 0), (22, .dconst 0, 0, 0, 0, 0), (23, .goto 16, 0, 0, 0, 0), (26, .aload_n 2, 0, 0, 0, 0), (27, .iload_n 1, 0, 0, 0, 0), (28, .invokevirtual 188, 0, 999, 0, 0), (31, .l2d, 0, 0, 0, 0), (32, .aload_n 2, 0, 0, 0, 0), (33, .iload_n 1, 0, 0, 0, 0), (34, .invokevirtual 192, 0, 999, 0, 0), (37, .i2d, 0, 0, 0, 0), (38, .ddiv, 0, 0, 0, 0), (39, .dreturn, 0, 0, 0, 0)]
def mC107 : List (Nat × Instr × Nat × Nat × Nat × Nat) := [(0, .aload_n 0, 0, 0, 0, 0), (1, .invokevirtual 123, 0, 81, 0, 1160), (4, .astore_n 3, 0, 0, 0, 0), (5, .aload_n 0, 0, 0, 0, 0), (6, .iload_n 1, 0, 0, 0, 0), (7, .iconst 0, 0, 0, 0, 0), (8, .aload_n 3, 0, 0, 0, 0), (9, .getfield 139, 0, 12, 7, 1427), (12, .invokevirtual 34, 0, 121, 0, 1102), (15, .iconst 1, 0, 0, 0, 0), (16, .isub, 0, 0, 0, 0), (17, .invokestatic 84, 0, 75, 3, 1007), (20, .ifCond .ne 7, 0, 0, 0, 0), (23, .iconst 1, 0, 0, 0, 0), (24, .goto 4, 0, 0, 0, 0), (27, .iconst 0, 0, 0, 0, 0), (28, .iconst 1, 0, 0, 0, 0), (29, .invokevirtual 106, 0, 77, 2, 1010), (32, .ifCond .ne 25, 0, 0, 0, 0), (35, .aload_n 0, 0, 0, 0, 0), (36, .iload_n 2, 0, 0, 0, 0), (37, .iconst 0, 0, 0, 0, 0), (38, .iconst 2, 0, 0, 0, 0), (39, .invokestatic 84, 0, 75, 3, 1007), (42, .ifCond .ne 7, 0, 0, 0, 0), (45, .iconst 1, 0, 0, 0, 0), (46, .goto 4, 0, 0, 0, 0), (49, .iconst 0, 0, 0, 0, 0), (50, .iconst 2, 0, 0, 0, 0), (51, .invokevirtual 30, 0, 76, 2, 1014), (54, .ifCond .eq 7, 0, 0, 0, 0), (57, .iconst 0, 0, 0, 0, 0), (58, .goto 16, 0, 0, 0, 0), (61, .aload_n 3, 0, 0, 0, 0), (62, .getfield 139, 0, 12, 7, 1427), (65, .iload_n 1, 0, 0, 0, 0), (66, .invokevirtual 38, 0, 999, 0, 0), (69, .checkcast 195, 0, 0, 0, 0), (72, .iload_n 2, 0, 0, 0, 0), (73, .iaload, 0, 0, 0, 0), (74, .ireturn, 0, 0, 0, 0)]
def mC108 : List (Nat × Instr × Nat × Nat × Nat × Nat) := [(0, .aload_n 0, 0, 0, 0, 0), (1, .invokevirtual 123, 0, 81, 0, 1160), (4, .astore_n 2, 0, 0, 0, 0), (5, .aload_n 0, 0, 0, 0, 0), (6, .iload_n 1, 0, 0, 0, 0), (7, .iconst 0, 0, 0, 0, 0), (8, .aload_n 2, 0, 0, 0, 0), (9, .getfield 142, 0, 12, 8, 1429), (12, .invokevirtual 34, 0, 121, 0, 1102), (15, .iconst 1, 0, 0, 0, 0), (16, .isub, 0, 0, 0, 0), (17, .invokestatic 84, 0, 75, 3, 1007), (20, .ifCond .ne 7, 0, 0, 0, 0), (23, .iconst 1, 0, 0, 0, 0), (24, .goto 4, 0, 0, 0, 0), (27, .iconst 0, 0, 0, 0, 0), (28, .iconst 1, 0, 0, 0, 0), (29, .invokevirtual 106, 0, 77, 2, 1010), (32, .ifCond .eq 7, 0, 0, 0, 0), (35, .iconst 0, 0, 0, 0, 0), (36, .goto 17, 0, 0, 0, 0), (39, .aload_n 2, 0, 0, 0, 0), (40, .getfield 142, 0, 12, 8, 1429), (43, .iload_n 1, 0, 0, 0, 0), (44, .invokevirtual 38, 0, 999, 0, 0), (47, .checkcast 93, 0, 0, 0, 0), (50, .invokevirtual 196, 0, 999, 0, 0), (53, .ireturn, 0, 0, 0, 0)]
def mC109 : List (Nat × Instr × Nat × Nat × Nat × Nat) := [(0, .aload_n 0, 0, 0, 0, 0), (1, .invokevirtual 123, 0, 81, 0, 1160), (4, .astore_n 3, 0, 0, 0, 0), (5, .aload_n 0, 0, 0, 0, 0), (6, .iload_n 1, 0, 0, 0, 0), (7, .iconst 0, 0, 0, 0, 0), (8, .aload_n 3, 0, 0, 0, 0), (9, .getfield 142, 0, 12, 8, 1429), (12, .invokevirtual 34, 0, 121, 0, 1102), (15, .iconst 1, 0, 0, 0, 0), (16, .isub, 0, 0, 0, 0), (17, .invokestatic 84, 0, 75, 3, 1007), (20, .ifCond .eq 17, 0, 0, 0, 0), (23, .iload_n 2, 0, 0, 0, 0), (24, .iconst 0, 0, 0, 0, 0), (25, .aload_n 3, 0, 0, 0, 0), (26, .getfield 133, 0, 12, 3, 1420), (29, .iconst 1, 0, 0, 0, 0), (30, .isub, 0, 0, 0, 0), (31, .invokestatic 84, 0, 75, 3, 1007), (34, .ifCond .ne 7, 0, 0, 0, 0), (37, .iconst 1, 0, 0, 0, 0), (38, .goto 4, 0, 0, 0, 0), (41, .iconst 0, 0, 0, 0, 0), (42, .iconst 1, 0, 0, 0, 0), (43, .invokevirtual 106, 0, 77, 2, 1010), (46, .ifCond .eq 7, 0, 0, 0, 0), (49, .iconst 0, 0, 0, 0, 0), (50, .goto 9, 0, 0, 0, 0), (53, .aload_n 3, 0, 0, 0, 0), (54, .iload_n 1, 0, 0, 0, 0), (55, .iload_n 2, 0, 0, 0, 0), (56, .invokevirtual 199, 0, 999, 0, 0), (59, .ireturn, 0, 0, 0, 0)]
def mC110 : List (Nat × Instr × Nat × Nat × Nat × Nat) := [(0, .aload_n 0, 0, 0, 0, 0), (1, .invokevirtual 123, 0, 81, 0, 1160), (4, .astore_n 3, 0, 0, 0, 0), (5, .aload_n 0, 0, 0, 0, 0), (6, .aload_n 3, 0, 0, 0, 0), (7, .iload_n 1, 0, 0, 0, 0), (8, .invokevirtual 178, 0, 102, 2, 1504), (11, .ifCond .eq 5, 0, 0, 0, 0), (14, .iconst 0, 0, 0, 0, 0), (15, .ireturn, 0, 0, 0, 0), (16, .iconst 0, 0, 0, 0, 0), (17, .istore 4, 0, 0, 0, 0), (19, .iload 4, 0, 0, 0, 0), (21, .aload_n 3, 0, 0, 0, 0), (22, .getfield 142, 0, 12, 8, 1429), (25, .invokevirtual 34, 0, 121, 0, 1102), (28, .if_icmp .ge 37, 0, 0, 0, 0), (31, .aload_n 3, 0, 0, 0, 0), (32, .iload 4, 0, 0, 0, 0), (34, .iload_n 1, 0, 0, 0, 0), (35, .invokevirtual 201, 0, 999, 0, 0), (38, .getfield 159, 0, 9, 0, 1260), (41, .arraylength, 0, 0, 0, 0), (42, .ifCond .le 17, 0, 0, 0, 0), (45, .aload_n 3, 0, 0, 0, 0), (46, .iload 4, 0, 0, 0, 0), (48, .iload_n 1, 0, 0, 0, 0), (49, .invokevirtual 199, 0, 999, 0, 0), (52, .iload_n 2, 0, 0, 0, 0), (53, .if_icmp .ne 6, 0, 0, 0, 0), (56, .iload 4, 0, 0, 0, 0), (58, .ireturn, 0, 0, 0, 0), (59, .iinc 4 1, 0, 0, 0, 0), (62, .goto (-43), 0, 0, 0, 0), (65, .iconst (-1), 0, 0, 0, 0), (66, .ireturn, 0, 0, 0, 0)]
def mC111 : List (Nat × Instr × Nat × Nat × Nat × Nat) := [(0, .aload_n 0, 0, 0, 0, 0), (1, .iload_n 1, 0, 0, 0, 0), (2, .iconst 0, 0, 0, 0, 0), (3, .iconst 3, 0, 0, 0, 0), (4, .invokestatic 84, 0, 75, 3, 1007), (7, .ifCond .ne 7, 0, 0, 0, 0), (10, .iconst 1, 0, 0, 0, 0), (11, .goto 4, 0, 0, 0, 0), (14, .iconst 0, 0, 0, 0, 0), (15, .iconst 1, 0, 0, 0, 0), (16, .invokevirtual 106, 0, 77, 2, 1010), (19, .ifCond .eq 7, 0, 0, 0, 0), (22, .iconst 0, 0, 0, 0, 0), (23, .goto 18, 0, 0, 0, 0), (26, .new 74, 0, 12, 0, 1164), (29, .dup, 0, 0, 0, 0), (30, .aload_n 0, 0, 0, 0, 0), (31, .iload_n 1, 0, 0, 0, 0), (32, .invokespecial 79, 0, 68, 2, 1315), (35, .getfield 142, 0, 12, 8, 1429), (38, .invokevirtual 34, 0, 121, 0, 1102), (41, .ireturn, 0, 0, 0, 0)]
def mC112 : List (Nat × Instr × Nat × Nat × Nat × Nat) := [(0, .aload_n 0, 0, 0, 0, 0), (1, .invokevirtual 123, 0, 81, 0, 1160), (4, .astore_n 3, 0, 0, 0, 0), (5, .aload_n 0, 0, 0, 0, 0), (6, .aload_n 3, 0, 0, 0, 0), (7, .iload_n 1, 0, 0, 0, 0), (8, .invokevirtual 178, 0, 102, 2, 1504), (11, .ifCond .ne 26, 0, 0, 0, 0), (14, .aload_n 0, 0, 0, 0, 0), (15, .iload_n 2, 0, 0, 0, 0), (16, .iconst 1, 0, 0, 0, 0), (17, .bipush 100, 0, 0, 0, 0), (19, .invokestatic 84, 0, 75, 3, 1007), (22, .ifCond .ne 7, 0, 0, 0, 0), (25, .iconst 1, 0, 0, 0, 0), (26, .goto 4, 0, 0, 0, 0), (29, .iconst 0, 0, 0, 0, 0), (30, .iconst 2, 0, 0, 0, 0), (31, .invokevirtual 30, 0, 76, 2, 1014), (34, .ifCond .eq 7, 0, 0, 0, 0), (37, .iconst 0, 0, 0, 0, 0), (38, .goto 17, 0, 0, 0, 0), (41, .aload_n 3, 0, 0, 0, 0), (42, .aload_n 3, 0, 0, 0, 0), (43, .iload_n 1, 0, 0, 0, 0), (44, .aload_n 3, 0, 0, 0, 0), (45, .invokevirtual 136, 0, 69, 0, 1467), (48, .invokevirtual 205, 0, 999, 0, 0), (51, .iload_n 2, 0, 0, 0, 0), (52, .invokevirtual 208, 0, 999, 0, 0), (55, .ireturn, 0, 0, 0, 0)]
def mC113 : List (Nat × Instr × Nat × Nat × Nat × Nat) := [(0, .lload_n 0, 0, 0, 0, 0), (1, .ldc2_w 211, 0, 31, 0, 1590), (4, .lmul, 0, 0, 0, 0), (5, .lload_n 2, 0, 0, 0, 0), (6, .ladd, 0, 0, 0, 0), (7, .lreturn, 0, 0, 0, 0)]
def mC114 : List (Nat × Instr × Nat × Nat × Nat × Nat) := [(0, .aload_n 0, 0, 0, 0, 0), (1, .iconst 0, 0, 0, 0, 0), (2, .putfield 27, 0, 13, 0, 976), (5, .aload_n 0, 0, 0, 0, 0), (6, .invokevirtual 123, 0, 81, 0, 1160), (9, .astore_n 1, 0, 0, 0, 0), (10, .ldc2_w 213, 0, 58075, 0, 1586), (13, .lstore_n 2, 0, 0, 0, 0), (14, .iconst 0, 0, 0, 0, 0), (15, .istore 4, 0, 0, 0, 0), (17, .iload 4, 0, 0, 0, 0), (19, .iconst 3, 0, 0, 0, 0), (20, .if_icmp .ge 21, 0, 0, 0, 0), (23, .lload_n 2, 0, 0, 0, 0), (24, .aload_n 1, 0, 0, 0, 0), (25, .iload 4, 0, 0, 0, 0), (27, .invokestatic 127, 0, 93, 2, 1452), (30, .i2l, 0, 0, 0, 0), (31, .invokestatic 215, 0, 113, 2, 1587), (34, .lstore_n 2, 0, 0, 0, 0), (35, .iinc 4 1, 0, 0, 0, 0), (38, .goto (-21), 0, 0, 0, 0), (41, .iconst 0, 0, 0, 0, 0), (42, .istore 4, 0, 0, 0, 0), (44, .iload 4, 0, 0, 0, 0), (46, .iconst 4, 0, 0, 0, 0), (47, .if_icmp .ge 21, 0, 0, 0, 0), (50, .lload_n 2, 0, 0, 0, 0), (51, .aload_n 0, 0, 0, 0, 0), (52, .iload 4, 0, 0, 0, 0), (54, .invokevirtual 70, 0, 79, 1, 1170), (57, .i2l, 0, 0, 0, 0), (58, .invokestatic 215, 0, 113, 2, 1587), (61, .lstore_n 2, 0, 0, 0, 0), (62, .iinc 4 1, 0, 0, 0, 0), (65, .goto (-21), 0, 0, 0, 0), (68, .iconst 0, 0, 0, 0, 0), (69, .istore 4, 0, 0, 0, 0), (71, .iload 4, 0, 0, 0, 0), (73, .bipush 7, 0, 0, 0, 0), (75, .if_icmp .ge 22, 0, 0, 0, 0), (78, .lload_n 2, 0, 0, 0, 0), (79, .aload_n 0, 0, 0, 0, 0), (80, .aload_n 1, 0, 0, 0, 0), (81, .iload 4, 0, 0, 0, 0), (83, .invokevirtual 148, 0, 96, 2, 1463), (86, .i2l, 0, 0, 0, 0), (87, .invokestatic 215, 0, 113, 2, 1587), (90, .lstore_n 2, 0, 0, 0, 0), (91, .iinc 4 1, 0, 0, 0, 0), (94, .goto (-23), 0, 0, 0, 0), (97, .iconst 0, 0, 0, 0, 0), (98, .istore 4, 0, 0, 0, 0), (100, .iload 4, 0, 0, 0, 0), (102, .aload_n 1, 0, 0, 0, 0), (103, .getfield 131, 0, 12, 1, 1417), (106, .invokevirtual 34, 0, 121, 0, 1102), (109, .if_icmp .ge 115, 0, 0, 0, 0), (112, .lload_n 2, 0, 0, 0, 0), (113, .aload_n 1, 0, 0, 0, 0), (114, .getfield 131, 0, 12, 1, 1417), (117, .iload 4, 0, 0, 0, 0), (119, .invokevirtual 38, 0, 999, 0, 0), (122, .checkcast 42, 0, 0, 0, 0), (125, .getfield 44, 0, 11, 1, 1213), (128, .i2l, 0, 0, 0, 0), (129, .invokestatic 215, 0, 113, 2, 1587), (132, .lstore_n 2, 0, 0, 0, 0), (133, .iconst 0, 0, 0, 0, 0), (134, .istore 5, 0, 0, 0, 0), (136, .iload 5, 0, 0, 0, 0), (138, .aload_n 1, 0, 0, 0, 0), (139, .getfield 131, 0, 12, 1, 1417), (142, .iload 4, 0, 0, 0, 0), (144, .invokevirtual 38, 0, 999, 0, 0), (147, .checkcast 42, 0, 0, 0, 0), (150, .getfield 168, 0, 11, 0, 1211), (153, .invokevirtual 34, 0, 121, 0, 1102), (156, .if_icmp .ge 62, 0, 0, 0, 0), (159, .iconst 0, 0, 0, 0, 0), (160, .istore 6, 0, 0, 0, 0), (162, .iload 6, 0, 0, 0, 0), (164, .iconst 5, 0, 0, 0, 0), (165, .if_icmp .ge 47, 0, 0, 0, 0), (168, .lload_n 2, 0, 0, 0, 0), (169, .aload_n 1, 0, 0, 0, 0), (170, .getfield 131, 0, 12, 1, 1417), (173, .iload 4, 0, 0, 0, 0), (175, .invokevirtual 38, 0, 999, 0, 0), (178, .checkcast 42, 0, 0, 0, 0), (181, .getfield 168, 0, 11, 0, 1211), (184, .iload 5, 0, 0, 0, 0), (186, .invokevirtual 38, 0, 999, 0, 0), (189, .checkcast 152, 0, 0, 0, 0), (192, .iload 6, 0, 0, 0, 0), (194, .aload_n 1, 0, 0, 0, 0), (195, .getfield 116, 0, 12, 4, 1422), (198, .invokestatic 175, 0, 999, 0, 0), (201, .i2l, 0, 0, 0, 0), (202, .invokestatic 215, 0, 113, 2, 1587), (205, .lstore_n 2, 0, 0, 0, 0), (206, .iinc 6 1, 0, 0, 0, 0), (209, .goto (-47), 0, 0, 0, 0), (212, .iinc 5 1, 0, 0, 0, 0), (215, .goto (-79), 0, 0, 0, 0), (218, .iinc 4 1, 0, 0, 0, 0), (221, .goto (-121), 0, 0, 0, 0), (224, .iconst 0, 0, 0, 0, 0), (225, .istore 4, 0, 0, 0, 0), (227, .iload 4, 0, 0, 0, 0), (229, .aload_n 1, 0, 0, 0, 0), (230, .getfield 133, 0, 12, 3, 1420), (233, .if_icmp .ge 71, 0, 0, 0, 0), (236, .iconst 0, 0, 0, 0, 0), (237, .istore 5, 0, 0, 0, 0), (239, .iload 5, 0, 0, 0, 0), (241, .iconst 5, 0, 0, 0, 0), (242, .if_icmp .ge 23, 0, 0, 0, 0), (245, .lload_n 2, 0, 0, 0, 0), (246, .aload_n 1, 0, 0, 0, 0), (247, .iload 4, 0, 0, 0, 0), (249, .iload 5, 0, 0, 0, 0), (251, .invokevirtual 182, 0, 999, 0, 0), (254, .i2l, 0, 0, 0, 0), (255, .invokestatic 215, 0, 113, 2, 1587), (258, .lstore_n 2, 0, 0, 0, 0), (259, .iinc 5 1, 0, 0, 0, 0), (262, .goto (-23), 0, 0, 0, 0), (265, .lload_n 2, 0, 0, 0, 0), (266, .aload_n 1, 0, 0, 0, 0), (267, .iload 4, 0, 0, 0, 0), (269, .iconst 0, 0, 0, 0, 0), (270, .invokevirtual 185, 0, 999, 0, 0), (273, .i2l, 0, 0, 0, 0), (274, .invokestatic 215, 0, 113, 2, 1587), (277, .aload_n 1, 0, 0, 0, 0), (278, .iload 4, 0, 0, 0, 0), (280, .iconst 1, 0, 0, 0, 0), (281, .invokevirtual 185, 0, 999, 0, 0), (284, .i2l, 0, 0, 0, 0), (285, .invokestatic 215, 0, 113, 2, 1587), (288, .aload_n 1, 0, 0, 0, 0), (289, .iload 4, 0, 0, 0, 0), (291, .invokevirtual 188, 0, 999, 0, 0), (294, .invokestatic 215, 0, 113, 2, 1587), (297, .lstore_n 2, 0, 0, 0, 0), (298, .iinc 4 1, 0, 0, 0, 0), (301, .goto (-74), 0, 0, 0, 0), (304, .iconst 0, 0, 0, 0, 0), (305, .istore 4, 0, 0, 0, 0), (307, .iload 4, 0, 0, 0, 0), (309, .aload_n 1, 0, 0, 0, 0), (310, .getfield 139, 0, 12, 7, 1427), (313, .invokevirtual 34, 0, 121, 0, 1102), (316, .if_icmp .ge 45, 0, 0, 0, 0), (319, .iconst 0, 0, 0, 0, 0), (320, .istore 5, 0, 0, 0, 0), (322, .iload 5, 0, 0, 0, 0), (324, .iconst 3, 0, 0, 0, 0), (325, .if_icmp .ge 30, 0, 0, 0, 0), (328, .lload_n 2, 0, 0, 0, 0), (329, .aload_n 1, 0, 0, 0, 0), (330, .getfield 139, 0, 12, 7, 1427), (333, .iload 4, 0, 0, 0, 0), (335, .invokevirtual 38, 0, 999, 0, 0), (338, .checkcast 195, 0, 0, 0, 0), (341, .iload 5, 0, 0, 0, 0), (343, .iaload, 0, 0, 0, 0), (344, .i2l, 0, 0, 0, 0), (345, .invokestatic 215, 0, 113, 2, 1587), (348, .lstore_n 2, 0, 0, 0, 0), (349, .iinc 5 1, 0, 0, 0, 0), (352, .goto (-30), 0, 0, 0, 0), (355, .iinc 4 1, 0, 0, 0, 0), (358, .goto (-51), 0, 0, 0, 0), (361, .iconst 0, 0, 0, 0, 0), (362, .istore 4, 0, 0, 0, 0), (364, .iload 4, 0, 0, 0, 0), (366, .aload_n 1, 0, 0, 0, 0), (367, .getfield 142, 0, 12, 8, 1429), (370, .invokevirtual 34, 0, 121, 0, 1102), (373, .if_icmp .ge 30, 0, 0, 0, 0), (376, .lload_n 2, 0, 0, 0, 0), (377, .aload_n 1, 0, 0, 0, 0), (378, .getfield 142, 0, 12, 8, 1429), (381, .iload 4, 0, 0, 0, 0), (383, .invokevirtual 38, 0, 999, 0, 0), (386, .checkcast 93, 0, 0, 0, 0), (389, .invokevirtual 196, 0, 999, 0, 0), (392, .i2l, 0, 0, 0, 0), (393, .invokestatic 215, 0, 113, 2, 1587), (396, .lstore_n 2, 0, 0, 0, 0), (397, .iinc 4 1, 0, 0, 0, 0), (400, .goto (-36), 0, 0, 0, 0), (403, .iconst 0, 0, 0, 0, 0), (404, .istore 4, 0, 0, 0, 0), (406, .iload 4, 0, 0, 0, 0), (408, .iconst 4, 0, 0, 0, 0), (409, .if_icmp .ge 31, 0, 0, 0, 0), (412, .lload_n 2, 0, 0, 0, 0), (413, .new 74, 0, 12, 0, 1164), (416, .dup, 0, 0, 0, 0), (417, .aload_n 0, 0, 0, 0, 0), (418, .iload 4, 0, 0, 0, 0), (420, .invokespecial 79, 0, 68, 2, 1315), (423, .getfield 142, 0, 12, 8, 1429), (426, .invokevirtual 34, 0, 121, 0, 1102), (429, .i2l, 0, 0, 0, 0), (430, .invokestatic 215, 0, 113, 2, 1587), (433, .lstore_n 2, 0, 0, 0, 0), (434, .iinc 4 1, 0, 0, 0, 0), (437, .goto (-31), 0, 0, 0, 0), (440, .lload_n 2, 0, 0, 0, 0), (441, .lreturn, 0, 0, 0, 0)]
def mC115 : List (Nat × Instr × Nat × Nat × Nat × Nat) := [(0, .iload_n 0, 0, 0, 0, 0), (1, .bipush (-128), 0, 0, 0, 0), (3, .if_icmp .lt 20, 0, 0, 0, 0), (6, .iload_n 0, 0, 0, 0, 0), (7, .getstatic 191, 0, 1, 0, 1021), (10, .if_icmp .gt 13, 0, 0, 0, 0), (13, .getstatic 195, 0, 2, 0, 1023), (16, .iload_n 0, 0, 0, 0, 0), (17, .sipush 128, 0, 0, 0, 0), (20, .iadd, 0, 0, 0, 0), (21, .aaload, 0, 0, 0, 0), (22, .areturn, 0, 0, 0, 0), (23, .new 1, 0, 0, 0, 1025), (26, .dup, 0, 0, 0, 0), (27, .iload_n 0, 0, 0, 0, 0), (28, .invokespecial 199, 0, 999, 0, 0), (31, .areturn, 0, 0, 0, 0)]
def mC116 : List (Nat × Instr × Nat × Nat × Nat × Nat) := [(0, .aload_n 0, 0, 0, 0, 0), (1, .invokespecial 1, 0, 998, 0, 961), (4, .return_, 0, 0, 0, 0)]
def mC117 : List (Nat × Instr × Nat × Nat × Nat × Nat) := [(0, .aload_n 0, 0, 0, 0, 0), (1, .invokespecial 1, 0, 116, 0, 958), (4, .aload_n 0, 0, 0, 0, 0), (5, .iconst 0, 0, 0, 0, 0), (6, .putfield 7, 0, 1, 0, 966), (9, .return_, 0, 0, 0, 0)]
def mC118 : List (Nat × Instr × Nat × Nat × Nat × Nat) := [(0, .aload_n 0, 0, 0, 0, 0), (1, .invokespecial 1, 0, 117, 0, 955), (4, .aload_n 0, 0, 0, 0, 0), (5, .getstatic 39, 0, 3, 0, 962), (8, .putfield 9, 0, 1, 1, 964), (11, .return_, 0, 0, 0, 0)]
def mC119 : List (Nat × Instr × Nat × Nat × Nat × Nat) := [(0, .aload_n 0, 0, 0, 0, 0), (1, .getfield 9, 0, 1, 1, 964), (4, .arraylength, 0, 0, 0, 0), (5, .istore_n 2, 0, 0, 0, 0), (6, .iload_n 2, 0, 0, 0, 0), (7, .ifCond .gt 13, 0, 0, 0, 0), (10, .aload_n 0, 0, 0, 0, 0), (11, .getfield 9, 0, 1, 1, 964), (14, .getstatic 39, 0, 3, 0, 962), (17, .if_acmp .eq 28, 0, 0, 0, 0), (20, .iload_n 2, 0, 0, 0, 0), (21, .iload_n 1, 0, 0, 0, 0), (22, .iload_n 2, 0, 0, 0, 0), (23, .isub, 0, 0, 0, 0), (24, .iload_n 2, 0, 0, 0, 0), (25, .iconst 1, 0, 0, 0, 0), (26, .ishr, 0, 0, 0, 0), (27, .invokestatic 73, 0, 129, 3, 1054), (30, .istore_n 3, 0, 0, 0, 0), (31, .aload_n 0, 0, 0, 0, 0), (32, .aload_n 0, 0, 0, 0, 0), (33, .getfield 9, 0, 1, 1, 964), (36, .iload_n 3, 0, 0, 0, 0), (37, .invokestatic 66, 0, 127, 2, 1062), (40, .dup_x1, 0, 0, 0, 0), (41, .putfield 9, 0, 1, 1, 964), (44, .areturn, 0, 0, 0, 0), (45, .aload_n 0, 0, 0, 0, 0), (46, .bipush 10, 0, 0, 0, 0), (48, .iload_n 1, 0, 0, 0, 0), (49, .invokestatic 79, 0, 996, 0, 1096), (52, .anewarray 7, 0, 3, 0, 1097), (55, .dup_x1, 0, 0, 0, 0), (56, .putfield 9, 0, 1, 1, 964), (59, .areturn, 0, 0, 0, 0)]
def mC120 : List (Nat × Instr × Nat × Nat × Nat × Nat) := [(0, .aload_n 0, 0, 0, 0, 0), (1, .aload_n 0, 0, 0, 0, 0), (2, .getfield 48, 0, 1, 2, 965), (5, .iconst 1, 0, 0, 0, 0), (6, .iadd, 0, 0, 0, 0), (7, .invokevirtual 69, 0, 119, 1, 1050), (10, .areturn, 0, 0, 0, 0)]
def mC121 : List (Nat × Instr × Nat × Nat × Nat × Nat) := [(0, .aload_n 0, 0, 0, 0, 0), (1, .getfield 48, 0, 1, 2, 965), (4, .ireturn, 0, 0, 0, 0)]
def mC122 : List (Nat × Instr × Nat × Nat × Nat × Nat) := [(0, .aload_n 0, 0, 0, 0, 0), (1, .getfield 9, 0, 1, 1, 964), (4, .aload_n 0, 0, 0, 0, 0), (5, .getfield 48, 0, 1, 2, 965), (8, .invokestatic 66, 0, 127, 2, 1062), (11, .areturn, 0, 0, 0, 0)]
def mC123 : List (Nat × Instr × Nat × Nat × Nat × Nat) := [(0, .iload_n 3, 0, 0, 0, 0), (1, .aload_n 2, 0, 0, 0, 0), (2, .arraylength, 0, 0, 0, 0), (3, .if_icmp .ne 8, 0, 0, 0, 0), (6, .aload_n 0, 0, 0, 0, 0), (7, .invokevirtual 129, 0, 120, 0, 1046), (10, .astore_n 2, 0, 0, 0, 0), (11, .aload_n 2, 0, 0, 0, 0), (12, .iload_n 3, 0, 0, 0, 0), (13, .aload_n 1, 0, 0, 0, 0), (14, .aastore, 0, 0, 0, 0), (15, .aload_n 0, 0, 0, 0, 0), (16, .iload_n 3, 0, 0, 0, 0), (17, .iconst 1, 0, 0, 0, 0), (18, .iadd, 0, 0, 0, 0), (19, .putfield 48, 0, 1, 2, 965), (22, .return_, 0, 0, 0, 0)]
def mC124 : List (Nat × Instr × Nat × Nat × Nat × Nat) := [(0, .aload_n 0, 0, 0, 0, 0), (1, .dup, 0, 0, 0, 0), (2, .getfield 63, 968, 1, 0, 967), (5, .iconst 1, 0, 0, 0, 0), (6, .iadd, 0, 0, 0, 0), (7, .putfield 63, 968, 1, 0, 967), (10, .aload_n 0, 0, 0, 0, 0), (11, .aload_n 1, 0, 0, 0, 0), (12, .aload_n 0, 0, 0, 0, 0), (13, .getfield 9, 0, 1, 1, 964), (16, .aload_n 0, 0, 0, 0, 0), (17, .getfield 48, 0, 1, 2, 965), (20, .invokevirtual 131, 0, 123, 3, 1042), (23, .iconst 1, 0, 0, 0, 0), (24, .ireturn, 0, 0, 0, 0)]
def mC125 : List (Nat × Instr × Nat × Nat × Nat × Nat) := [(0, .aload_n 0, 0, 0, 0, 0), (1, .dup, 0, 0, 0, 0), (2, .getfield 63, 968, 1, 0, 967), (5, .iconst 1, 0, 0, 0, 0), (6, .iadd, 0, 0, 0, 0), (7, .putfield 63, 968, 1, 0, 967), (10, .aload_n 0, 0, 0, 0, 0), (11, .getfield 9, 0, 1, 1, 964), (14, .astore_n 1, 0, 0, 0, 0), (15, .aload_n 0, 0, 0, 0, 0), (16, .getfield 48, 0, 1, 2, 965), (19, .istore_n 2, 0, 0, 0, 0), (20, .aload_n 0, 0, 0, 0, 0), (21, .iconst 0, 0, 0, 0, 0), (22, .dup_x1, 0, 0, 0, 0), (23, .putfield 48, 0, 1, 2, 965), (26, .istore_n 3, 0, 0, 0, 0), (27, .iload_n 3, 0, 0, 0, 0), (28, .iload_n 2, 0, 0, 0, 0), (29, .if_icmp .ge 13, 0, 0, 0, 0), (32, .aload_n 1, 0, 0, 0, 0), (33, .iload_n 3, 0, 0, 0, 0), (34, .aconst_null, 0, 0, 0, 0), (35, .aastore, 0, 0, 0, 0), (36, .iinc 3 1, 0, 0, 0, 0), (39, .goto (-12), 0, 0, 0, 0), (42, .return_, 0, 0, 0, 0)]
def mC126 : List (Nat × Instr × Nat × Nat × Nat × Nat) := [(0, .aload_n 1, 0, 0, 0, 0), (1, .invokeinterface 42 1, 0, 999, 0, 0), (6, .astore_n 2, 0, 0, 0, 0), (7, .aload_n 0, 0, 0, 0, 0), (8, .dup, 0, 0, 0, 0), (9, .getfield 63, 968, 1, 0, 967), (12, .iconst 1, 0, 0, 0, 0), (13, .iadd, 0, 0, 0, 0), (14, .putfield 63, 968, 1, 0, 967), (17, .aload_n 2, 0, 0, 0, 0), (18, .arraylength, 0, 0, 0, 0), (19, .istore_n 3, 0, 0, 0, 0), (20, .iload_n 3, 0, 0, 0, 0), (21, .ifCond .ne 5, 0, 0, 0, 0), (24, .iconst 0, 0, 0, 0, 0), (25, .ireturn, 0, 0, 0, 0), (26, .iload_n 3, 0, 0, 0, 0), (27, .aload_n 0, 0, 0, 0, 0), (28, .getfield 9, 0, 1, 1, 964), (31, .dup, 0, 0, 0, 0), (32, .astore 4, 0, 0, 0, 0), (34, .arraylength, 0, 0, 0, 0), (35, .aload_n 0, 0, 0, 0, 0), (36, .getfield 48, 0, 1, 2, 965), (39, .dup, 0, 0, 0, 0), (40, .istore 5, 0, 0, 0, 0), (42, .isub, 0, 0, 0, 0), (43, .if_icmp .le 13, 0, 0, 0, 0), (46, .aload_n 0, 0, 0, 0, 0), (47, .iload 5, 0, 0, 0, 0), (49, .iload_n 3, 0, 0, 0, 0), (50, .iadd, 0, 0, 0, 0), (51, .invokevirtual 69, 0, 119, 1, 1050), (54, .astore 4, 0, 0, 0, 0), (56, .aload_n 2, 0, 0, 0, 0), (57, .iconst 0, 0, 0, 0, 0), (58, .aload 4, 0, 0, 0, 0), (60, .iload 5, 0, 0, 0, 0), (62, .iload_n 3, 0, 0, 0, 0), (63, .invokestatic 112, 0, 993, 0, 1120), (66, .aload_n 0, 0, 0, 0, 0), (67, .iload 5, 0, 0, 0, 0), (69, .iload_n 3, 0, 0, 0, 0), (70, .iadd, 0, 0, 0, 0), (71, .putfield 48, 0, 1, 2, 965), (74, .iconst 1, 0, 0, 0, 0), (75, .ireturn, 0, 0, 0, 0)]
def mC127 : List (Nat × Instr × Nat × Nat × Nat × Nat) := [(0, .aload_n 0, 0, 0, 0, 0), (1, .iload_n 1, 0, 0, 0, 0), (2, .aload_n 0, 0, 0, 0, 0), (3, .invokevirtual 86, 0, 994, 0, 1065), (6, .invokestatic 300, 0, 128, 3, 1086), (9, .areturn, 0, 0, 0, 0)]
def mC128 : List (Nat × Instr × Nat × Nat × Nat × Nat) := [(0, .aload_n 2, 0, 0, 0, 0), (1, .ldc 110, 1, 0, 0, 1089), (3, .if_acmp .ne 10, 0, 0, 0, 0), (6, .iload_n 1, 0, 0, 0, 0), (7, .anewarray 2, 0, 3, 0, 1091), (10, .goto 14, 0, 0, 0, 0), (13, .aload_n 2, 0, 0, 0, 0), (14, .invokevirtual 90, 0, 999, 0, 0), (17, .iload_n 1, 0, 0, 0, 0), (18, .invokestatic 95, 0, 999, 0, 0), (21, .checkcast 110, 0, 0, 0, 0), (24, .astore_n 3, 0, 0, 0, 0), (25, .aload_n 0, 0, 0, 0, 0), (26, .iconst 0, 0, 0, 0, 0), (27, .aload_n 3, 0, 0, 0, 0), (28, .iconst 0, 0, 0, 0, 0), (29, .aload_n 0, 0, 0, 0, 0), (30, .arraylength, 0, 0, 0, 0), (31, .iload_n 1, 0, 0, 0, 0), (32, .invokestatic 304, 0, 997, 0, 1092), (35, .invokestatic 150, 0, 993, 0, 1093), (38, .aload_n 3, 0, 0, 0, 0), (39, .areturn, 0, 0, 0, 0)]
def mC129 : List (Nat × Instr × Nat × Nat × Nat × Nat) := [(0, .iload_n 0, 0, 0, 0, 0), (1, .iload_n 1, 0, 0, 0, 0), (2, .iload_n 2, 0, 0, 0, 0), (3, .invokestatic 194, 0, 996, 0, 1057), (6, .iadd, 0, 0, 0, 0), (7, .istore_n 3, 0, 0, 0, 0), (8, .iconst 0, 0, 0, 0, 0), (9, .iload_n 3, 0, 0, 0, 0), (10, .if_icmp .ge 11, 0, 0, 0, 0), (13, .iload_n 3, 0, 0, 0, 0), (14, .ldc 200, 0, 2147483639, 0, 1058), (16, .if_icmp .gt 5, 0, 0, 0, 0), (19, .iload_n 3, 0, 0, 0, 0), (20, .ireturn, 0, 0, 0, 0), (21, .iload_n 0, 0, 0, 0, 0), (22, .iload_n 1, 0, 0, 0, 0), (23, .invokestatic 201, 0, 999, 0, 0), (26, .ireturn, 0, 0, 0, 0)]
def mC130 : List (Nat × Instr × Nat × Nat × Nat × Nat) := [(0, .aload_n 2, 0, 0, 0, 0), (1, .iconst 0, 0, 0, 0, 0), (2, .aload_n 0, 0, 0, 0, 0), (3, .iload_n 1, 0, 0, 0, 0), (4, .invokevirtual 7, 0, 27, 1, 618), (7, .i2l, 0, 0, 0, 0), (8, .lastore, 0, 0, 0, 0), (9, .goto 9, 0, 0, 0, 0), (12, .astore_n 3, 0, 0, 0, 0), (13, .iconst 1, 0, 0, 0, 0), (14, .ireturn, 0, 0, 0, 0), (15, .astore_n 3, 0, 0, 0, 0), (16, .iconst 2, 0, 0, 0, 0), (17, .ireturn, 0, 0, 0, 0), (18, .iconst 0, 0, 0, 0, 0), (19, .ireturn, 0, 0, 0, 0)]
def mC131 : List (Nat × Instr × Nat × Nat × Nat × Nat) := [(0, .aload_n 2, 0, 0, 0, 0), (1, .iconst 0, 0, 0, 0, 0), (2, .aload_n 0, 0, 0, 0, 0), (3, .iload_n 1, 0, 0, 0, 0), (4, .invokevirtual 17, 0, 28, 1, 722), (7, .i2l, 0, 0, 0, 0), (8, .lastore, 0, 0, 0, 0), (9, .goto 9, 0, 0, 0, 0), (12, .astore_n 3, 0, 0, 0, 0), (13, .iconst 1, 0, 0, 0, 0), (14, .ireturn, 0, 0, 0, 0), (15, .astore_n 3, 0, 0, 0, 0), (16, .iconst 2, 0, 0, 0, 0), (17, .ireturn, 0, 0, 0, 0), (18, .iconst 0, 0, 0, 0, 0), (19, .ireturn, 0, 0, 0, 0)]
def mC132 : List (Nat × Instr × Nat × Nat × Nat × Nat) := [(0, .aload_n 3, 0, 0, 0, 0), (1, .iconst 0, 0, 0, 0, 0), (2, .aload_n 0, 0, 0, 0, 0), (3, .iload_n 1, 0, 0, 0, 0), (4, .iload_n 2, 0, 0, 0, 0), (5, .invokevirtual 20, 0, 29, 2, 738), (8, .i2l, 0, 0, 0, 0), (9, .lastore, 0, 0, 0, 0), (10, .goto 11, 0, 0, 0, 0), (13, .astore 4, 0, 0, 0, 0), (15, .iconst 1, 0, 0, 0, 0), (16, .ireturn, 0, 0, 0, 0), (17, .astore 4, 0, 0, 0, 0), (19, .iconst 2, 0, 0, 0, 0), (20, .ireturn, 0, 0, 0, 0), (21, .iconst 0, 0, 0, 0, 0), (22, .ireturn, 0, 0, 0, 0)]
def mC133 : List (Nat × Instr × Nat × Nat × Nat × Nat) := [(0, .aload 5, 0, 0, 0, 0), (2, .iconst 0, 0, 0, 0, 0), (3, .aload_n 0, 0, 0, 0, 0), (4, .iload_n 1, 0, 0, 0, 0), (5, .iload_n 2, 0, 0, 0, 0), (6, .iload_n 3, 0, 0, 0, 0), (7, .iload 4, 0, 0, 0, 0), (9, .invokevirtual 24, 0, 30, 4, 746), (12, .i2l, 0, 0, 0, 0), (13, .lastore, 0, 0, 0, 0), (14, .goto 11, 0, 0, 0, 0), (17, .astore 6, 0, 0, 0, 0), (19, .iconst 1, 0, 0, 0, 0), (20, .ireturn, 0, 0, 0, 0), (21, .astore 6, 0, 0, 0, 0), (23, .iconst 2, 0, 0, 0, 0), (24, .ireturn, 0, 0, 0, 0), (25, .iconst 0, 0, 0, 0, 0), (26, .ireturn, 0, 0, 0, 0)]
def mC134 : List (Nat × Instr × Nat × Nat × Nat × Nat) := [(0, .aload_n 3, 0, 0, 0, 0), (1, .iconst 0, 0, 0, 0, 0), (2, .aload_n 0, 0, 0, 0, 0), (3, .iload_n 1, 0, 0, 0, 0), (4, .iload_n 2, 0, 0, 0, 0), (5, .invokevirtual 28, 0, 32, 2, 754), (8, .i2l, 0, 0, 0, 0), (9, .lastore, 0, 0, 0, 0), (10, .goto 7, 0, 0, 0, 0), (13, .astore 4, 0, 0, 0, 0), (15, .iconst 1, 0, 0, 0, 0), (16, .ireturn, 0, 0, 0, 0), (17, .iconst 0, 0, 0, 0, 0), (18, .ireturn, 0, 0, 0, 0)]
def mC135 : List (Nat × Instr × Nat × Nat × Nat × Nat) := [(0, .aload_n 2, 0, 0, 0, 0), (1, .iconst 0, 0, 0, 0, 0), (2, .aload_n 0, 0, 0, 0, 0), (3, .iload_n 1, 0, 0, 0, 0), (4, .invokevirtual 31, 0, 33, 1, 764), (7, .i2l, 0, 0, 0, 0), (8, .lastore, 0, 0, 0, 0), (9, .goto 6, 0, 0, 0, 0), (12, .astore_n 3, 0, 0, 0, 0), (13, .iconst 1, 0, 0, 0, 0), (14, .ireturn, 0, 0, 0, 0), (15, .iconst 0, 0, 0, 0, 0), (16, .ireturn, 0, 0, 0, 0)]
def mC136 : List (Nat × Instr × Nat × Nat × Nat × Nat) := [(0, .aload_n 3, 0, 0, 0, 0), (1, .iconst 0, 0, 0, 0, 0), (2, .aload_n 0, 0, 0, 0, 0), (3, .iload_n 1, 0, 0, 0, 0), (4, .iload_n 2, 0, 0, 0, 0), (5, .invokevirtual 34, 0, 34, 2, 776), (8, .i2l, 0, 0, 0, 0), (9, .lastore, 0, 0, 0, 0), (10, .goto 11, 0, 0, 0, 0), (13, .astore 4, 0, 0, 0, 0), (15, .iconst 1, 0, 0, 0, 0), (16, .ireturn, 0, 0, 0, 0), (17, .astore 4, 0, 0, 0, 0), (19, .iconst 2, 0, 0, 0, 0), (20, .ireturn, 0, 0, 0, 0), (21, .iconst 0, 0, 0, 0, 0), (22, .ireturn, 0, 0, 0, 0)]
def mC137 : List (Nat × Instr × Nat × Nat × Nat × Nat) := [(0, .aload_n 2, 0, 0, 0, 0), (1, .iconst 0, 0, 0, 0, 0), (2, .aload_n 0, 0, 0, 0, 0), (3, .iload_n 1, 0, 0, 0, 0), (4, .invokevirtual 39, 0, 35, 1, 800), (7, .i2l, 0, 0, 0, 0), (8, .lastore, 0, 0, 0, 0), (9, .goto 6, 0, 0, 0, 0), (12, .astore_n 3, 0, 0, 0, 0), (13, .iconst 1, 0, 0, 0, 0), (14, .ireturn, 0, 0, 0, 0), (15, .iconst 0, 0, 0, 0, 0), (16, .ireturn, 0, 0, 0, 0)]
def mC138 : List (Nat × Instr × Nat × Nat × Nat × Nat) := [(0, .aload_n 2, 0, 0, 0, 0), (1, .iconst 0, 0, 0, 0, 0), (2, .aload_n 0, 0, 0, 0, 0), (3, .iload_n 1, 0, 0, 0, 0), (4, .invokevirtual 42, 0, 36, 1, 808), (7, .i2l, 0, 0, 0, 0), (8, .lastore, 0, 0, 0, 0), (9, .goto 6, 0, 0, 0, 0), (12, .astore_n 3, 0, 0, 0, 0), (13, .iconst 1, 0, 0, 0, 0), (14, .ireturn, 0, 0, 0, 0), (15, .iconst 0, 0, 0, 0, 0), (16, .ireturn, 0, 0, 0, 0)]
def mC139 : List (Nat × Instr × Nat × Nat × Nat × Nat) := [(0, .aload_n 2, 0, 0, 0, 0), (1, .iconst 0, 0, 0, 0, 0), (2, .aload_n 0, 0, 0, 0, 0), (3, .iload_n 1, 0, 0, 0, 0), (4, .invokevirtual 45, 0, 37, 1, 819), (7, .i2l, 0, 0, 0, 0), (8, .lastore, 0, 0, 0, 0), (9, .goto 6, 0, 0, 0, 0), (12, .astore_n 3, 0, 0, 0, 0), (13, .iconst 1, 0, 0, 0, 0), (14, .ireturn, 0, 0, 0, 0), (15, .iconst 0, 0, 0, 0, 0), (16, .ireturn, 0, 0, 0, 0)]
def mC140 : List (Nat × Instr × Nat × Nat × Nat × Nat) := [(0, .aload_n 2, 0, 0, 0, 0), (1, .iconst 0, 0, 0, 0, 0), (2, .aload_n 0, 0, 0, 0, 0), (3, .iload_n 1, 0, 0, 0, 0), (4, .invokevirtual 48, 0, 38, 1, 827), (7, .i2l, 0, 0, 0, 0), (8, .lastore, 0, 0, 0, 0), (9, .goto 6, 0, 0, 0, 0), (12, .astore_n 3, 0, 0, 0, 0), (13, .iconst 1, 0, 0, 0, 0), (14, .ireturn, 0, 0, 0, 0), (15, .iconst 0, 0, 0, 0, 0), (16, .ireturn, 0, 0, 0, 0)]
def mC141 : List (Nat × Instr × Nat × Nat × Nat × Nat) := [(0, .aload 4, 0, 0, 0, 0), (2, .iconst 0, 0, 0, 0, 0), (3, .aload_n 0, 0, 0, 0, 0), (4, .iload_n 1, 0, 0, 0, 0), (5, .iload_n 2, 0, 0, 0, 0), (6, .iload_n 3, 0, 0, 0, 0), (7, .invokevirtual 51, 0, 39, 3, 835), (10, .i2l, 0, 0, 0, 0), (11, .lastore, 0, 0, 0, 0), (12, .goto 11, 0, 0, 0, 0), (15, .astore 5, 0, 0, 0, 0), (17, .iconst 1, 0, 0, 0, 0), (18, .ireturn, 0, 0, 0, 0), (19, .astore 5, 0, 0, 0, 0), (21, .iconst 2, 0, 0, 0, 0), (22, .ireturn, 0, 0, 0, 0), (23, .iconst 0, 0, 0, 0, 0), (24, .ireturn, 0, 0, 0, 0)]
def mC142 : List (Nat × Instr × Nat × Nat × Nat × Nat) := [(0, .aload 4, 0, 0, 0, 0), (2, .iconst 0, 0, 0, 0, 0), (3, .aload_n 0, 0, 0, 0, 0), (4, .iload_n 1, 0, 0, 0, 0), (5, .iload_n 2, 0, 0, 0, 0), (6, .iload_n 3, 0, 0, 0, 0), (7, .invokevirtual 55, 0, 40, 3, 844), (10, .i2l, 0, 0, 0, 0), (11, .lastore, 0, 0, 0, 0), (12, .goto 7, 0, 0, 0, 0), (15, .astore 5, 0, 0, 0, 0), (17, .iconst 1, 0, 0, 0, 0), (18, .ireturn, 0, 0, 0, 0), (19, .iconst 0, 0, 0, 0, 0), (20, .ireturn, 0, 0, 0, 0)]
def mC143 : List (Nat × Instr × Nat × Nat × Nat × Nat) := [(0, .aload_n 3, 0, 0, 0, 0), (1, .iconst 0, 0, 0, 0, 0), (2, .aload_n 0, 0, 0, 0, 0), (3, .iload_n 1, 0, 0, 0, 0), (4, .iload_n 2, 0, 0, 0, 0), (5, .invokevirtual 58, 0, 41, 2, 851), (8, .i2l, 0, 0, 0, 0), (9, .lastore, 0, 0, 0, 0), (10, .goto 11, 0, 0, 0, 0), (13, .astore 4, 0, 0, 0, 0), (15, .iconst 1, 0, 0, 0, 0), (16, .ireturn, 0, 0, 0, 0), (17, .astore 4, 0, 0, 0, 0), (19, .iconst 2, 0, 0, 0, 0), (20, .ireturn, 0, 0, 0, 0), (21, .iconst 0, 0, 0, 0, 0), (22, .ireturn, 0, 0, 0, 0)]
def mC144 : List (Nat × Instr × Nat × Nat × Nat × Nat) := [(0, .aload_n 3, 0, 0, 0, 0), (1, .iconst 0, 0, 0, 0, 0), (2, .aload_n 0, 0, 0, 0, 0), (3, .iload_n 1, 0, 0, 0, 0), (4, .iload_n 2, 0, 0, 0, 0), (5, .invokevirtual 61, 0, 42, 2, 864), (8, .i2l, 0, 0, 0, 0), (9, .lastore, 0, 0, 0, 0), (10, .goto 11, 0, 0, 0, 0), (13, .astore 4, 0, 0, 0, 0), (15, .iconst 1, 0, 0, 0, 0), (16, .ireturn, 0, 0, 0, 0), (17, .astore 4, 0, 0, 0, 0), (19, .iconst 2, 0, 0, 0, 0), (20, .ireturn, 0, 0, 0, 0), (21, .iconst 0, 0, 0, 0, 0), (22, .ireturn, 0, 0, 0, 0)]
def mC145 : List (Nat × Instr × Nat × Nat × Nat × Nat) := [(0, .aload_n 2, 0, 0, 0, 0), (1, .iconst 0, 0, 0, 0, 0), (2, .aload_n 0, 0, 0, 0, 0), (3, .iload_n 1, 0, 0, 0, 0), (4, .invokevirtual 64, 0, 43, 1, 872), (7, .lastore, 0, 0, 0, 0), (8, .goto 6, 0, 0, 0, 0), (11, .astore_n 3, 0, 0, 0, 0), (12, .iconst 1, 0, 0, 0, 0), (13, .ireturn, 0, 0, 0, 0), (14, .iconst 0, 0, 0, 0, 0), (15, .ireturn, 0, 0, 0, 0)]
def mC146 : List (Nat × Instr × Nat × Nat × Nat × Nat) := [(0, .aload_n 2, 0, 0, 0, 0), (1, .iconst 0, 0, 0, 0, 0), (2, .aload_n 0, 0, 0, 0, 0), (3, .iload_n 1, 0, 0, 0, 0), (4, .invokevirtual 68, 0, 44, 1, 879), (7, .dastore, 0, 0, 0, 0), (8, .goto 6, 0, 0, 0, 0), (11, .astore_n 3, 0, 0, 0, 0), (12, .iconst 1, 0, 0, 0, 0), (13, .ireturn, 0, 0, 0, 0), (14, .iconst 0, 0, 0, 0, 0), (15, .ireturn, 0, 0, 0, 0)]
def mC147 : List (Nat × Instr × Nat × Nat × Nat × Nat) := [(0, .aload_n 3, 0, 0, 0, 0), (1, .iconst 0, 0, 0, 0, 0), (2, .aload_n 0, 0, 0, 0, 0), (3, .iload_n 1, 0, 0, 0, 0), (4, .iload_n 2, 0, 0, 0, 0), (5, .invokevirtual 72, 0, 45, 2, 890), (8, .i2l, 0, 0, 0, 0), (9, .lastore, 0, 0, 0, 0), (10, .goto 11, 0, 0, 0, 0), (13, .astore 4, 0, 0, 0, 0), (15, .iconst 1, 0, 0, 0, 0), (16, .ireturn, 0, 0, 0, 0), (17, .astore 4, 0, 0, 0, 0), (19, .iconst 2, 0, 0, 0, 0), (20, .ireturn, 0, 0, 0, 0), (21, .iconst 0, 0, 0, 0, 0), (22, .ireturn, 0, 0, 0, 0)]
def mC148 : List (Nat × Instr × Nat × Nat × Nat × Nat) := [(0, .aload_n 2, 0, 0, 0, 0), (1, .iconst 0, 0, 0, 0, 0), (2, .aload_n 0, 0, 0, 0, 0), (3, .iload_n 1, 0, 0, 0, 0), (4, .invokevirtual 75, 0, 46, 1, 899), (7, .i2l, 0, 0, 0, 0), (8, .lastore, 0, 0, 0, 0), (9, .goto 6, 0, 0, 0, 0), (12, .astore_n 3, 0, 0, 0, 0), (13, .iconst 1, 0, 0, 0, 0), (14, .ireturn, 0, 0, 0, 0), (15, .iconst 0, 0, 0, 0, 0), (16, .ireturn, 0, 0, 0, 0)]
def mC149 : List (Nat × Instr × Nat × Nat × Nat × Nat) := [(0, .aload_n 3, 0, 0, 0, 0), (1, .iconst 0, 0, 0, 0, 0), (2, .aload_n 0, 0, 0, 0, 0), (3, .iload_n 1, 0, 0, 0, 0), (4, .iload_n 2, 0, 0, 0, 0), (5, .invokevirtual 78, 0, 47, 2, 911), (8, .i2l, 0, 0, 0, 0), (9, .lastore, 0, 0, 0, 0), (10, .goto 7, 0, 0, 0, 0), (13, .astore 4, 0, 0, 0, 0), (15, .iconst 1, 0, 0, 0, 0), (16, .ireturn, 0, 0, 0, 0), (17, .iconst 0, 0, 0, 0, 0), (18, .ireturn, 0, 0, 0, 0)]
def mC150 : List (Nat × Instr × Nat × Nat × Nat × Nat) := [(0, .aload_n 3, 0, 0, 0, 0), (1, .iconst 0, 0, 0, 0, 0), (2, .aload_n 0, 0, 0, 0, 0), (3, .iload_n 1, 0, 0, 0, 0), (4, .iload_n 2, 0, 0, 0, 0), (5, .invokevirtual 81, 0, 48, 2, 920), (8, .i2l, 0, 0, 0, 0), (9, .lastore, 0, 0, 0, 0), (10, .goto 7, 0, 0, 0, 0), (13, .astore 4, 0, 0, 0, 0), (15, .iconst 1, 0, 0, 0, 0), (16, .ireturn, 0, 0, 0, 0), (17, .iconst 0, 0, 0, 0, 0), (18, .ireturn, 0, 0, 0, 0)]
def mC151 : List (Nat × Instr × Nat × Nat × Nat × Nat) := [(0, .aload_n 2, 0, 0, 0, 0), (1, .iconst 0, 0, 0, 0, 0), (2, .aload_n 0, 0, 0, 0, 0), (3, .iload_n 1, 0, 0, 0, 0), (4, .invokevirtual 84, 0, 49, 1, 931), (7, .i2l, 0, 0, 0, 0), (8, .lastore, 0, 0, 0, 0), (9, .goto 6, 0, 0, 0, 0), (12, .astore_n 3, 0, 0, 0, 0), (13, .iconst 1, 0, 0, 0, 0), (14, .ireturn, 0, 0, 0, 0), (15, .iconst 0, 0, 0, 0, 0), (16, .ireturn, 0, 0, 0, 0)]
def mC152 : List (Nat × Instr × Nat × Nat × Nat × Nat) := [(0, .aload_n 3, 0, 0, 0, 0), (1, .iconst 0, 0, 0, 0, 0), (2, .aload_n 0, 0, 0, 0, 0), (3, .iload_n 1, 0, 0, 0, 0), (4, .iload_n 2, 0, 0, 0, 0), (5, .invokevirtual 87, 0, 50, 2, 938), (8, .i2l, 0, 0, 0, 0), (9, .lastore, 0, 0, 0, 0), (10, .goto 11, 0, 0, 0, 0), (13, .astore 4, 0, 0, 0, 0), (15, .iconst 1, 0, 0, 0, 0), (16, .ireturn, 0, 0, 0, 0), (17, .astore 4, 0, 0, 0, 0), (19, .iconst 2, 0, 0, 0, 0), (20, .ireturn, 0, 0, 0, 0), (21, .iconst 0, 0, 0, 0, 0), (22, .ireturn, 0, 0, 0, 0)]
def mC153 : List (Nat × Instr × Nat × Nat × Nat × Nat) := [(0, .new 8, 0, 8, 0, 91), (3, .dup, 0, 0, 0, 0), (4, .invokespecial 90, 0, 26, 0, 93), (7, .astore_n 1, 0, 0, 0, 0), (8, .new 91, 0, 13, 0, 944), (11, .dup, 0, 0, 0, 0), (12, .invokespecial 93, 0, 73, 0, 946), (15, .astore_n 2, 0, 0, 0, 0), (16, .iconst 1, 0, 0, 0, 0), (17, .newarray .long, 0, 1, 0, 0), (19, .astore_n 3, 0, 0, 0, 0), (20, .iconst 1, 0, 0, 0, 0), (21, .newarray .double, 0, 2, 0, 0), (23, .astore 4, 0, 0, 0, 0), (25, .iconst 0, 0, 0, 0, 0), (26, .istore 5, 0, 0, 0, 0), (28, .iload 5, 0, 0, 0, 0), (30, .aload_n 0, 0, 0, 0, 0), (31, .arraylength, 0, 0, 0, 0), (32, .iconst 5, 0, 0, 0, 0), (33, .isub, 0, 0, 0, 0), (34, .if_icmp .gt 1659, 0, 0, 0, 0), (37, .aload_n 0, 0, 0, 0, 0), (38, .iload 5, 0, 0, 0, 0), (40, .iaload, 0, 0, 0, 0), (41, .bipush 31, 0, 0, 0, 0), (43, .iand, 0, 0, 0, 0), (44, .tableswitch 1643 0 24 #[116, 172, 228, 296, 388, 401, 469, 525, 593, 649, 705, 761, 817, 897, 977, 1045, 1113, 1168, 1245, 1313, 1369, 1437, 1505, 1561, 1629], 116, 0, 0, 0), (160, .aload_n 1, 0, 0, 0, 0), (161, .aload_n 0, 0, 0, 0, 0), (162, .iload 5, 0, 0, 0, 0), (164, .iconst 1, 0, 0, 0, 0), (165, .iadd, 0, 0, 0, 0), (166, .iaload, 0, 0, 0, 0), (167, .aload_n 3, 0, 0, 0, 0), (168, .invokestatic 94, 0, 130, 3, 613), (171, .istore 6, 0, 0, 0, 0), (173, .aload_n 2, 0, 0, 0, 0), (174, .aload_n 0, 0, 0, 0, 0), (175, .iload 5, 0, 0, 0, 0), (177, .iconst 1, 0, 0, 0, 0), (178, .iadd, 0, 0, 0, 0), (179, .iaload, 0, 0, 0, 0), (180, .invokevirtual 99, 0, 85, 1, 1000), (183, .istore 7, 0, 0, 0, 0), (185, .aload_n 2, 0, 0, 0, 0), (186, .invokevirtual 100, 0, 74, 0, 996), (189, .iload 6, 0, 0, 0, 0), (191, .if_icmp .eq 5, 0, 0, 0, 0), (194, .iconst 0, 0, 0, 0, 0), (195, .ireturn, 0, 0, 0, 0), (196, .iload 6, 0, 0, 0, 0), (198, .ifCond .ne 15, 0, 0, 0, 0), (201, .aload_n 3, 0, 0, 0, 0), (202, .iconst 0, 0, 0, 0, 0), (203, .laload, 0, 0, 0, 0), (204, .iload 7, 0, 0, 0, 0), (206, .i2l, 0, 0, 0, 0), (207, .lcmp, 0, 0, 0, 0), (208, .ifCond .eq 5, 0, 0, 0, 0), (211, .iconst 0, 0, 0, 0, 0), (212, .ireturn, 0, 0, 0, 0), (213, .goto 1474, 0, 0, 0, 0), (216, .aload_n 1, 0, 0, 0, 0), (217, .aload_n 0, 0, 0, 0, 0), (218, .iload 5, 0, 0, 0, 0), (220, .iconst 1, 0, 0, 0, 0), (221, .iadd, 0, 0, 0, 0), (222, .iaload, 0, 0, 0, 0), (223, .aload_n 3, 0, 0, 0, 0), (224, .invokestatic 104, 0, 131, 3, 719), (227, .istore 6, 0, 0, 0, 0), (229, .aload_n 2, 0, 0, 0, 0), (230, .aload_n 0, 0, 0, 0, 0), (231, .iload 5, 0, 0, 0, 0), (233, .iconst 1, 0, 0, 0, 0), (234, .iadd, 0, 0, 0, 0), (235, .iaload, 0, 0, 0, 0), (236, .invokevirtual 106, 0, 86, 1, 1121), (239, .istore 7, 0, 0, 0, 0), (241, .aload_n 2, 0, 0, 0, 0), (242, .invokevirtual 100, 0, 74, 0, 996), (245, .iload 6, 0, 0, 0, 0), (247, .if_icmp .eq 5, 0, 0, 0, 0), (250, .iconst 0, 0, 0, 0, 0), (251, .ireturn, 0, 0, 0, 0), (252, .iload 6, 0, 0, 0, 0), (254, .ifCond .ne 15, 0, 0, 0, 0), (257, .aload_n 3, 0, 0, 0, 0), (258, .iconst 0, 0, 0, 0, 0), (259, .laload, 0, 0, 0, 0), (260, .iload 7, 0, 0, 0, 0), (262, .i2l, 0, 0, 0, 0), (263, .lcmp, 0, 0, 0, 0), (264, .ifCond .eq 5, 0, 0, 0, 0), (267, .iconst 0, 0, 0, 0, 0), (268, .ireturn, 0, 0, 0, 0), (269, .goto 1418, 0, 0, 0, 0), (272, .aload_n 1, 0, 0, 0, 0), (273, .aload_n 0, 0, 0, 0, 0), (274, .iload 5, 0, 0, 0, 0), (276, .iconst 1, 0, 0, 0, 0), (277, .iadd, 0, 0, 0, 0), (278, .iaload, 0, 0, 0, 0), (279, .aload_n 0, 0, 0, 0, 0), (280, .iload 5, 0, 0, 0, 0), (282, .iconst 2, 0, 0, 0, 0), (283, .iadd, 0, 0, 0, 0), (284, .iaload, 0, 0, 0, 0), (285, .aload_n 3, 0, 0, 0, 0), (286, .invokestatic 107, 0, 132, 4, 735), (289, .istore 6, 0, 0, 0, 0), (291, .aload_n 2, 0, 0, 0, 0), (292, .aload_n 0, 0, 0, 0, 0), (293, .iload 5, 0, 0, 0, 0), (295, .iconst 1, 0, 0, 0, 0), (296, .iadd, 0, 0, 0, 0), (297, .iaload, 0, 0, 0, 0), (298, .aload_n 0, 0, 0, 0, 0), (299, .iload 5, 0, 0, 0, 0), (301, .iconst 2, 0, 0, 0, 0), (302, .iadd, 0, 0, 0, 0), (303, .iaload, 0, 0, 0, 0), (304, .invokevirtual 110, 0, 87, 2, 1128), (307, .istore 7, 0, 0, 0, 0), (309, .aload_n 2, 0, 0, 0, 0), (310, .invokevirtual 100, 0, 74, 0, 996), (313, .iload 6, 0, 0, 0, 0), (315, .if_icmp .eq 5, 0, 0, 0, 0), (318, .iconst 0, 0, 0, 0, 0), (319, .ireturn, 0, 0, 0, 0), (320, .iload 6, 0, 0, 0, 0), (322, .ifCond .ne 15, 0, 0, 0, 0), (325, .aload_n 3, 0, 0, 0, 0), (326, .iconst 0, 0, 0, 0, 0), (327, .laload, 0, 0, 0, 0), (328, .iload 7, 0, 0, 0, 0), (330, .i2l, 0, 0, 0, 0), (331, .lcmp, 0, 0, 0, 0), (332, .ifCond .eq 5, 0, 0, 0, 0), (335, .iconst 0, 0, 0, 0, 0), (336, .ireturn, 0, 0, 0, 0), (337, .goto 1350, 0, 0, 0, 0), (340, .aload_n 1, 0, 0, 0, 0), (341, .aload_n 0, 0, 0, 0, 0), (342, .iload 5, 0, 0, 0, 0), (344, .iconst 1, 0, 0, 0, 0), (345, .iadd, 0, 0, 0, 0), (346, .iaload, 0, 0, 0, 0), (347, .aload_n 0, 0, 0, 0, 0), (348, .iload 5, 0, 0, 0, 0), (350, .iconst 2, 0, 0, 0, 0), (351, .iadd, 0, 0, 0, 0), (352, .iaload, 0, 0, 0, 0), (353, .aload_n 0, 0, 0, 0, 0), (354, .iload 5, 0, 0, 0, 0), (356, .iconst 3, 0, 0, 0, 0), (357, .iadd, 0, 0, 0, 0), (358, .iaload, 0, 0, 0, 0), (359, .aload_n 0, 0, 0, 0, 0), (360, .iload 5, 0, 0, 0, 0), (362, .iconst 4, 0, 0, 0, 0), (363, .iadd, 0, 0, 0, 0), (364, .iaload, 0, 0, 0, 0), (365, .aload_n 3, 0, 0, 0, 0), (366, .invokestatic 111, 0, 133, 6, 743), (369, .istore 6, 0, 0, 0, 0), (371, .aload_n 2, 0, 0, 0, 0), (372, .aload_n 0, 0, 0, 0, 0), (373, .iload 5, 0, 0, 0, 0), (375, .iconst 1, 0, 0, 0, 0), (376, .iadd, 0, 0, 0, 0), (377, .iaload, 0, 0, 0, 0), (378, .aload_n 0, 0, 0, 0, 0), (379, .iload 5, 0, 0, 0, 0), (381, .iconst 2, 0, 0, 0, 0), (382, .iadd, 0, 0, 0, 0), (383, .iaload, 0, 0, 0, 0), (384, .aload_n 0, 0, 0, 0, 0), (385, .iload 5, 0, 0, 0, 0), (387, .iconst 3, 0, 0, 0, 0), (388, .iadd, 0, 0, 0, 0), (389, .iaload, 0, 0, 0, 0), (390, .aload_n 0, 0, 0, 0, 0), (391, .iload 5, 0, 0, 0, 0), (393, .iconst 4, 0, 0, 0, 0), (394, .iadd, 0, 0, 0, 0), (395, .iaload, 0, 0, 0, 0), (396, .invokevirtual 114, 0, 88, 4, 1132), (399, .istore 7, 0, 0, 0, 0), (401, .aload_n 2, 0, 0, 0, 0), (402, .invokevirtual 100, 0, 74, 0, 996), (405, .iload 6, 0, 0, 0, 0), (407, .if_icmp .eq 5, 0, 0, 0, 0), (410, .iconst 0, 0, 0, 0, 0), (411, .ireturn, 0, 0, 0, 0), (412, .iload 6, 0, 0, 0, 0), (414, .ifCond .ne 15, 0, 0, 0, 0), (417, .aload_n 3, 0, 0, 0, 0), (418, .iconst 0, 0, 0, 0, 0), (419, .laload, 0, 0, 0, 0), (420, .iload 7, 0, 0, 0, 0), (422, .i2l, 0, 0, 0, 0), (423, .lcmp, 0, 0, 0, 0), (424, .ifCond .eq 5, 0, 0, 0, 0), (427, .iconst 0, 0, 0, 0, 0), (428, .ireturn, 0, 0, 0, 0), (429, .goto 1258, 0, 0, 0, 0), (432, .aload_n 1, 0, 0, 0, 0), (433, .invokevirtual 115, 0, 31, 0, 317), (436, .aload_n 2, 0, 0, 0, 0), (437, .invokevirtual 118, 0, 89, 0, 1136), (440, .if_icmp .eq 1247, 0, 0, 0, 0), (443, .iconst 0, 0, 0, 0, 0), (444, .ireturn, 0, 0, 0, 0), (445, .aload_n 1, 0, 0, 0, 0), (446, .aload_n 0, 0, 0, 0, 0), (447, .iload 5, 0, 0, 0, 0), (449, .iconst 1, 0, 0, 0, 0), (450, .iadd, 0, 0, 0, 0), (451, .iaload, 0, 0, 0, 0), (452, .aload_n 0, 0, 0, 0, 0), (453, .iload 5, 0, 0, 0, 0), (455, .iconst 2, 0, 0, 0, 0), (456, .iadd, 0, 0, 0, 0), (457, .iaload, 0, 0, 0, 0), (458, .aload_n 3, 0, 0, 0, 0), (459, .invokestatic 119, 0, 134, 4, 751), (462, .istore 6, 0, 0, 0, 0), (464, .aload_n 2, 0, 0, 0, 0), (465, .aload_n 0, 0, 0, 0, 0), (466, .iload 5, 0, 0, 0, 0), (468, .iconst 1, 0, 0, 0, 0), (469, .iadd, 0, 0, 0, 0), (470, .iaload, 0, 0, 0, 0), (471, .aload_n 0, 0, 0, 0, 0), (472, .iload 5, 0, 0, 0, 0), (474, .iconst 2, 0, 0, 0, 0), (475, .iadd, 0, 0, 0, 0), (476, .iaload, 0, 0, 0, 0), (477, .invokevirtual 121, 0, 90, 2, 1144), (480, .istore 7, 0, 0, 0, 0), (482, .aload_n 2, 0, 0, 0, 0), (483, .invokevirtual 100, 0, 74, 0, 996), (486, .iload 6, 0, 0, 0, 0), (488, .if_icmp .eq 5, 0, 0, 0, 0), (491, .iconst 0, 0, 0, 0, 0), (492, .ireturn, 0, 0, 0, 0), (493, .iload 6, 0, 0, 0, 0), (495, .ifCond .ne 15, 0, 0, 0, 0), (498, .aload_n 3, 0, 0, 0, 0), (499, .iconst 0, 0, 0, 0, 0), (500, .laload, 0, 0, 0, 0), (501, .iload 7, 0, 0, 0, 0), (503, .i2l, 0, 0, 0, 0), (504, .lcmp, 0, 0, 0, 0), (505, .ifCond .eq 5, 0, 0, 0, 0), (508, .iconst 0, 0, 0, 0, 0), (509, .ireturn, 0, 0, 0, 0), (510, .goto 1177, 0, 0, 0, 0), (513, .aload_n 1, 0, 0, 0, 0), (514, .aload_n 0, 0, 0, 0, 0), (515, .iload 5, 0, 0, 0, 0), (517, .iconst 1, 0, 0, 0, 0), (518, .iadd, 0, 0, 0, 0), (519, .iaload, 0, 0, 0, 0), (520, .aload_n 3, 0, 0, 0, 0), (521, .invokestatic 122, 0, 135, 3, 761), (524, .istore 6, 0, 0, 0, 0), (526, .aload_n 2, 0, 0, 0, 0), (527, .aload_n 0, 0, 0, 0, 0), (528, .iload 5, 0, 0, 0, 0), (530, .iconst 1, 0, 0, 0, 0), (531, .iadd, 0, 0, 0, 0), (532, .iaload, 0, 0, 0, 0), (533, .invokevirtual 124, 0, 91, 1, 1148), (536, .istore 7, 0, 0, 0, 0), (538, .aload_n 2, 0, 0, 0, 0), (539, .invokevirtual 100, 0, 74, 0, 996), (542, .iload 6, 0, 0, 0, 0), (544, .if_icmp .eq 5, 0, 0, 0, 0), (547, .iconst 0, 0, 0, 0, 0), (548, .ireturn, 0, 0, 0, 0), (549, .iload 6, 0, 0, 0, 0), (551, .ifCond .ne 15, 0, 0, 0, 0), (554, .aload_n 3, 0, 0, 0, 0), (555, .iconst 0, 0, 0, 0, 0), (556, .laload, 0, 0, 0, 0), (557, .iload 7, 0, 0, 0, 0), (559, .i2l, 0, 0, 0, 0), (560, .lcmp, 0, 0, 0, 0), (561, .ifCond .eq 5, 0, 0, 0, 0), (564, .iconst 0, 0, 0, 0, 0), (565, .ireturn, 0, 0, 0, 0), (566, .goto 1121, 0, 0, 0, 0), (569, .aload_n 1, 0, 0, 0, 0), (570, .aload_n 0, 0, 0, 0, 0), (571, .iload 5, 0, 0, 0, 0), (573, .iconst 1, 0, 0, 0, 0), (574, .iadd, 0, 0, 0, 0), (575, .iaload, 0, 0, 0, 0), (576, .aload_n 0, 0, 0, 0, 0), (577, .iload 5, 0, 0, 0, 0), (579, .iconst 2, 0, 0, 0, 0), (580, .iadd, 0, 0, 0, 0), (581, .iaload, 0, 0, 0, 0), (582, .aload_n 3, 0, 0, 0, 0), (583, .invokestatic 125, 0, 136, 4, 772), (586, .istore 6, 0, 0, 0, 0), (588, .aload_n 2, 0, 0, 0, 0), (589, .aload_n 0, 0, 0, 0, 0), (590, .iload 5, 0, 0, 0, 0), (592, .iconst 1, 0, 0, 0, 0), (593, .iadd, 0, 0, 0, 0), (594, .iaload, 0, 0, 0, 0), (595, .aload_n 0, 0, 0, 0, 0), (596, .iload 5, 0, 0, 0, 0), (598, .iconst 2, 0, 0, 0, 0), (599, .iadd, 0, 0, 0, 0), (600, .iaload, 0, 0, 0, 0), (601, .invokevirtual 127, 0, 92, 2, 1152), (604, .istore 7, 0, 0, 0, 0), (606, .aload_n 2, 0, 0, 0, 0), (607, .invokevirtual 100, 0, 74, 0, 996), (610, .iload 6, 0, 0, 0, 0), (612, .if_icmp .eq 5, 0, 0, 0, 0), (615, .iconst 0, 0, 0, 0, 0), (616, .ireturn, 0, 0, 0, 0), (617, .iload 6, 0, 0, 0, 0), (619, .ifCond .ne 15, 0, 0, 0, 0), (622, .aload_n 3, 0, 0, 0, 0), (623, .iconst 0, 0, 0, 0, 0), (624, .laload, 0, 0, 0, 0), (625, .iload 7, 0, 0, 0, 0), (627, .i2l, 0, 0, 0, 0), (628, .lcmp, 0, 0, 0, 0), (629, .ifCond .eq 5, 0, 0, 0, 0), (632, .iconst 0, 0, 0, 0, 0), (633, .ireturn, 0, 0, 0, 0), (634, .goto 1053, 0, 0, 0, 0), (637, .aload_n 1, 0, 0, 0, 0), (638, .aload_n 0, 0, 0, 0, 0), (639, .iload 5, 0, 0, 0, 0), (641, .iconst 1, 0, 0, 0, 0), (642, .iadd, 0, 0, 0, 0), (643, .iaload, 0, 0, 0, 0), (644, .aload_n 3, 0, 0, 0, 0), (645, .invokestatic 128, 0, 137, 3, 797), (648, .istore 6, 0, 0, 0, 0), (650, .aload_n 2, 0, 0, 0, 0), (651, .aload_n 0, 0, 0, 0, 0), (652, .iload 5, 0, 0, 0, 0), (654, .iconst 1, 0, 0, 0, 0), (655, .iadd, 0, 0, 0, 0), (656, .iaload, 0, 0, 0, 0), (657, .invokevirtual 130, 0, 94, 1, 1156), (660, .istore 7, 0, 0, 0, 0), (662, .aload_n 2, 0, 0, 0, 0), (663, .invokevirtual 100, 0, 74, 0, 996), (666, .iload 6, 0, 0, 0, 0), (668, .if_icmp .eq 5, 0, 0, 0, 0), (671, .iconst 0, 0, 0, 0, 0), (672, .ireturn, 0, 0, 0, 0), (673, .iload 6, 0, 0, 0, 0), (675, .ifCond .ne 15, 0, 0, 0, 0), (678, .aload_n 3, 0, 0, 0, 0), (679, .iconst 0, 0, 0, 0, 0), (680, .laload, 0, 0, 0, 0), (681, .iload 7, 0, 0, 0, 0), (683, .i2l, 0, 0, 0, 0), (684, .lcmp, 0, 0, 0, 0), (685, .ifCond .eq 5, 0, 0, 0, 0), (688, .iconst 0, 0, 0, 0, 0), (689, .ireturn, 0, 0, 0, 0), (690, .goto 997, 0, 0, 0, 0), (693, .aload_n 1, 0, 0, 0, 0), (694, .aload_n 0, 0, 0, 0, 0), (695, .iload 5, 0, 0, 0, 0), (697, .iconst 1, 0, 0, 0, 0), (698, .iadd, 0, 0, 0, 0), (699, .iaload, 0, 0, 0, 0), (700, .aload_n 3, 0, 0, 0, 0), (701, .invokestatic 131, 0, 138, 3, 805), (704, .istore 6, 0, 0, 0, 0), (706, .aload_n 2, 0, 0, 0, 0), (707, .aload_n 0, 0, 0, 0, 0), (708, .iload 5, 0, 0, 0, 0), (710, .iconst 1, 0, 0, 0, 0), (711, .iadd, 0, 0, 0, 0), (712, .iaload, 0, 0, 0, 0), (713, .invokevirtual 133, 0, 95, 1, 1455), (716, .istore 7, 0, 0, 0, 0), (718, .aload_n 2, 0, 0, 0, 0), (719, .invokevirtual 100, 0, 74, 0, 996), (722, .iload 6, 0, 0, 0, 0), (724, .if_icmp .eq 5, 0, 0, 0, 0), (727, .iconst 0, 0, 0, 0, 0), (728, .ireturn, 0, 0, 0, 0), (729, .iload 6, 0, 0, 0, 0), (731, .ifCond .ne 15, 0, 0, 0, 0), (734, .aload_n 3, 0, 0, 0, 0), (735, .iconst 0, 0, 0, 0, 0), (736, .laload, 0, 0, 0, 0), (737, .iload 7, 0, 0, 0, 0), (739, .i2l, 0, 0, 0, 0), (740, .lcmp, 0, 0, 0, 0), (741, .ifCond .eq 5, 0, 0, 0, 0), (744, .iconst 0, 0, 0, 0, 0), (745, .ireturn, 0, 0, 0, 0), (746, .goto 941, 0, 0, 0, 0), (749, .aload_n 1, 0, 0, 0, 0), (750, .aload_n 0, 0, 0, 0, 0), (751, .iload 5, 0, 0, 0, 0), (753, .iconst 1, 0, 0, 0, 0), (754, .iadd, 0, 0, 0, 0), (755, .iaload, 0, 0, 0, 0), (756, .aload_n 3, 0, 0, 0, 0), (757, .invokestatic 134, 0, 139, 3, 816), (760, .istore 6, 0, 0, 0, 0), (762, .aload_n 2, 0, 0, 0, 0), (763, .aload_n 0, 0, 0, 0, 0), (764, .iload 5, 0, 0, 0, 0), (766, .iconst 1, 0, 0, 0, 0), (767, .iadd, 0, 0, 0, 0), (768, .iaload, 0, 0, 0, 0), (769, .invokevirtual 136, 0, 97, 1, 1459), (772, .istore 7, 0, 0, 0, 0), (774, .aload_n 2, 0, 0, 0, 0), (775, .invokevirtual 100, 0, 74, 0, 996), (778, .iload 6, 0, 0, 0, 0), (780, .if_icmp .eq 5, 0, 0, 0, 0), (783, .iconst 0, 0, 0, 0, 0), (784, .ireturn, 0, 0, 0, 0), (785, .iload 6, 0, 0, 0, 0), (787, .ifCond .ne 15, 0, 0, 0, 0), (790, .aload_n 3, 0, 0, 0, 0), (791, .iconst 0, 0, 0, 0, 0), (792, .laload, 0, 0, 0, 0), (793, .iload 7, 0, 0, 0, 0), (795, .i2l, 0, 0, 0, 0), (796, .lcmp, 0, 0, 0, 0), (797, .ifCond .eq 5, 0, 0, 0, 0), (800, .iconst 0, 0, 0, 0, 0), (801, .ireturn, 0, 0, 0, 0), (802, .goto 885, 0, 0, 0, 0), (805, .aload_n 1, 0, 0, 0, 0), (806, .aload_n 0, 0, 0, 0, 0), (807, .iload 5, 0, 0, 0, 0), (809, .iconst 1, 0, 0, 0, 0), (810, .iadd, 0, 0, 0, 0), (811, .iaload, 0, 0, 0, 0), (812, .aload_n 3, 0, 0, 0, 0), (813, .invokestatic 137, 0, 140, 3, 824), (816, .istore 6, 0, 0, 0, 0), (818, .aload_n 2, 0, 0, 0, 0), (819, .aload_n 0, 0, 0, 0, 0), (820, .iload 5, 0, 0, 0, 0), (822, .iconst 1, 0, 0, 0, 0), (823, .iadd, 0, 0, 0, 0), (824, .iaload, 0, 0, 0, 0), (825, .invokevirtual 139, 0, 98, 1, 1472), (828, .istore 7, 0, 0, 0, 0), (830, .aload_n 2, 0, 0, 0, 0), (831, .invokevirtual 100, 0, 74, 0, 996), (834, .iload 6, 0, 0, 0, 0), (836, .if_icmp .eq 5, 0, 0, 0, 0), (839, .iconst 0, 0, 0, 0, 0), (840, .ireturn, 0, 0, 0, 0), (841, .iload 6, 0, 0, 0, 0), (843, .ifCond .ne 15, 0, 0, 0, 0), (846, .aload_n 3, 0, 0, 0, 0), (847, .iconst 0, 0, 0, 0, 0), (848, .laload, 0, 0, 0, 0), (849, .iload 7, 0, 0, 0, 0), (851, .i2l, 0, 0, 0, 0), (852, .lcmp, 0, 0, 0, 0), (853, .ifCond .eq 5, 0, 0, 0, 0), (856, .iconst 0, 0, 0, 0, 0), (857, .ireturn, 0, 0, 0, 0), (858, .goto 829, 0, 0, 0, 0), (861, .aload_n 1, 0, 0, 0, 0), (862, .aload_n 0, 0, 0, 0, 0), (863, .iload 5, 0, 0, 0, 0), (865, .iconst 1, 0, 0, 0, 0), (866, .iadd, 0, 0, 0, 0), (867, .iaload, 0, 0, 0, 0), (868, .aload_n 0, 0, 0, 0, 0), (869, .iload 5, 0, 0, 0, 0), (871, .iconst 2, 0, 0, 0, 0), (872, .iadd, 0, 0, 0, 0), (873, .iaload, 0, 0, 0, 0), (874, .aload_n 0, 0, 0, 0, 0), (875, .iload 5, 0, 0, 0, 0), (877, .iconst 3, 0, 0, 0, 0), (878, .iadd, 0, 0, 0, 0), (879, .iaload, 0, 0, 0, 0), (880, .aload_n 3, 0, 0, 0, 0), (881, .invokestatic 140, 0, 141, 5, 832), (884, .istore 6, 0, 0, 0, 0), (886, .aload_n 2, 0, 0, 0, 0), (887, .aload_n 0, 0, 0, 0, 0), (888, .iload 5, 0, 0, 0, 0), (890, .iconst 1, 0, 0, 0, 0), (891, .iadd, 0, 0, 0, 0), (892, .iaload, 0, 0, 0, 0), (893, .aload_n 0, 0, 0, 0, 0), (894, .iload 5, 0, 0, 0, 0), (896, .iconst 2, 0, 0, 0, 0), (897, .iadd, 0, 0, 0, 0), (898, .iaload, 0, 0, 0, 0), (899, .aload_n 0, 0, 0, 0, 0), (900, .iload 5, 0, 0, 0, 0), (902, .iconst 3, 0, 0, 0, 0), (903, .iadd, 0, 0, 0, 0), (904, .iaload, 0, 0, 0, 0), (905, .invokevirtual 143, 0, 100, 3, 1476), (908, .istore 7, 0, 0, 0, 0), (910, .aload_n 2, 0, 0, 0, 0), (911, .invokevirtual 100, 0, 74, 0, 996), (914, .iload 6, 0, 0, 0, 0), (916, .if_icmp .eq 5, 0, 0, 0, 0), (919, .iconst 0, 0, 0, 0, 0), (920, .ireturn, 0, 0, 0, 0), (921, .iload 6, 0, 0, 0, 0), (923, .ifCond .ne 15, 0, 0, 0, 0), (926, .aload_n 3, 0, 0, 0, 0), (927, .iconst 0, 0, 0, 0, 0), (928, .laload, 0, 0, 0, 0), (929, .iload 7, 0, 0, 0, 0), (931, .i2l, 0, 0, 0, 0), (932, .lcmp, 0, 0, 0, 0), (933, .ifCond .eq 5, 0, 0, 0, 0), (936, .iconst 0, 0, 0, 0, 0), (937, .ireturn, 0, 0, 0, 0), (938, .goto 749, 0, 0, 0, 0), (941, .aload_n 1, 0, 0, 0, 0), (942, .aload_n 0, 0, 0, 0, 0), (943, .iload 5, 0, 0, 0, 0), (945, .iconst 1, 0, 0, 0, 0), (946, .iadd, 0, 0, 0, 0), (947, .iaload, 0, 0, 0, 0), (948, .aload_n 0, 0, 0, 0, 0), (949, .iload 5, 0, 0, 0, 0), (951, .iconst 2, 0, 0, 0, 0), (952, .iadd, 0, 0, 0, 0), (953, .iaload, 0, 0, 0, 0), (954, .aload_n 0, 0, 0, 0, 0), (955, .iload 5, 0, 0, 0, 0), (957, .iconst 3, 0, 0, 0, 0), (958, .iadd, 0, 0, 0, 0), (959, .iaload, 0, 0, 0, 0), (960, .aload_n 3, 0, 0, 0, 0), (961, .invokestatic 144, 0, 142, 5, 841), (964, .istore 6, 0, 0, 0, 0), (966, .aload_n 2, 0, 0, 0, 0), (967, .aload_n 0, 0, 0, 0, 0), (968, .iload 5, 0, 0, 0, 0), (970, .iconst 1, 0, 0, 0, 0), (971, .iadd, 0, 0, 0, 0), (972, .iaload, 0, 0, 0, 0), (973, .aload_n 0, 0, 0, 0, 0), (974, .iload 5, 0, 0, 0, 0), (976, .iconst 2, 0, 0, 0, 0), (977, .iadd, 0, 0, 0, 0), (978, .iaload, 0, 0, 0, 0), (979, .aload_n 0, 0, 0, 0, 0), (980, .iload 5, 0, 0, 0, 0), (982, .iconst 3, 0, 0, 0, 0), (983, .iadd, 0, 0, 0, 0), (984, .iaload, 0, 0, 0, 0), (985, .invokevirtual 146, 0, 101, 3, 1496), (988, .istore 7, 0, 0, 0, 0), (990, .aload_n 2, 0, 0, 0, 0), (991, .invokevirtual 100, 0, 74, 0, 996), (994, .iload 6, 0, 0, 0, 0), (996, .if_icmp .eq 5, 0, 0, 0, 0), (999, .iconst 0, 0, 0, 0, 0), (1000, .ireturn, 0, 0, 0, 0), (1001, .iload 6, 0, 0, 0, 0), (1003, .ifCond .ne 15, 0, 0, 0, 0), (1006, .aload_n 3, 0, 0, 0, 0), (1007, .iconst 0, 0, 0, 0, 0), (1008, .laload, 0, 0, 0, 0), (1009, .iload 7, 0, 0, 0, 0), (1011, .i2l, 0, 0, 0, 0), (1012, .lcmp, 0, 0, 0, 0), (1013, .ifCond .eq 5, 0, 0, 0, 0), (1016, .iconst 0, 0, 0, 0, 0), (1017, .ireturn, 0, 0, 0, 0), (1018, .goto 669, 0, 0, 0, 0), (1021, .aload_n 1, 0, 0, 0, 0), (1022, .aload_n 0, 0, 0, 0, 0), (1023, .iload 5, 0, 0, 0, 0), (1025, .iconst 1, 0, 0, 0, 0), (1026, .iadd, 0, 0, 0, 0), (1027, .iaload, 0, 0, 0, 0), (1028, .aload_n 0, 0, 0, 0, 0), (1029, .iload 5, 0, 0, 0, 0), (1031, .iconst 2, 0, 0, 0, 0), (1032, .iadd, 0, 0, 0, 0), (1033, .iaload, 0, 0, 0, 0), (1034, .aload_n 3, 0, 0, 0, 0), (1035, .invokestatic 147, 0, 143, 4, 848), (1038, .istore 6, 0, 0, 0, 0), (1040, .aload_n 2, 0, 0, 0, 0), (1041, .aload_n 0, 0, 0, 0, 0), (1042, .iload 5, 0, 0, 0, 0), (1044, .iconst 1, 0, 0, 0, 0), (1045, .iadd, 0, 0, 0, 0), (1046, .iaload, 0, 0, 0, 0), (1047, .aload_n 0, 0, 0, 0, 0), (1048, .iload 5, 0, 0, 0, 0), (1050, .iconst 2, 0, 0, 0, 0), (1051, .iadd, 0, 0, 0, 0), (1052, .iaload, 0, 0, 0, 0), (1053, .invokevirtual 149, 0, 103, 2, 1500), (1056, .istore 7, 0, 0, 0, 0), (1058, .aload_n 2, 0, 0, 0, 0), (1059, .invokevirtual 100, 0, 74, 0, 996), (1062, .iload 6, 0, 0, 0, 0), (1064, .if_icmp .eq 5, 0, 0, 0, 0), (1067, .iconst 0, 0, 0, 0, 0), (1068, .ireturn, 0, 0, 0, 0), (1069, .iload 6, 0, 0, 0, 0), (1071, .ifCond .ne 15, 0, 0, 0, 0), (1074, .aload_n 3, 0, 0, 0, 0), (1075, .iconst 0, 0, 0, 0, 0), (1076, .laload, 0, 0, 0, 0), (1077, .iload 7, 0, 0, 0, 0), (1079, .i2l, 0, 0, 0, 0), (1080, .lcmp, 0, 0, 0, 0), (1081, .ifCond .eq 5, 0, 0, 0, 0), (1084, .iconst 0, 0, 0, 0, 0), (1085, .ireturn, 0, 0, 0, 0), (1086, .goto 601, 0, 0, 0, 0), (1089, .aload_n 1, 0, 0, 0, 0), (1090, .aload_n 0, 0, 0, 0, 0), (1091, .iload 5, 0, 0, 0, 0), (1093, .iconst 1, 0, 0, 0, 0), (1094, .iadd, 0, 0, 0, 0), (1095, .iaload, 0, 0, 0, 0), (1096, .aload_n 0, 0, 0, 0, 0), (1097, .iload 5, 0, 0, 0, 0), (1099, .iconst 2, 0, 0, 0, 0), (1100, .iadd, 0, 0, 0, 0), (1101, .iaload, 0, 0, 0, 0), (1102, .aload_n 3, 0, 0, 0, 0), (1103, .invokestatic 150, 0, 144, 4, 861), (1106, .istore 6, 0, 0, 0, 0), (1108, .aload_n 2, 0, 0, 0, 0), (1109, .aload_n 0, 0, 0, 0, 0), (1110, .iload 5, 0, 0, 0, 0), (1112, .iconst 1, 0, 0, 0, 0), (1113, .iadd, 0, 0, 0, 0), (1114, .iaload, 0, 0, 0, 0), (1115, .aload_n 0, 0, 0, 0, 0), (1116, .iload 5, 0, 0, 0, 0), (1118, .iconst 2, 0, 0, 0, 0), (1119, .iadd, 0, 0, 0, 0), (1120, .iaload, 0, 0, 0, 0), (1121, .invokevirtual 152, 0, 104, 2, 1513), (1124, .istore 7, 0, 0, 0, 0), (1126, .aload_n 2, 0, 0, 0, 0), (1127, .invokevirtual 100, 0, 74, 0, 996), (1130, .iload 6, 0, 0, 0, 0), (1132, .if_icmp .eq 5, 0, 0, 0, 0), (1135, .iconst 0, 0, 0, 0, 0), (1136, .ireturn, 0, 0, 0, 0), (1137, .iload 6, 0, 0, 0, 0), (1139, .ifCond .ne 15, 0, 0, 0, 0), (1142, .aload_n 3, 0, 0, 0, 0), (1143, .iconst 0, 0, 0, 0, 0), (1144, .laload, 0, 0, 0, 0), (1145, .iload 7, 0, 0, 0, 0), (1147, .i2l, 0, 0, 0, 0), (1148, .lcmp, 0, 0, 0, 0), (1149, .ifCond .eq 5, 0, 0, 0, 0), (1152, .iconst 0, 0, 0, 0, 0), (1153, .ireturn, 0, 0, 0, 0), (1154, .goto 533, 0, 0, 0, 0), (1157, .aload_n 1, 0, 0, 0, 0), (1158, .aload_n 0, 0, 0, 0, 0), (1159, .iload 5, 0, 0, 0, 0), (1161, .iconst 1, 0, 0, 0, 0), (1162, .iadd, 0, 0, 0, 0), (1163, .iaload, 0, 0, 0, 0), (1164, .aload_n 3, 0, 0, 0, 0), (1165, .invokestatic 153, 0, 145, 3, 869), (1168, .istore 6, 0, 0, 0, 0), (1170, .aload_n 2, 0, 0, 0, 0), (1171, .aload_n 0, 0, 0, 0, 0), (1172, .iload 5, 0, 0, 0, 0), (1174, .iconst 1, 0, 0, 0, 0), (1175, .iadd, 0, 0, 0, 0), (1176, .iaload, 0, 0, 0, 0), (1177, .invokevirtual 155, 0, 105, 1, 1535), (1180, .lstore 7, 0, 0, 0, 0), (1182, .aload_n 2, 0, 0, 0, 0), (1183, .invokevirtual 100, 0, 74, 0, 996), (1186, .iload 6, 0, 0, 0, 0), (1188, .if_icmp .eq 5, 0, 0, 0, 0), (1191, .iconst 0, 0, 0, 0, 0), (1192, .ireturn, 0, 0, 0, 0), (1193, .iload 6, 0, 0, 0, 0), (1195, .ifCond .ne 14, 0, 0, 0, 0), (1198, .aload_n 3, 0, 0, 0, 0), (1199, .iconst 0, 0, 0, 0, 0), (1200, .laload, 0, 0, 0, 0), (1201, .lload 7, 0, 0, 0, 0), (1203, .lcmp, 0, 0, 0, 0), (1204, .ifCond .eq 5, 0, 0, 0, 0), (1207, .iconst 0, 0, 0, 0, 0), (1208, .ireturn, 0, 0, 0, 0), (1209, .goto 478, 0, 0, 0, 0), (1212, .aload_n 1, 0, 0, 0, 0), (1213, .aload_n 0, 0, 0, 0, 0), (1214, .iload 5, 0, 0, 0, 0), (1216, .iconst 1, 0, 0, 0, 0), (1217, .iadd, 0, 0, 0, 0), (1218, .iaload, 0, 0, 0, 0), (1219, .aload 4, 0, 0, 0, 0), (1221, .invokestatic 156, 0, 146, 3, 876), (1224, .istore 6, 0, 0, 0, 0), (1226, .aload_n 2, 0, 0, 0, 0), (1227, .aload_n 0, 0, 0, 0, 0), (1228, .iload 5, 0, 0, 0, 0), (1230, .iconst 1, 0, 0, 0, 0), (1231, .iadd, 0, 0, 0, 0), (1232, .iaload, 0, 0, 0, 0), (1233, .invokevirtual 159, 0, 106, 1, 1543), (1236, .dstore 7, 0, 0, 0, 0), (1238, .aload_n 2, 0, 0, 0, 0), (1239, .invokevirtual 100, 0, 74, 0, 996), (1242, .iload 6, 0, 0, 0, 0), (1244, .if_icmp .eq 5, 0, 0, 0, 0), (1247, .iconst 0, 0, 0, 0, 0), (1248, .ireturn, 0, 0, 0, 0), (1249, .iload 6, 0, 0, 0, 0), (1251, .ifCond .ne 35, 0, 0, 0, 0), (1254, .aload 4, 0, 0, 0, 0), (1256, .iconst 0, 0, 0, 0, 0), (1257, .daload, 0, 0, 0, 0), (1258, .dload 7, 0, 0, 0, 0), (1260, .dcmp .l, 0, 0, 0, 0), (1261, .ifCond .eq 25, 0, 0, 0, 0), (1264, .aload 4, 0, 0, 0, 0), (1266, .iconst 0, 0, 0, 0, 0), (1267, .daload, 0, 0, 0, 0), (1268, .aload 4, 0, 0, 0, 0), (1270, .iconst 0, 0, 0, 0, 0), (1271, .daload, 0, 0, 0, 0), (1272, .dcmp .l, 0, 0, 0, 0), (1273, .ifCond .eq 11, 0, 0, 0, 0), (1276, .dload 7, 0, 0, 0, 0), (1278, .dload 7, 0, 0, 0, 0), (1280, .dcmp .l, 0, 0, 0, 0), (1281, .ifCond .ne 5, 0, 0, 0, 0), (1284, .iconst 0, 0, 0, 0, 0), (1285, .ireturn, 0, 0, 0, 0), (1286, .goto 401, 0, 0, 0, 0), (1289, .aload_n 1, 0, 0, 0, 0), (1290, .aload_n 0, 0, 0, 0, 0), (1291, .iload 5, 0, 0, 0, 0), (1293, .iconst 1, 0, 0, 0, 0), (1294, .iadd, 0, 0, 0, 0), (1295, .iaload, 0, 0, 0, 0), (1296, .aload_n 0, 0, 0, 0, 0), (1297, .iload 5, 0, 0, 0, 0), (1299, .iconst 2, 0, 0, 0, 0), (1300, .iadd, 0, 0, 0, 0), (1301, .iaload, 0, 0, 0, 0), (1302, .aload_n 3, 0, 0, 0, 0), (1303, .invokestatic 160, 0, 147, 4, 887), (1306, .istore 6, 0, 0, 0, 0), (1308, .aload_n 2, 0, 0, 0, 0), (1309, .aload_n 0, 0, 0, 0, 0), (1310, .iload 5, 0, 0, 0, 0), (1312, .iconst 1, 0, 0, 0, 0), (1313, .iadd, 0, 0, 0, 0), (1314, .iaload, 0, 0, 0, 0), (1315, .aload_n 0, 0, 0, 0, 0), (1316, .iload 5, 0, 0, 0, 0), (1318, .iconst 2, 0, 0, 0, 0), (1319, .iadd, 0, 0, 0, 0), (1320, .iaload, 0, 0, 0, 0), (1321, .invokevirtual 162, 0, 107, 2, 1551), (1324, .istore 7, 0, 0, 0, 0), (1326, .aload_n 2, 0, 0, 0, 0), (1327, .invokevirtual 100, 0, 74, 0, 996), (1330, .iload 6, 0, 0, 0, 0), (1332, .if_icmp .eq 5, 0, 0, 0, 0), (1335, .iconst 0, 0, 0, 0, 0), (1336, .ireturn, 0, 0, 0, 0), (1337, .iload 6, 0, 0, 0, 0), (1339, .ifCond .ne 15, 0, 0, 0, 0), (1342, .aload_n 3, 0, 0, 0, 0), (1343, .iconst 0, 0, 0, 0, 0), (1344, .laload, 0, 0, 0, 0), (1345, .iload 7, 0, 0, 0, 0), (1347, .i2l, 0, 0, 0, 0), (1348, .lcmp, 0, 0, 0, 0), (1349, .ifCond .eq 5, 0, 0, 0, 0), (1352, .iconst 0, 0, 0, 0, 0), (1353, .ireturn, 0, 0, 0, 0), (1354, .goto 333, 0, 0, 0, 0), (1357, .aload_n 1, 0, 0, 0, 0), (1358, .aload_n 0, 0, 0, 0, 0), (1359, .iload 5, 0, 0, 0, 0), (1361, .iconst 1, 0, 0, 0, 0), (1362, .iadd, 0, 0, 0, 0), (1363, .iaload, 0, 0, 0, 0), (1364, .aload_n 3, 0, 0, 0, 0), (1365, .invokestatic 163, 0, 148, 3, 896), (1368, .istore 6, 0, 0, 0, 0), (1370, .aload_n 2, 0, 0, 0, 0), (1371, .aload_n 0, 0, 0, 0, 0), (1372, .iload 5, 0, 0, 0, 0), (1374, .iconst 1, 0, 0, 0, 0), (1375, .iadd, 0, 0, 0, 0), (1376, .iaload, 0, 0, 0, 0), (1377, .invokevirtual 165, 0, 108, 1, 1556), (1380, .istore 7, 0, 0, 0, 0), (1382, .aload_n 2, 0, 0, 0, 0), (1383, .invokevirtual 100, 0, 74, 0, 996), (1386, .iload 6, 0, 0, 0, 0), (1388, .if_icmp .eq 5, 0, 0, 0, 0), (1391, .iconst 0, 0, 0, 0, 0), (1392, .ireturn, 0, 0, 0, 0), (1393, .iload 6, 0, 0, 0, 0), (1395, .ifCond .ne 15, 0, 0, 0, 0), (1398, .aload_n 3, 0, 0, 0, 0), (1399, .iconst 0, 0, 0, 0, 0), (1400, .laload, 0, 0, 0, 0), (1401, .iload 7, 0, 0, 0, 0), (1403, .i2l, 0, 0, 0, 0), (1404, .lcmp, 0, 0, 0, 0), (1405, .ifCond .eq 5, 0, 0, 0, 0), (1408, .iconst 0, 0, 0, 0, 0), (1409, .ireturn, 0, 0, 0, 0), (1410, .goto 277, 0, 0, 0, 0), (1413, .aload_n 1, 0, 0, 0, 0), (1414, .aload_n 0, 0, 0, 0, 0), (1415, .iload 5, 0, 0, 0, 0), (1417, .iconst 1, 0, 0, 0, 0), (1418, .iadd, 0, 0, 0, 0), (1419, .iaload, 0, 0, 0, 0), (1420, .aload_n 0, 0, 0, 0, 0), (1421, .iload 5, 0, 0, 0, 0), (1423, .iconst 2, 0, 0, 0, 0), (1424, .iadd, 0, 0, 0, 0), (1425, .iaload, 0, 0, 0, 0), (1426, .aload_n 3, 0, 0, 0, 0), (1427, .invokestatic 166, 0, 149, 4, 908), (1430, .istore 6, 0, 0, 0, 0), (1432, .aload_n 2, 0, 0, 0, 0), (1433, .aload_n 0, 0, 0, 0, 0), (1434, .iload 5, 0, 0, 0, 0), (1436, .iconst 1, 0, 0, 0, 0), (1437, .iadd, 0, 0, 0, 0), (1438, .iaload, 0, 0, 0, 0), (1439, .aload_n 0, 0, 0, 0, 0), (1440, .iload 5, 0, 0, 0, 0), (1442, .iconst 2, 0, 0, 0, 0), (1443, .iadd, 0, 0, 0, 0), (1444, .iaload, 0, 0, 0, 0), (1445, .invokevirtual 168, 0, 109, 2, 1562), (1448, .istore 7, 0, 0, 0, 0), (1450, .aload_n 2, 0, 0, 0, 0), (1451, .invokevirtual 100, 0, 74, 0, 996), (1454, .iload 6, 0, 0, 0, 0), (1456, .if_icmp .eq 5, 0, 0, 0, 0), (1459, .iconst 0, 0, 0, 0, 0), (1460, .ireturn, 0, 0, 0, 0), (1461, .iload 6, 0, 0, 0, 0), (1463, .ifCond .ne 15, 0, 0, 0, 0), (1466, .aload_n 3, 0, 0, 0, 0), (1467, .iconst 0, 0, 0, 0, 0), (1468, .laload, 0, 0, 0, 0), (1469, .iload 7, 0, 0, 0, 0), (1471, .i2l, 0, 0, 0, 0), (1472, .lcmp, 0, 0, 0, 0), (1473, .ifCond .eq 5, 0, 0, 0, 0), (1476, .iconst 0, 0, 0, 0, 0), (1477, .ireturn, 0, 0, 0, 0), (1478, .goto 209, 0, 0, 0, 0), (1481, .aload_n 1, 0, 0, 0, 0), (1482, .aload_n 0, 0, 0, 0, 0), (1483, .iload 5, 0, 0, 0, 0), (1485, .iconst 1, 0, 0, 0, 0), (1486, .iadd, 0, 0, 0, 0), (1487, .iaload, 0, 0, 0, 0), (1488, .aload_n 0, 0, 0, 0, 0), (1489, .iload 5, 0, 0, 0, 0), (1491, .iconst 2, 0, 0, 0, 0), (1492, .iadd, 0, 0, 0, 0), (1493, .iaload, 0, 0, 0, 0), (1494, .aload_n 3, 0, 0, 0, 0), (1495, .invokestatic 169, 0, 150, 4, 917), (1498, .istore 6, 0, 0, 0, 0), (1500, .aload_n 2, 0, 0, 0, 0), (1501, .aload_n 0, 0, 0, 0, 0), (1502, .iload 5, 0, 0, 0, 0), (1504, .iconst 1, 0, 0, 0, 0), (1505, .iadd, 0, 0, 0, 0), (1506, .iaload, 0, 0, 0, 0), (1507, .aload_n 0, 0, 0, 0, 0), (1508, .iload 5, 0, 0, 0, 0), (1510, .iconst 2, 0, 0, 0, 0), (1511, .iadd, 0, 0, 0, 0), (1512, .iaload, 0, 0, 0, 0), (1513, .invokevirtual 171, 0, 110, 2, 1567), (1516, .istore 7, 0, 0, 0, 0), (1518, .aload_n 2, 0, 0, 0, 0), (1519, .invokevirtual 100, 0, 74, 0, 996), (1522, .iload 6, 0, 0, 0, 0), (1524, .if_icmp .eq 5, 0, 0, 0, 0), (1527, .iconst 0, 0, 0, 0, 0), (1528, .ireturn, 0, 0, 0, 0), (1529, .iload 6, 0, 0, 0, 0), (1531, .ifCond .ne 15, 0, 0, 0, 0), (1534, .aload_n 3, 0, 0, 0, 0), (1535, .iconst 0, 0, 0, 0, 0), (1536, .laload, 0, 0, 0, 0), (1537, .iload 7, 0, 0, 0, 0), (1539, .i2l, 0, 0, 0, 0), (1540, .lcmp, 0, 0, 0, 0), (1541, .ifCond .eq 5, 0, 0, 0, 0), (1544, .iconst 0, 0, 0, 0, 0), (1545, .ireturn, 0, 0, 0, 0), (1546, .goto 141, 0, 0, 0, 0), (1549, .aload_n 1, 0, 0, 0, 0), (1550, .aload_n 0, 0, 0, 0, 0), (1551, .iload 5, 0, 0, 0, 0), (1553, .iconst 1, 0, 0, 0, 0), (1554, .iadd, 0, 0, 0, 0), (1555, .iaload, 0, 0, 0, 0), (1556, .aload_n 3, 0, 0, 0, 0), (1557, .invokestatic 172, 0, 151, 3, 928), (1560, .istore 6, 0, 0, 0, 0), (1562, .aload_n 2, 0, 0, 0, 0), (1563, .aload_n 0, 0, 0, 0, 0), (1564, .iload 5, 0, 0, 0, 0), (1566, .iconst 1, 0, 0, 0, 0), (1567, .iadd, 0, 0, 0, 0), (1568, .iaload, 0, 0, 0, 0), (1569, .invokevirtual 174, 0, 111, 1, 1572), (1572, .istore 7, 0, 0, 0, 0), (1574, .aload_n 2, 0, 0, 0, 0), (1575, .invokevirtual 100, 0, 74, 0, 996), (1578, .iload 6, 0, 0, 0, 0), (1580, .if_icmp .eq 5, 0, 0, 0, 0), (1583, .iconst 0, 0, 0, 0, 0), (1584, .ireturn, 0, 0, 0, 0), (1585, .iload 6, 0, 0, 0, 0), (1587, .ifCond .ne 15, 0, 0, 0, 0), (1590, .aload_n 3, 0, 0, 0, 0), (1591, .iconst 0, 0, 0, 0, 0), (1592, .laload, 0, 0, 0, 0), (1593, .iload 7, 0, 0, 0, 0), (1595, .i2l, 0, 0, 0, 0), (1596, .lcmp, 0, 0, 0, 0), (1597, .ifCond .eq 5, 0, 0, 0, 0), (1600, .iconst 0, 0, 0, 0, 0), (1601, .ireturn, 0, 0, 0, 0), (1602, .goto 85, 0, 0, 0, 0), (1605, .aload_n 1, 0, 0, 0, 0), (1606, .aload_n 0, 0, 0, 0, 0), (1607, .iload 5, 0, 0, 0, 0), (1609, .iconst 1, 0, 0, 0, 0), (1610, .iadd, 0, 0, 0, 0), (1611, .iaload, 0, 0, 0, 0), (1612, .aload_n 0, 0, 0, 0, 0), (1613, .iload 5, 0, 0, 0, 0), (1615, .iconst 2, 0, 0, 0, 0), (1616, .iadd, 0, 0, 0, 0), (1617, .iaload, 0, 0, 0, 0), (1618, .aload_n 3, 0, 0, 0, 0), (1619, .invokestatic 175, 0, 152, 4, 935), (1622, .istore 6, 0, 0, 0, 0), (1624, .aload_n 2, 0, 0, 0, 0), (1625, .aload_n 0, 0, 0, 0, 0), (1626, .iload 5, 0, 0, 0, 0), (1628, .iconst 1, 0, 0, 0, 0), (1629, .iadd, 0, 0, 0, 0), (1630, .iaload, 0, 0, 0, 0), (1631, .aload_n 0, 0, 0, 0, 0), (1632, .iload 5, 0, 0, 0, 0), (1634, .iconst 2, 0, 0, 0, 0), (1635, .iadd, 0, 0, 0, 0), (1636, .iaload, 0, 0, 0, 0), (1637, .invokevirtual 177, 0, 112, 2, 1576), (1640, .istore 7, 0, 0, 0, 0), (1642, .aload_n 2, 0, 0, 0, 0), (1643, .invokevirtual 100, 0, 74, 0, 996), (1646, .iload 6, 0, 0, 0, 0), (1648, .if_icmp .eq 5, 0, 0, 0, 0), (1651, .iconst 0, 0, 0, 0, 0), (1652, .ireturn, 0, 0, 0, 0), (1653, .iload 6, 0, 0, 0, 0), (1655, .ifCond .ne 15, 0, 0, 0, 0), (1658, .aload_n 3, 0, 0, 0, 0), (1659, .iconst 0, 0, 0, 0, 0), (1660, .laload, 0, 0, 0, 0), (1661, .iload 7, 0, 0, 0, 0), (1663, .i2l, 0, 0, 0, 0), (1664, .lcmp, 0, 0, 0, 0), (1665, .ifCond .eq 5, 0, 0, 0, 0), (1668, .iconst 0, 0, 0, 0, 0), (1669, .ireturn, 0, 0, 0, 0), (1670, .goto 17, 0, 0, 0, 0), (1673, .aload_n 1, 0, 0, 0, 0), (1674, .invokevirtual 178, 0, 51, 0, 321), (1677, .aload_n 2, 0, 0, 0, 0), (1678, .invokevirtual 182, 0, 114, 0, 1582), (1681, .lcmp, 0, 0, 0, 0), (1682, .ifCond .eq 5, 0, 0, 0, 0), (1685, .iconst 0, 0, 0, 0, 0), (1686, .ireturn, 0, 0, 0, 0), (1687, .iinc 5 5, 0, 0, 0, 0), (1690, .goto (-1662), 0, 0, 0, 0), (1693, .iconst 1, 0, 0, 0, 0), (1694, .ireturn, 0, 0, 0, 0)]
def mC154 : List (Nat × Instr × Nat × Nat × Nat × Nat) := [(0, .iload_n 1, 0, 0, 0, 0), (1, .bipush 9, 0, 0, 0, 0), (3, .if_icmp .le 11, 0, 0, 0, 0), (6, .aload_n 0, 0, 0, 0, 0), (7, .iload_n 1, 0, 0, 0, 0), (8, .bipush 10, 0, 0, 0, 0), (10, .idiv, 0, 0, 0, 0), (11, .invokestatic 88, 0, 155, 2, 1125), (14, .aload_n 0, 0, 0, 0, 0), (15, .bipush 10, 0, 0, 0, 0), (17, .iload_n 1, 0, 0, 0, 0), (18, .bipush 10, 0, 0, 0, 0), (20, .irem, 0, 0, 0, 0), (21, .iadd, 0, 0, 0, 0), (22, .invokestatic 92, 0, 115, 1, 1018), (25, .invokevirtual 98, 0, 124, 1, 1038), (28, .pop, 0, 0, 0, 0), (29, .return_, 0, 0, 0, 0)]
def mC155 : List (Nat × Instr × Nat × Nat × Nat × Nat) := [(0, .iload_n 1, 0, 0, 0, 0), (1, .bipush 9, 0, 0, 0, 0), (3, .if_icmp .le 11, 0, 0, 0, 0), (6, .aload_n 0, 0, 0, 0, 0), (7, .iload_n 1, 0, 0, 0, 0), (8, .bipush 10, 0, 0, 0, 0), (10, .idiv, 0, 0, 0, 0), (11, .invokestatic 88, 0, 156, 2, 1125), (14, .aload_n 0, 0, 0, 0, 0), (15, .bipush 10, 0, 0, 0, 0), (17, .iload_n 1, 0, 0, 0, 0), (18, .bipush 10, 0, 0, 0, 0), (20, .irem, 0, 0, 0, 0), (21, .iadd, 0, 0, 0, 0), (22, .invokestatic 92, 0, 115, 1, 1018), (25, .invokevirtual 98, 0, 124, 1, 1038), (28, .pop, 0, 0, 0, 0), (29, .return_, 0, 0, 0, 0)]
def mC156 : List (Nat × Instr × Nat × Nat × Nat × Nat) := [(0, .iload_n 1, 0, 0, 0, 0), (1, .bipush 9, 0, 0, 0, 0), (3, .if_icmp .le 11, 0, 0, 0, 0), (6, .aload_n 0, 0, 0, 0, 0), (7, .iload_n 1, 0, 0, 0, 0), (8, .bipush 10, 0, 0, 0, 0), (10, .idiv, 0, 0, 0, 0), (11, .invokestatic 88, 0, 157, 2, 1125), (14, .aload_n 0, 0, 0, 0, 0), (15, .bipush 10, 0, 0, 0, 0), (17, .iload_n 1, 0, 0, 0, 0), (18, .bipush 10, 0, 0, 0, 0), (20, .irem, 0, 0, 0, 0), (21, .iadd, 0, 0, 0, 0), (22, .invokestatic 92, 0, 115, 1, 1018), (25, .invokevirtual 98, 0, 124, 1, 1038), (28, .pop, 0, 0, 0, 0), (29, .return_, 0, 0, 0, 0)]
def mC157 : List (Nat × Instr × Nat × Nat × Nat × Nat) := [(0, .iload_n 1, 0, 0, 0, 0), (1, .bipush 9, 0, 0, 0, 0), (3, .if_icmp .le 11, 0, 0, 0, 0), (6, .aload_n 0, 0, 0, 0, 0), (7, .iload_n 1, 0, 0, 0, 0), (8, .bipush 10, 0, 0, 0, 0), (10, .idiv, 0, 0, 0, 0), (11, .invokestatic 88, 0, 158, 2, 1125), (14, .aload_n 0, 0, 0, 0, 0), (15, .bipush 10, 0, 0, 0, 0), (17, .iload_n 1, 0, 0, 0, 0), (18, .bipush 10, 0, 0, 0, 0), (20, .irem, 0, 0, 0, 0), (21, .iadd, 0, 0, 0, 0), (22, .invokestatic 92, 0, 115, 1, 1018), (25, .invokevirtual 98, 0, 124, 1, 1038), (28, .pop, 0, 0, 0, 0), (29, .return_, 0, 0, 0, 0)]
def mC158 : List (Nat × Instr × Nat × Nat × Nat × Nat) := [(0, .iload_n 1, 0, 0, 0, 0), (1, .bipush 9, 0, 0, 0, 0), (3, .if_icmp .le 11, 0, 0, 0, 0), (6, .aload_n 0, 0, 0, 0, 0), (7, .iload_n 1, 0, 0, 0, 0), (8, .bipush 10, 0, 0, 0, 0), (10, .idiv, 0, 0, 0, 0), (11, .invokestatic 88, 0, 159, 2, 1125), (14, .aload_n 0, 0, 0, 0, 0), (15, .bipush 10, 0, 0, 0, 0), (17, .iload_n 1, 0, 0, 0, 0), (18, .bipush 10, 0, 0, 0, 0), (20, .irem, 0, 0, 0, 0), (21, .iadd, 0, 0, 0, 0), (22, .invokestatic 92, 0, 115, 1, 1018), (25, .invokevirtual 98, 0, 124, 1, 1038), (28, .pop, 0, 0, 0, 0), (29, .return_, 0, 0, 0, 0)]
def mC159 : List (Nat × Instr × Nat × Nat × Nat × Nat) := [(0, .iload_n 1, 0, 0, 0, 0), (1, .bipush 9, 0, 0, 0, 0), (3, .if_icmp .le 11, 0, 0, 0, 0), (6, .aload_n 0, 0, 0, 0, 0), (7, .iload_n 1, 0, 0, 0, 0), (8, .bipush 10, 0, 0, 0, 0), (10, .idiv, 0, 0, 0, 0), (11, .invokestatic 88, 0, 160, 2, 1125), (14, .aload_n 0, 0, 0, 0, 0), (15, .bipush 10, 0, 0, 0, 0), (17, .iload_n 1, 0, 0, 0, 0), (18, .bipush 10, 0, 0, 0, 0), (20, .irem, 0, 0, 0, 0), (21, .iadd, 0, 0, 0, 0), (22, .invokestatic 92, 0, 115, 1, 1018), (25, .invokevirtual 98, 0, 124, 1, 1038), (28, .pop, 0, 0, 0, 0), (29, .return_, 0, 0, 0, 0)]
def mC160 : List (Nat × Instr × Nat × Nat × Nat × Nat) := [(0, .iload_n 1, 0, 0, 0, 0), (1, .bipush 9, 0, 0, 0, 0), (3, .if_icmp .le 11, 0, 0, 0, 0), (6, .aload_n 0, 0, 0, 0, 0), (7, .iload_n 1, 0, 0, 0, 0), (8, .bipush 10, 0, 0, 0, 0), (10, .idiv, 0, 0, 0, 0), (11, .invokestatic 88, 0, 161, 2, 1125), (14, .aload_n 0, 0, 0, 0, 0), (15, .bipush 10, 0, 0, 0, 0), (17, .iload_n 1, 0, 0, 0, 0), (18, .bipush 10, 0, 0, 0, 0), (20, .irem, 0, 0, 0, 0), (21, .iadd, 0, 0, 0, 0), (22, .invokestatic 92, 0, 115, 1, 1018), (25, .invokevirtual 98, 0, 124, 1, 1038), (28, .pop, 0, 0, 0, 0), (29, .return_, 0, 0, 0, 0)]
def mC161 : List (Nat × Instr × Nat × Nat × Nat × Nat) := [(0, .iload_n 1, 0, 0, 0, 0), (1, .bipush 9, 0, 0, 0, 0), (3, .if_icmp .le 11, 0, 0, 0, 0), (6, .aload_n 0, 0, 0, 0, 0), (7, .iload_n 1, 0, 0, 0, 0), (8, .bipush 10, 0, 0, 0, 0), (10, .idiv, 0, 0, 0, 0), (11, .invokestatic 88, 0, 162, 2, 1125), (14, .aload_n 0, 0, 0, 0, 0), (15, .bipush 10, 0, 0, 0, 0), (17, .iload_n 1, 0, 0, 0, 0), (18, .bipush 10, 0, 0, 0, 0), (20, .irem, 0, 0, 0, 0), (21, .iadd, 0, 0, 0, 0), (22, .invokestatic 92, 0, 115, 1, 1018), (25, .invokevirtual 98, 0, 124, 1, 1038), (28, .pop, 0, 0, 0, 0), (29, .return_, 0, 0, 0, 0)]
def mC162 : List (Nat × Instr × Nat × Nat × Nat × Nat) := [(0, .iload_n 1, 0, 0, 0, 0), (1, .bipush 9, 0, 0, 0, 0), (3, .if_icmp .le 11, 0, 0, 0, 0), (6, .aload_n 0, 0, 0, 0, 0), (7, .iload_n 1, 0, 0, 0, 0), (8, .bipush 10, 0, 0, 0, 0), (10, .idiv, 0, 0, 0, 0), (11, .invokestatic 88, 0, 999, 0, 0), (14, .aload_n 0, 0, 0, 0, 0), (15, .bipush 10, 0, 0, 0, 0), (17, .iload_n 1, 0, 0, 0, 0), (18, .bipush 10, 0, 0, 0, 0), (20, .irem, 0, 0, 0, 0), (21, .iadd, 0, 0, 0, 0), (22, .invokestatic 92, 0, 115, 1, 1018), (25, .invokevirtual 98, 0, 124, 1, 1038), (28, .pop, 0, 0, 0, 0), (29, .return_, 0, 0, 0, 0)]
def mCodes : List (List (Nat × Instr × Nat × Nat × Nat × Nat)) := [mC0, mC1, mC2, mC3, mC4, mC5, mC6, mC7, mC8, mC9, mC10, mC11, mC12, mC13, mC14, mC15, mC16, mC17, mC18, mC19, mC20, mC21, mC22, mC23, mC24, mC25, mC26, mC27, mC28, mC29, mC30, mC31, mC32, mC33, mC34, mC35, mC36, mC37, mC38, mC39, mC40, mC41, mC42, mC43, mC44, mC45, mC46, mC47, mC48, mC49, mC50, mC51, mC52, mC53, mC54, mC55, mC56, mC57, mC58, mC59, mC60, mC61, mC62, mC63, mC64, mC65, mC66, mC67, mC68, mC69, mC70, mC71, mC72, mC73, mC74, mC75, mC76, mC77, mC78, mC79, mC80, mC81, mC82, mC83, mC84, mC85, mC86, mC87, mC88, mC89, mC90, mC91, mC92, mC93, mC94, mC95, mC96, mC97, mC98, mC99, mC100, mC101, mC102, mC103, mC104, mC105, mC106, mC107, mC108, mC109, mC110, mC111, mC112, mC113, mC114, mC115, mC116, mC117, mC118, mC119, mC120, mC121, mC122, mC123, mC124, mC125, mC126, mC127, mC128, mC129, mC130, mC131, mC132, mC133, mC134, mC135, mC136, mC137, mC138, mC139, mC140, mC141, mC142, mC143, mC144, mC145, mC146, mC147, mC148, mC149, mC150, mC151, mC152, mC153, mC154, mC155, mC156, mC157, mC158, mC159, mC160, mC161, mC162]
/-- name, code, locals, what it returns, its class, the frames and the words that it nests -/
def mMeths : List (MethodName × ByteArray × Nat × Option FieldType × String × Nat × Nat) := [(yX0_init, cX0_init, 1, (none), RX0, 2, 41),
  (yX2_init, cX2_init, 2, (none), RX2, 1, 20),
  (yX2_at, cX2_at, 2, (some .int), RX2, 0, 0),
  (yX2_put, cX2_put, 3, (none), RX2, 0, 0),
  (yX3_init, cX3_init, 1, (none), RX3, 2, 41),
  (yX3_read, cX3_read, 7, (none), RX3, 2, 44),
  (yX3_isMoreToRead, cX3_isMoreToRead, 3, (some .boolean), RX3, 0, 0),
  (yX3_findUsualWidth, cX3_findUsualWidth, 4, (none), RX3, 1, 21),
  (yX3_columnCount, cX3_columnCount, 1, (some .int), RX3, 1, 21),
  (yX3_points, cX3_points, 1, (some .int), RX3, 2, 41),
  (yX3_cellAt, cX3_cellAt, 3, (some .int), RX3, 1, 21),
  (yX3_quotedCells, cX3_quotedCells, 3, (some .int), RX3, 1, 21),
  (yX4_init, cX4_init, 2, (none), RX4, 3, 61),
  (yX4_settle, cX4_settle, 4, (none), RX4, 3, 66),
  (yX4_guessedMark, cX4_guessedMark, 6, (some .int), RX4, 1, 21),
  (yX4_guessedHeading, cX4_guessedHeading, 4, (some .int), RX4, 2, 43),
  (yX4_hasColumn, cX4_hasColumn, 2, (some .boolean), RX4, 2, 41),
  (yX4_hasKept, cX4_hasKept, 2, (some .boolean), RX4, 0, 0),
  (yX4_choice, cX4_choice, 2, (some .int), RX4, 0, 0),
  (yX4_howMany, cX4_howMany, 2, (some .int), RX4, 2, 43),
  (yX5_init, cX5_init, 1, (none), RX5, 2, 41),
  (yX5_hasRoomFor, cX5_hasRoomFor, 2, (some .boolean), RX5, 0, 0),
  (yX5_write, cX5_write, 2, (none), RX5, 1, 22),
  (yX5_writeNumber, cX5_writeNumber, 5, (none), RX5, 1, 22),
  (yX5_digitsOf, cX5_digitsOf, 3, (some .int), RX5, 0, 0),
  (yX6_init, cX6_init, 1, (none), RX6, 2, 41),
  (yX7_init, cX7_init, 1, (none), RX7, 4, 82),
  (yX7_sign, cX7_sign, 2, (some .int), RX7, 6, 90),
  (yX7_digits, cX7_digits, 2, (some .int), RX7, 6, 90),
  (yX7_letters, cX7_letters, 4, (some .int), RX7, 6, 90),
  (yX7_three, cX7_three, 5, (some .int), RX7, 6, 90),
  (yX7_clear, cX7_clear, 2, (some .int), RX7, 0, 0),
  (yX7_tell, cX7_tell, 4, (some .int), RX7, 6, 90),
  (yX7_setShare, cX7_setShare, 3, (some .int), RX7, 6, 90),
  (yX7_setRule, cX7_setRule, 4, (some .int), RX7, 6, 90),
  (yX7_used, cX7_used, 2, (some .int), RX7, 6, 112),
  (yX7_score, cX7_score, 2, (some .int), RX7, 6, 90),
  (yX7_many, cX7_many, 2, (some .int), RX7, 6, 112),
  (yX7_width, cX7_width, 3, (some .int), RX7, 6, 112),
  (yX7_cell, cX7_cell, 6, (some .int), RX7, 6, 112),
  (yX7_signAt, cX7_signAt, 6, (some .int), RX7, 6, 112),
  (yX7_column, cX7_column, 4, (some .int), RX7, 6, 112),
  (yX7_extreme, cX7_extreme, 4, (some .int), RX7, 6, 112),
  (yX7_sum, cX7_sum, 3, (some .long), RX7, 6, 112),
  (yX7_mean, cX7_mean, 4, (some .double), RX7, 6, 112),
  (yX7_fault, cX7_fault, 4, (some .int), RX7, 6, 112),
  (yX7_kept, cX7_kept, 3, (some .int), RX7, 6, 112),
  (yX7_value, cX7_value, 4, (some .int), RX7, 6, 112),
  (yX7_find, cX7_find, 4, (some .int), RX7, 6, 112),
  (yX7_keptWith, cX7_keptWith, 2, (some .int), RX7, 6, 112),
  (yX7_kindWith, cX7_kindWith, 4, (some .int), RX7, 6, 112),
  (yX7_digest, cX7_digest, 5, (some .long), RX7, 5, 112),
  (yX7_withRows, cX7_withRows, 9, (some .long), RX7, 2, 43),
  (yX7_withColumns, cX7_withColumns, 7, (some .long), RX7, 2, 41),
  (yX7_withFaultsAndKept, cX7_withFaultsAndKept, 7, (some .long), RX7, 1, 23),
  (yX7_mixed, cX7_mixed, 4, (some .long), RX7, 0, 0),
  (yX7_isSign, cX7_isSign, 1, (some .boolean), RX7, 0, 0),
  (yX7_isParter, cX7_isParter, 1, (some .boolean), RX7, 0, 0),
  (yX7_isShare, cX7_isShare, 1, (some .boolean), RX7, 0, 0),
  (yX7_tableNow, cX7_tableNow, 3, (some (.object "Tallow$Table")), RX7, 4, 90),
  (yX7_settledWith, cX7_settledWith, 3, (some (.object "Tallow$Table")), RX7, 4, 90),
  (yX7_tableWith, cX7_tableWith, 2, (some (.object "Tallow$Table")), RX7, 0, 0),
  (yX7_readText, cX7_readText, 1, (none), RX7, 3, 70),
  (yX7_unsettleAll, cX7_unsettleAll, 1, (none), RX7, 0, 0),
  (yX7_guessedParter, cX7_guessedParter, 5, (some .int), RX7, 3, 61),
  (yX9_init, cX9_init, 3, (none), RX9, 1, 20),
  (yX9_isOver, cX9_isOver, 1, (some .boolean), RX9, 1, 20),
  (yX9_rows, cX9_rows, 3, (some (.object "java/util/ArrayList")), RX9, 7, 171),
  (yX11_init, cX11_init, 4, (none), RX11, 8, 193),
  (yX11_first, cX11_first, 1, (some .int), RX11, 1, 21),
  (yX11_decimals, cX11_decimals, 5, (some .int), RX11, 1, 20),
  (yX11_seemsHeading, cX11_seemsHeading, 3, (some .boolean), RX11, 1, 20),
  (yX11_quoted, cX11_quoted, 4, (some .int), RX11, 1, 20),
  (yX12_init, cX12_init, 1, (none), RX12, 4, 80),
  (yX12_thrown, cX12_thrown, 1, (some .int), RX12, 0, 0),
  (yX12_isIn, cX12_isIn, 3, (some .boolean), RX12, 0, 0),
  (yX12_refuse, cX12_refuse, 3, (some .boolean), RX12, 0, 0),
  (yX12_start, cX12_start, 3, (some .boolean), RX12, 1, 22),
  (yX12_usual, cX12_usual, 6, (some .int), RX12, 1, 20),
  (yX12_scoreOf, cX12_scoreOf, 4, (some .int), RX12, 8, 193),
  (yX12_parter, cX12_parter, 3, (some .int), RX12, 9, 216),
  (yX12_sheet, cX12_sheet, 1, (some (.object "TallowModel$Sheet")), RX12, 10, 238),
  (yX12_add, cX12_add, 2, (some .int), RX12, 5, 132),
  (yX12_isNoSign, cX12_isNoSign, 1, (some .boolean), RX12, 1, 22),
  (yX12_digits, cX12_digits, 2, (none), RX12, 16, 360),
  (yX12_sign, cX12_sign, 3, (some .int), RX12, 7, 171),
  (yX12_digits_, cX12_digits_, 3, (some .int), RX12, 17, 381),
  (yX12_letters, cX12_letters, 5, (some .int), RX12, 7, 171),
  (yX12_three, cX12_three, 6, (some .int), RX12, 17, 381),
  (yX12_clear, cX12_clear, 2, (some .int), RX12, 1, 23),
  (yX12_tell, cX12_tell, 4, (some .int), RX12, 2, 44),
  (yX12_setShare, cX12_setShare, 3, (some .int), RX12, 2, 44),
  (yX12_setRule, cX12_setRule, 4, (some .int), RX12, 2, 44),
  (yX12_usedBy, cX12_usedBy, 2, (some .int), RX12, 0, 0),
  (yX12_used, cX12_used, 2, (some .int), RX12, 11, 258),
  (yX12_score, cX12_score, 2, (some .int), RX12, 9, 216),
  (yX12_count, cX12_count, 4, (some .int), RX12, 2, 43),
  (yX12_many, cX12_many, 2, (some .int), RX12, 11, 258),
  (yX12_width, cX12_width, 3, (some .int), RX12, 11, 258),
  (yX12_isNoCell, cX12_isNoCell, 4, (some .boolean), RX12, 2, 44),
  (yX12_cell, cX12_cell, 5, (some .int), RX12, 11, 258),
  (yX12_signAt, cX12_signAt, 6, (some .int), RX12, 11, 258),
  (yX12_isNoColumn, cX12_isNoColumn, 3, (some .boolean), RX12, 2, 44),
  (yX12_column, cX12_column, 4, (some .int), RX12, 11, 258),
  (yX12_extreme, cX12_extreme, 4, (some .int), RX12, 11, 258),
  (yX12_sum, cX12_sum, 3, (some .long), RX12, 11, 258),
  (yX12_mean, cX12_mean, 3, (some .double), RX12, 11, 258),
  (yX12_fault, cX12_fault, 4, (some .int), RX12, 11, 258),
  (yX12_kept, cX12_kept, 3, (some .int), RX12, 11, 258),
  (yX12_value, cX12_value, 4, (some .int), RX12, 11, 258),
  (yX12_find, cX12_find, 5, (some .int), RX12, 11, 258),
  (yX12_keptWith, cX12_keptWith, 2, (some .int), RX12, 9, 216),
  (yX12_kindWith, cX12_kindWith, 4, (some .int), RX12, 11, 258),
  (yX12_add_, cX12_add_, 4, (some .long), RX12, 0, 0),
  (yX12_digest, cX12_digest, 7, (some .long), RX12, 11, 258),
  (yJ6_valueOf_2dffe, cJ6_valueOf_2dffe, 1, (some (.object "java/lang/Integer")), RJ6, 0, 0),
  (yJxa1e45_init_da8c8, cJxa1e45_init_da8c8, 1, (none), RJxa1e45, 1, 20),
  (yJxc12de_init_da8c8, cJxc12de_init_da8c8, 1, (none), RJxc12de, 2, 40),
  (yJx4a65c_init_da8c8, cJx4a65c_init_da8c8, 1, (none), RJx4a65c, 3, 60),
  (yJx4a65c_grow_92f84, cJx4a65c_grow_92f84, 4, (some (.array (.object "java/lang/Object"))), RJx4a65c, 3, 84),
  (yJx4a65c_grow_d5877, cJx4a65c_grow_d5877, 1, (some (.array (.object "java/lang/Object"))), RJx4a65c, 4, 107),
  (yJx4a65c_size_8abf5, cJx4a65c_size_8abf5, 1, (some .int), RJx4a65c, 0, 0),
  (yJx4a65c_toArray_d5877, cJx4a65c_toArray_d5877, 1, (some (.array (.object "java/lang/Object"))), RJx4a65c, 3, 84),
  (yJx4a65c_add_72be8, cJx4a65c_add_72be8, 4, (none), RJx4a65c, 5, 127),
  (yJx4a65c_add_9ea2d, cJx4a65c_add_9ea2d, 2, (some .boolean), RJx4a65c, 6, 150),
  (yJx4a65c_clear_da8c8, cJx4a65c_clear_da8c8, 4, (none), RJx4a65c, 0, 0),
  (yJx4a65c_addAll_f0b43, cJx4a65c_addAll_f0b43, 6, (some .boolean), RJx4a65c, 4, 107),
  (yJ7_copyOf_1904c, cJ7_copyOf_1904c, 2, (some (.array (.object "java/lang/Object"))), RJ7, 2, 63),
  (yJ7_copyOf_6403c, cJ7_copyOf_6403c, 4, (some (.array (.object "java/lang/Object"))), RJ7, 1, 40),
  (yJ8_newLength_cabcc, cJ8_newLength_cabcc, 4, (some .int), RJ8, 1, 21),
  (yL_sign, cL_sign, 4, (some .int), RL, 7, 111),
  (yL_digits, cL_digits, 4, (some .int), RL, 7, 111),
  (yL_letters, cL_letters, 5, (some .int), RL, 7, 113),
  (yL_three, cL_three, 7, (some .int), RL, 7, 114),
  (yL_tell, cL_tell, 5, (some .int), RL, 7, 113),
  (yL_setShare, cL_setShare, 4, (some .int), RL, 7, 112),
  (yL_setRule, cL_setRule, 5, (some .int), RL, 7, 113),
  (yL_used, cL_used, 4, (some .int), RL, 7, 133),
  (yL_score, cL_score, 4, (some .int), RL, 7, 111),
  (yL_many, cL_many, 4, (some .int), RL, 7, 133),
  (yL_width, cL_width, 4, (some .int), RL, 7, 134),
  (yL_cell, cL_cell, 6, (some .int), RL, 7, 137),
  (yL_signAt, cL_signAt, 6, (some .int), RL, 7, 137),
  (yL_column, cL_column, 5, (some .int), RL, 7, 135),
  (yL_extreme, cL_extreme, 5, (some .int), RL, 7, 135),
  (yL_sum, cL_sum, 4, (some .int), RL, 7, 134),
  (yL_mean, cL_mean, 4, (some .int), RL, 7, 135),
  (yL_fault, cL_fault, 5, (some .int), RL, 7, 135),
  (yL_kept, cL_kept, 4, (some .int), RL, 7, 134),
  (yL_value, cL_value, 5, (some .int), RL, 7, 135),
  (yL_find, cL_find, 5, (some .int), RL, 7, 135),
  (yL_keptWith, cL_keptWith, 4, (some .int), RL, 7, 133),
  (yL_kindWith, cL_kindWith, 5, (some .int), RL, 7, 135),
  (yL_law, cL_law, 9, (some .boolean), RL, 18, 406),
  (yX12_digits, cX12_digits, 2, (none), RX12, 15, 339),
  (yX12_digits, cX12_digits, 2, (none), RX12, 14, 318),
  (yX12_digits, cX12_digits, 2, (none), RX12, 13, 297),
  (yX12_digits, cX12_digits, 2, (none), RX12, 12, 276),
  (yX12_digits, cX12_digits, 2, (none), RX12, 11, 255),
  (yX12_digits, cX12_digits, 2, (none), RX12, 10, 234),
  (yX12_digits, cX12_digits, 2, (none), RX12, 9, 213),
  (yX12_digits, cX12_digits, 2, (none), RX12, 8, 192),
  (yX12_digits, cX12_digits, 2, (none), RX12, 7, 171)]
/-- where in lw_tbl: its code, that it is static or not, what it selects, that its class is initialised; whether it is static, how many it takes -/
def mPos : List (Nat × Nat × Nat × Nat × Bool × Nat) := [(228, 227, 99999, 66, false, 0), (109, 108, 99999, 62, false, 1), (344, 342, 343, 62, false, 1), (137, 135, 136, 62, false, 2), (163, 162, 99999, 65, false, 0), (336, 334, 335, 65, false, 2), (340, 339, 2, 65, false, 2), (376, 375, 9, 65, false, 0), (397, 395, 396, 65, false, 0), (393, 391, 392, 65, false, 0), (475, 473, 474, 65, false, 2), (555, 553, 554, 65, false, 0), (157, 156, 99999, 64, false, 1), (405, 403, 404, 64, false, 1), (410, 409, 14, 64, false, 0), (467, 466, 16, 64, false, 1), (858, 856, 857, 64, false, 1), (906, 904, 905, 64, false, 1), (540, 538, 539, 64, false, 1), (548, 546, 547, 64, false, 1), (103, 102, 99999, 61, false, 0), (696, 694, 695, 61, false, 1), (716, 714, 715, 61, false, 1), (733, 731, 732, 61, false, 1), (729, 728, 99999, 61, true, 1), (130, 129, 99999, 63, false, 0), (95, 94, 99999, 60, false, 0), (621, 619, 620, 60, false, 1), (725, 723, 724, 60, false, 1), (741, 739, 740, 60, false, 2), (749, 747, 748, 60, false, 4), (320, 318, 319, 60, false, 0), (757, 755, 756, 60, false, 2), (767, 765, 766, 60, false, 1), (779, 777, 778, 60, false, 2), (803, 801, 802, 60, false, 1), (811, 809, 810, 60, false, 1), (822, 820, 821, 60, false, 1), (830, 828, 829, 60, false, 1), (838, 836, 837, 60, false, 3), (847, 845, 846, 60, false, 3), (854, 852, 853, 60, false, 2), (867, 865, 866, 60, false, 2), (875, 873, 874, 60, false, 1), (882, 880, 881, 60, false, 1), (893, 891, 892, 60, false, 2), (902, 900, 901, 60, false, 1), (914, 912, 913, 60, false, 2), (923, 921, 922, 60, false, 2), (934, 932, 933, 60, false, 1), (941, 939, 940, 60, false, 2), (324, 322, 323, 60, false, 0), (558, 557, 99999, 60, true, 2), (567, 566, 99999, 60, true, 2), (604, 603, 99999, 60, true, 2), (543, 542, 99999, 60, true, 2), (624, 623, 99999, 60, true, 1), (814, 813, 99999, 60, true, 1), (770, 769, 99999, 60, true, 1), (328, 327, 0, 60, false, 0), (612, 611, 28, 60, false, 1), (401, 400, 13, 60, false, 1), (332, 331, 1, 60, false, 0), (384, 383, 11, 60, false, 0), (389, 388, 12, 60, false, 0), (1178, 1177, 99999, 86, false, 2), (1199, 1198, 39, 86, false, 0), (1193, 1191, 1192, 86, false, 0), (1317, 1316, 99999, 85, false, 2), (1388, 1386, 1387, 85, false, 0), (1329, 1328, 45, 85, false, 1), (1375, 1374, 53, 85, false, 0), (1471, 1469, 1470, 85, false, 0), (948, 947, 99999, 67, false, 0), (999, 997, 998, 67, false, 0), (1009, 1008, 99999, 67, true, 3), (1017, 1016, 31, 67, false, 2), (1013, 1012, 30, 67, false, 2), (1308, 1307, 99999, 67, true, 1), (1173, 1172, 38, 67, false, 1), (1169, 1168, 37, 67, false, 0), (1163, 1162, 36, 67, false, 0), (1101, 1100, 35, 67, false, 1), (1006, 1005, 99999, 67, true, 1), (1127, 1126, 99999, 67, true, 2), (1003, 1001, 1002, 67, false, 1), (1124, 1122, 1123, 67, false, 1), (1131, 1129, 1130, 67, false, 2), (1135, 1133, 1134, 67, false, 4), (1139, 1137, 1138, 67, false, 0), (1147, 1145, 1146, 67, false, 2), (1151, 1149, 1150, 67, false, 1), (1155, 1153, 1154, 67, false, 2), (1454, 1453, 99999, 67, true, 2), (1159, 1157, 1158, 67, false, 1), (1458, 1456, 1457, 67, false, 1), (1466, 1465, 56, 67, false, 2), (1462, 1460, 1461, 67, false, 1), (1475, 1473, 1474, 67, false, 1), (1483, 1482, 57, 67, false, 3), (1479, 1477, 1478, 67, false, 3), (1499, 1497, 1498, 67, false, 3), (1507, 1506, 58, 67, false, 2), (1503, 1501, 1502, 67, false, 2), (1516, 1514, 1515, 67, false, 2), (1538, 1536, 1537, 67, false, 1), (1546, 1544, 1545, 67, false, 1), (1554, 1552, 1553, 67, false, 2), (1559, 1557, 1558, 67, false, 1), (1565, 1563, 1564, 67, false, 2), (1570, 1568, 1569, 67, false, 2), (1575, 1573, 1574, 67, false, 1), (1579, 1577, 1578, 67, false, 2), (1589, 1588, 99999, 67, true, 2), (1585, 1583, 1584, 67, false, 0), (1020, 1019, 99999, 77, true, 1), (960, 959, 99999, 68, false, 0), (957, 956, 99999, 69, false, 0), (954, 953, 99999, 70, false, 0), (1053, 1052, 34, 70, false, 1), (1049, 1048, 33, 70, false, 0), (1105, 1103, 1104, 70, false, 0), (1119, 1117, 99999, 70, false, 0), (1045, 1044, 32, 70, false, 3), (1041, 1039, 1040, 70, false, 1), (1143, 1141, 1142, 70, false, 0), (1109, 1107, 1108, 70, false, 1), (1064, 1063, 99999, 81, true, 2), (1088, 1087, 99999, 81, true, 3), (1056, 1055, 99999, 79, true, 3), (99999, 614, 99999, 59, true, 3), (99999, 720, 99999, 59, true, 3), (99999, 736, 99999, 59, true, 4), (99999, 744, 99999, 59, true, 6), (99999, 752, 99999, 59, true, 4), (99999, 762, 99999, 59, true, 3), (99999, 773, 99999, 59, true, 4), (99999, 798, 99999, 59, true, 3), (99999, 806, 99999, 59, true, 3), (99999, 817, 99999, 59, true, 3), (99999, 825, 99999, 59, true, 3), (99999, 833, 99999, 59, true, 5), (99999, 842, 99999, 59, true, 5), (99999, 849, 99999, 59, true, 4), (99999, 862, 99999, 59, true, 4), (99999, 870, 99999, 59, true, 3), (99999, 877, 99999, 59, true, 3), (99999, 888, 99999, 59, true, 4), (99999, 897, 99999, 59, true, 3), (99999, 909, 99999, 59, true, 4), (99999, 918, 99999, 59, true, 4), (99999, 929, 99999, 59, true, 3), (99999, 936, 99999, 59, true, 4), (99999, 99999, 99999, 59, false, 1), (1127, 1126, 99999, 67, true, 2), (1127, 1126, 99999, 67, true, 2), (1127, 1126, 99999, 67, true, 2), (1127, 1126, 99999, 67, true, 2), (1127, 1126, 99999, 67, true, 2), (1127, 1126, 99999, 67, true, 2), (1127, 1126, 99999, 67, true, 2), (1127, 1126, 99999, 67, true, 2), (1127, 1126, 99999, 67, true, 2)]
/-- where in lw_tbl: that a class can be made, is initialised -/
def mClPos : List (Nat × Nat) := [(1026, 77), (951, 70), (225, 66), (106, 62), (160, 65), (154, 64), (100, 61), (127, 63), (92, 60), (1248, 90), (1175, 86), (1202, 87), (1165, 85), (945, 67)]
def mObjPos : Nat × Nat := (97, 98)
/-- where: Math.max, that it is static, its code; Math.min; that the class is initialised -/
def mMathPos : Nat × Nat × Nat × Nat × Nat := (550, 551, 371, 372, 80)
def mTys : List FieldType := [.int, .long, .double, .object "java/lang/Object"]
def mTyPos : List Nat := [115, 1591, 1592]
/-- words that a call moves by rows of their own -/
def mXw : List Cond := [(Jvm.Cond.methodLinkNest "Tallow" (11 : Nat) ({ cls := "Tallow$Text", name := "<init>", desc := "()V" } : Jvm.MethodName) "Tallow"), (Jvm.Cond.methodLinkNest "Tallow$Table" (11 : Nat) ({ cls := "Tallow$Reading", name := "<init>", desc := "()V" } : Jvm.MethodName) "Tallow"), (Jvm.Cond.methodLinkNest "Tallow$Table" (20 : Nat) ({ cls := "Tallow$Faults", name := "<init>", desc := "()V" } : Jvm.MethodName) "Tallow"), (Jvm.Cond.methodLinkNest "TallowModel$Reader" (78 : Nat) ({ cls := "TallowModel$Row", name := "<init>", desc := "()V" } : Jvm.MethodName) "TallowModel"), (Jvm.Cond.methodLinkNest "TallowModel$Sheet" (40 : Nat) ({ cls := "TallowModel", name := "usual", desc := "(Ljava/util/ArrayList;)I" } : Jvm.MethodName) "TallowModel"), (Jvm.Cond.fieldLinkNest "TallowModel$Reader" (22 : Nat) "TallowModel" "text" "Ljava/util/ArrayList;" "TallowModel"), (Jvm.Cond.fieldLinkNest "TallowModel$Sheet" (55 : Nat) "TallowModel" "told" "[I" "TallowModel"), (Jvm.Cond.fieldLinkNest "TallowModel$Sheet" (129 : Nat) "TallowModel" "rules" "[I" "TallowModel"), (Jvm.Cond.fieldLinkNest "TallowModel$Sheet" (85 : Nat) "TallowModel" "share" "I" "TallowModel"), (Jvm.Cond.declares ({ cls := "java/lang/Object", name := "getClass", desc := "()Ljava/lang/Class;" } : Jvm.MethodName)), (Jvm.Cond.arrayOver (Jvm.ClassFile.FieldType.object "java/lang/Object")), (Jvm.Cond.castable "java/util/ArrayList" "java/util/Collection"), (Jvm.Cond.castable "java/lang/Integer" "java/lang/Object"), (Jvm.Cond.castable "Tallow" "java/lang/Object"), (Jvm.Cond.castable "Tallow$Text" "java/lang/Object"), (Jvm.Cond.castable "Tallow$Numbers" "java/lang/Object"), (Jvm.Cond.castable "Tallow$Told" "java/lang/Object"), (Jvm.Cond.castable "Tallow$Table" "java/lang/Object"), (Jvm.Cond.castable "Tallow$Reading" "java/lang/Object"), (Jvm.Cond.castable "Tallow$Faults" "java/lang/Object"), (Jvm.Cond.castable "TallowModel" "java/lang/Object"), (Jvm.Cond.castable "java/util/ArrayList" "java/lang/Object"), (Jvm.Cond.castable "TallowModel$Sheet" "java/lang/Object"), (Jvm.Cond.castable "TallowModel$Reader" "java/lang/Object"), (Jvm.Cond.castable "TallowModel$Row" "java/lang/Object"), (Jvm.Cond.castable "TallowModel$Cell" "java/lang/Object"), (Jvm.Cond.castable "java/lang/Throwable" "java/lang/Object"), (Jvm.Cond.castable "java/lang/String" "java/lang/Object"), (Jvm.Cond.castable "[I" "java/lang/Object"), (Jvm.Cond.castable "[B" "java/lang/Object"), (Jvm.Cond.castable "[Ljava/lang/Object;" "java/lang/Object"), (Jvm.Cond.castable "[J" "java/lang/Object"), (Jvm.Cond.castable "[D" "java/lang/Object")]
/-- static fields that nobody writes, what they hold: class, name, descriptor, value -/
def mStat : List (String × String × String × Value) := [("Tallow$Kinds", "DAYS_AHEAD", "[I", .ref 1), ("java/lang/Integer$IntegerCache", "high", "I", .int 127), ("java/lang/Integer$IntegerCache", "cache", "[Ljava/lang/Integer;", .ref 3), ("java/util/ArrayList", "DEFAULTCAPACITY_EMPTY_ELEMENTDATA", "[Ljava/lang/Object;", .ref 2)]
/-- class objects: of which class, which outer thing -/
def mMir : List (String × Nat) := [("[Ljava/lang/Object;", 4)]
/-- where: getClass selected by a row of references, an instance method, native; arraycopy native, static, System initialised -/
def mNatPos : Nat × Nat × Nat × Nat × Nat × Nat := (1614, 1066, 1085, 1095, 1094, 82)
/-- calls of an interface: the class of the receiver, the named method, the selected one -/
def mIfs : List (String × MethodName × MethodName) := [("java/util/ArrayList", ({ cls := "java/util/Collection", name := "toArray", desc := "()[Ljava/lang/Object;" } : Jvm.MethodName), ({ cls := "java/util/ArrayList", name := "toArray", desc := "()[Ljava/lang/Object;" } : Jvm.MethodName))]
/-- types of outer rows -/
def mETys : List FieldType := mTys ++ [.object "java/lang/Integer"]
/-- throws: own class, exception, places of its class and of its constructor, where it is linked, that it is initialised -/
def mXcls : List (String × String × Nat × Nat × Nat × Nat) := [("Tallow", "java/lang/IllegalArgumentException", 49, 53, 625, 74), ("Tallow", "java/lang/IllegalStateException", 59, 63, 697, 75), ("Tallow", "java/lang/IndexOutOfBoundsException", 112, 116, 780, 83)]
/-- .. which of them, with which text -/
def mThr : List (Nat × Nat × String) := [(0, 51, "a sign is 0 to 45"), (1, 61, "the text is full"), (0, 71, "a number is not less than 0"), (0, 80, "a letter is 0 to 25, and 1 to 12 are written"), (0, 82, "a number is not less than 0, a sign is 0 to 45"), (0, 84, "what is told is 0 to 2"), (0, 86, "there is no such parter, mark or heading"), (0, 107, "a share is 1 to 100"), (2, 114, "a column is 0 to 19"), (0, 117, "a rule is 0 to 3"), (0, 122, "what is used is 0 to 2"), (0, 134, "a parter is 0 to 3"), (0, 153, "what is counted is 0 to 6"), (2, 161, "there is no such row"), (2, 170, "there is no such cell"), (0, 172, "what is asked of a cell is 0 to 4"), (2, 189, "there is no such column"), (0, 191, "what is asked of a column is 0 to 4"), (0, 196, "an extreme is 0 or 1"), (2, 216, "there is no such fault"), (0, 218, "what is asked of a fault is 0 to 2"), (2, 226, "there is no such place"), (2, 231, "there is no such place or column")]
/-- where the words of throws stand -/
def mXsub : List Nat := [71, 72, 73, 74, 75, 83, 616, 617, 625, 626, 627, 628, 629, 630, 631, 632, 633, 634, 635, 636, 637, 638, 639, 640, 641, 642, 643, 644, 645, 646, 647, 648, 649, 650, 651, 652, 653, 654, 655, 656, 657, 658, 659, 660, 661, 662, 663, 664, 665, 667, 668, 669, 670, 671, 672, 673, 674, 675, 676, 677, 678, 679, 680, 681, 682, 683, 684, 685, 686, 687, 688, 689, 690, 691, 697, 698, 699, 700, 701, 702, 703, 704, 705, 707, 708, 709, 710, 711, 712, 775, 780, 781, 782, 783, 784, 785, 786, 787, 788, 790, 791, 792, 793, 794, 795, 1080, 1081, 1082, 1593, 1604, 1605, 1606, 1611, 97, 98]
/-- methods with handlers: number, where their code stands, the handlers -/
def mHds : List (Nat × Nat × List (Nat × Nat × Nat × Nat)) := [(130, 615, [(0, 9, 12, 13), (0, 9, 15, 15)]), (131, 721, [(0, 9, 12, 13), (0, 9, 15, 15)]), (132, 737, [(0, 10, 13, 13), (0, 10, 17, 15)]), (133, 745, [(0, 14, 17, 13), (0, 14, 21, 15)]), (134, 753, [(0, 10, 13, 13)]), (135, 763, [(0, 9, 12, 13)]), (136, 774, [(0, 10, 13, 37), (0, 10, 17, 13)]), (137, 799, [(0, 9, 12, 13)]), (138, 807, [(0, 9, 12, 13)]), (139, 818, [(0, 9, 12, 13)]), (140, 826, [(0, 9, 12, 37)]), (141, 834, [(0, 12, 15, 37), (0, 12, 19, 13)]), (142, 843, [(0, 12, 15, 37)]), (143, 850, [(0, 10, 13, 37), (0, 10, 17, 13)]), (144, 863, [(0, 10, 13, 37), (0, 10, 17, 13)]), (145, 871, [(0, 8, 11, 37)]), (146, 878, [(0, 8, 11, 37)]), (147, 889, [(0, 10, 13, 37), (0, 10, 17, 13)]), (148, 898, [(0, 9, 12, 37)]), (149, 910, [(0, 10, 13, 37)]), (150, 919, [(0, 10, 13, 37)]), (151, 930, [(0, 9, 12, 13)]), (152, 937, [(0, 10, 13, 37), (0, 10, 17, 13)])]
/-- what handlers catch: class, place, name, where it is linked -/
def mHnm : List (String × Nat × String × Nat) := [("TallowLaw", 13, "java/lang/IllegalArgumentException", 616), ("TallowLaw", 15, "java/lang/IllegalStateException", 617), ("TallowLaw", 37, "java/lang/IndexOutOfBoundsException", 775)]
/-- exceptions that are not one another -/
def mNc : List (String × String) := [("java/lang/IllegalArgumentException", "java/lang/IllegalStateException"), ("java/lang/IllegalArgumentException", "java/lang/IndexOutOfBoundsException"), ("java/lang/IllegalStateException", "java/lang/IllegalArgumentException"), ("java/lang/IllegalStateException", "java/lang/IndexOutOfBoundsException"), ("java/lang/IndexOutOfBoundsException", "java/lang/IllegalArgumentException"), ("java/lang/IndexOutOfBoundsException", "java/lang/IllegalStateException")]
def mNest : List Cond := [(Jvm.Cond.methodLinkNest "Tallow" (11 : Nat) ({ cls := "Tallow$Text", name := "<init>", desc := "()V" } : Jvm.MethodName) "Tallow"), (Jvm.Cond.methodLinkNest "Tallow$Table" (11 : Nat) ({ cls := "Tallow$Reading", name := "<init>", desc := "()V" } : Jvm.MethodName) "Tallow"), (Jvm.Cond.methodLinkNest "Tallow$Table" (20 : Nat) ({ cls := "Tallow$Faults", name := "<init>", desc := "()V" } : Jvm.MethodName) "Tallow"), (Jvm.Cond.methodLinkNest "TallowModel$Reader" (78 : Nat) ({ cls := "TallowModel$Row", name := "<init>", desc := "()V" } : Jvm.MethodName) "TallowModel"), (Jvm.Cond.methodLinkNest "TallowModel$Sheet" (40 : Nat) ({ cls := "TallowModel", name := "usual", desc := "(Ljava/util/ArrayList;)I" } : Jvm.MethodName) "TallowModel")]
end
section
/-! ===== BEGIN words of one list among another's, by their places ===== -/
theorem goodIn_r {big : List Cond} (ws : List Cond) (ps : List Nat) (hp : ws = ps.filterMap (fun i => big[i]?)) (h : ws.all goodWord = true) : GoodIn big ws := by
  intro w hw
  have h1 := List.all_eq_true.mp h w hw
  rw [hp] at hw
  obtain ⟨i, -, hi⟩ := List.mem_filterMap.mp hw
  have hm : w ∈ big := by first | exact List.mem_of_getElem? hi | exact List.getElem?_mem hi
  exact ⟨hm, good_of_word h1⟩
theorem goodIn_app {big a b : List Cond} (ha : GoodIn big a) (hb : GoodIn big b) : GoodIn big (a ++ b) := fun w h => (List.mem_append.mp h).elim (ha w) (hb w)
theorem goodIn_ca {big a b : List Cond} {c : Cond} (ha : GoodIn big (c :: a)) (hb : GoodIn big b) : GoodIn big (c :: (a ++ b)) := fun w h => (List.mem_cons.mp h).elim (fun e => ha w (List.mem_cons.mpr (Or.inl e))) (fun h => (List.mem_append.mp h).elim (fun h => ha w (List.mem_cons.mpr (Or.inr h))) (hb w))
theorem goodIn_sub {big ws : List Cond} (hm : ∀ w ∈ ws, w ∈ big) (h : ws.all goodWord = true) : GoodIn big ws := fun w hw => ⟨hm w hw, good_of_word (List.all_eq_true.mp h w hw)⟩
/-! ===== END ===== -/

/-! ===== BEGIN exceptions that leave a method, and their catching by the caller (launches without stack traces) ===== -/
section VXA
/-! The laws vx_back, vx_callV, vx_callS, vx_callSW, vx_throw0, vx_throwS follow proofs of the library, with one case more: JvmDerived/Free/Laws.lean (Back.of_free), Shelf42/LK1.lean (callV, callS), Shelf/KitTraced.lean (throwNew0V, throwNewS). -/
/-- where a method has thrown q: the class by its name, the cell, what was written, the world -/
def vx_T (XC : String → State → State → Prop) (st : State) (q : Addr) (t : State) (mc ms : Nat) (free : Addr → Prop) : Prop :=
  ∃ (E : String) (ce : Cell) (L : List Loc), XC E st t ∧ t.heap[q]? = some ce ∧ ce.vm = .none ∧ st.vm.findClass E = some ce.cls ∧ st.WarmedH t.vm ∧ st.sameButNew ({ t with vm := st.vm } : State) L mc ms ∧ ∀ z ∈ L, free z.base
def vx_Q (Qc : Array Value → State → Outcome → State → Prop) (XC : String → State → State → Prop) (mc ms : Nat) (free : Addr → Prop) : Array Value → State → Outcome → State → Prop := fun a st o t =>
  (Qc a st o t ∧ ∃ L, FrameEnd st o t L mc ms ∧ ∀ q ∈ L, free q.base) ∨ ∃ q, o = .threw q ∧ vx_T XC st q t mc ms free
/-- a callee that returns or throws -/
def vx_Met (l : Launch) (y : MethodName) (ws : List Cond) (rm : Room) (Pc : Array Value → State → Prop) (Qc : Array Value → State → Outcome → State → Prop) (XC : String → State → State → Prop) (mc ms : Nat) (free : Addr → Prop) : Prop :=
  MetFree l y (headSpec ws rm) Pc (fun _ _ _ _ _ => True) (vx_Q Qc XC mc ms free)
def vx_Post (XC : String → State → State → Prop) (mc ms : Nat) (free : Addr → Prop) : Pt → Array Value → Addr → Pt → Prop := fun A a q B =>
  ∃ (g : JFrame) (mk : MethodId) (t : State) (L : List Loc) (E : String) (ce : Cell), B.U.heap = t.heap ∧ B.U.vm = t.vm ∧ XC E (A.U.calling g mk a) t ∧ t.heap[q]? = some ce ∧ ce.vm = .none ∧ A.U.vm.findClass E = some ce.cls ∧ B.locs = A.locs ++ L ∧ (∀ z ∈ L, free z.base) ∧ B.cells = A.cells + mc ∧ B.slots = A.slots + ms
def vx_Back (l : Launch) (R : Room) (p : Program) (e : Env) (below : List Frame) (s : State) (sargs : Array Value) (y : MethodName) (len W9 : Nat)
    (Pre : Pt → Array Value → Prop) (Post : Pt → Array Value → Option Value → Pt → Prop) (PostX : Pt → Array Value → Addr → Pt → Prop) : Prop :=
  ∀ (m : MethodId) (meth : Method) (c : Code) (A : Pt) (g : JFrame) (ig : Instr) (mk : MethodId) (a : Array Value),
    Stand p l e R s m sargs below meth c A.U A.locs A.cells A.slots → g.method = m → g.locals.size = c.maxLocals → decode c.code g.pc = .ok (ig, len) →
    2 * g.monitorRoom + (g.stack.map fun v => v.category).sum ≤ W9 → A.U.methodNamed? y = some mk → Pre A a →
    (∃ (v : Option Value) (B : Pt), Stand p l e R s m sargs below meth c B.U B.locs B.cells B.slots ∧ Post A a v B ∧
      Steps p.tables e below (doInvoke e (A.U.setTop g) [] mk a).1 (B.U.setTop { g with pc := g.pc + len, stack := v.toList ++ g.stack })) ∨
    (∃ (q : Addr) (B : Pt), Stand p l e R s m sargs below meth c B.U B.locs B.cells B.slots ∧ PostX A a q B ∧
      Steps p.tables e below (doInvoke e (A.U.setTop g) [] mk a).1 ((B.U.setTop g).pushFrame (.throwing q)))
section Payer
variable {l : Launch} {R : Room} {p : Program} {e : Env} {below : List Frame} {s : State} {sargs : Array Value} {y : MethodName} {len W9 : Nat}
theorem vx_back {ws : List Cond} {rm : Room} {Pc : Array Value → State → Prop} {Qc : Array Value → State → Outcome → State → Prop} {XC : String → State → State → Prop} {mc ms : Nat} {free : Addr → Prop} {bytes : ByteArray} {maxL : Nat} {ret : Option FieldType}
    (hM : vx_Met l y ws rm Pc Qc XC mc ms free) (hblind : FrameBlind Pc) (hrc : rm.cells = mc) (hrs : rm.slots = ms)
    (hframes : rm.frames + 1 ≤ R.frames) (hlocals : W9 + (maxL + 11) + rm.locals ≤ R.locals)
    (hws : ∀ w ∈ ws, ∀ a' U, s.WarmedH U.vm → w.before a' U = true) (hcode : Cond.code y bytes maxL ret ∈ ws) (hinit : ∀ a' U, s.WarmedH U.vm → (Cond.initialized y.cls).before a' U = true) :
    vx_Back l R p e below s sargs y len W9 (PreOf R mc ms Pc) (PostOf Qc mc ms free) (vx_Post XC mc ms free) := by
  intro m meth c A g ig mk a X hg hsize hdg hW hn hp
  have h1 : (headSpec ws rm).pre.before a A.U = true := atoms_intro fun w hw => hws w hw _ _ X.warmed
  have h2 : (Cond.code y bytes maxL ret).before a A.U = true := hws _ hcode _ _ X.warmed
  have h3 : (Cond.initialized y.cls).before a A.U = true := hinit _ _ X.warmed
  have h4 : A.cells + (headSpec ws rm).room.cells ≤ R.cells := by rw [show (headSpec ws rm).room.cells = mc from hrc]; exact hp.1
  have h5 : A.slots + (headSpec ws rm).room.slots ≤ R.slots := by rw [show (headSpec ws rm).room.slots = ms from hrs]; exact hp.2.1
  have hPc : Pc a (A.U.calling g mk a) := hblind _ _ _ _ hp.2.2
  obtain ⟨U, Ls, c0, s0⟩ := A
  dsimp only [Pt.U, Pt.locs, Pt.cells, Pt.slots] at h1 h2 h3 h4 h5 X hn hPc ⊢
  obtain ⟨methY, cY, hmY, hcY, -, hlY, -, -, -, -⟩ := Cond.code_spec hn h2
  obtain ⟨kY, hkY, -⟩ := className_of_methodNamed hn
  have hinitY : kY.init = .initialized := Cond.initialized_spec (findClass_of_methodNamed hn) hkY h3
  have h : At U g.method c below := by rw [hg]; exact X.here
  have hlocals9 : W9 + (maxL + 11) + (headSpec ws rm).room.locals ≤ R.locals := hlocals
  have happ : (headSpec ws rm).appliesLoose y e.platform (U.calling g mk a) = true :=
    Spec.appliesLoose_calling (g := g) h hdg hn hkY hinitY
      (X.room_calling (g := g) (R' := (headSpec ws rm).room) hsize hmY hcY hframes (by rw [hlY]; omega) h4 h5) h1
  obtain ⟨mid, hmid⟩ := h.above
  have hfr : (U.setTop g).frames = (.java g :: mid) ++ below := by rw [State.frames_setTop' g h.top, hmid]; rfl
  obtain ⟨o, s₂, hsteps, -, hend, hq⟩ := Steps.callFree hM p X.admits X.cas X.clock (acts := []) hfr happ hPc trivial
  have hq' : vx_Q Qc XC mc ms free a (U.calling g mk a) o s₂ := hq
  rw [State.frames_setTop' g h.top] at hend
  obtain ⟨g₀, hg0⟩ := Option.isSome_iff_exists.mp h.top
  obtain ⟨r, hr⟩ := State.topJava?_eq_some.mp hg0
  have hr' : (({ U with heap := s₂.heap, slotsUsed := s₂.slotsUsed } : State).setVm s₂.vm).frames = .java g₀ :: r := hr
  rcases hq' with ⟨hqc, L, hfe, hL⟩ | ⟨q, rfl, E, ce, L, hx, hce, hcv, hcl, hW₂, hsm, hL⟩
  · obtain ⟨⟨v, rfl⟩, hW₂, e2, q2, q3, q4, q5, q6⟩ := id hfe
    have e3 : s₂ = ({ (U.calling g mk a).setFrames s₂.frames with heap := s₂.heap, slotsUsed := s₂.slotsUsed } : State).setVm s₂.vm := by
      have : s₂ = ({ s₂ with vm := (U.calling g mk a).vm } : State).setVm s₂.vm := rfl
      rw [e2] at this
      exact this
    obtain ⟨c₂, i₂, len₂, hc₂, hd₂, hf₂⟩ := hend
    have hW' : U.WarmedH s₂.vm := hW₂
    have hcc : c₂ = c := by
      have h1 : s₂.code? g.method = U.code? g.method := by
        rw [State.code?_eq, State.code?_eq, hW'.alike.method?]
      exact Option.some.inj (hc₂.symm.trans (h1.trans h.code))
    subst hcc
    have hlen : len₂ = len := by rw [hdg] at hd₂; cases hd₂; rfl
    subst hlen
    have hs₂ : s₂ = (({ U with heap := s₂.heap, slotsUsed := s₂.slotsUsed } : State).setVm s₂.vm).setTop { g with pc := g.pc + len₂, stack := v.toList ++ g.stack } := by
      refine e3.trans ?_
      rw [hf₂, State.calling_eq h.top, State.setFrames_setFrames, State.setTop_of_frames _ hr', hr]
      rfl
    have hsame : U.sameButNew ({ U with heap := s₂.heap, slotsUsed := s₂.slotsUsed } : State) L mc ms := by
      refine ⟨?_, q2, q3, q4, q5, q6⟩
      obtain ⟨t, ht, -⟩ := State.frames_cons hr
      show ({ U with heap := s₂.heap, slotsUsed := s₂.slotsUsed } : State) = { U.setFrames U.frames with heap := s₂.heap, slotsUsed := s₂.slotsUsed }
      rw [State.setFrames_self ht]
    subst hg
    refine Or.inl ⟨v, ⟨(({ U with heap := s₂.heap, slotsUsed := s₂.slotsUsed } : State).setVm s₂.vm), Ls ++ L, c0 + mc, s0 + ms⟩,
      ⟨X.admits, X.cas, X.clock, X.frames, X.room, X.hears, X.method, X.code, (X.here.setHeapUsed s₂.heap s₂.slotsUsed).setVm hW'.alike, X.tail, State.WarmedH.trans X.warmed hW', X.limits, X.bytes, X.same.trans (hsame.setVm s.vm)⟩,
      ⟨g, mk, s₂, L, rfl, rfl, hqc, rfl, hL, rfl, rfl⟩, ?_⟩
    show Steps p.tables e below _ ((({ U with heap := s₂.heap, slotsUsed := s₂.slotsUsed } : State).setVm s₂.vm).setTop { g with pc := g.pc + len₂, stack := v.toList ++ g.stack })
    rw [← hs₂]
    exact hsteps
  · obtain ⟨e2, q2, q3, q4, q5, q6⟩ := id hsm
    have e3 : s₂ = ({ (U.calling g mk a).setFrames s₂.frames with heap := s₂.heap, slotsUsed := s₂.slotsUsed } : State).setVm s₂.vm := by
      have : s₂ = ({ s₂ with vm := (U.calling g mk a).vm } : State).setVm s₂.vm := rfl
      rw [e2] at this
      exact this
    have hf₂ : s₂.frames = .throwing q :: .java g :: U.frames.tail := hend
    have hW' : U.WarmedH s₂.vm := hW₂
    have hs₂ : s₂ = ((({ U with heap := s₂.heap, slotsUsed := s₂.slotsUsed } : State).setVm s₂.vm).setTop g).pushFrame (.throwing q) := by
      refine e3.trans ?_
      rw [hf₂, State.calling_eq h.top, State.setFrames_setFrames, State.pushFrame, State.frames_setTop _ hr', State.setTop_of_frames _ hr', State.setFrames_setFrames, hr]
      rfl
    have hsame : U.sameButNew ({ U with heap := s₂.heap, slotsUsed := s₂.slotsUsed } : State) L mc ms := by
      refine ⟨?_, q2, q3, q4, q5, q6⟩
      obtain ⟨t, ht, -⟩ := State.frames_cons hr
      show ({ U with heap := s₂.heap, slotsUsed := s₂.slotsUsed } : State) = { U.setFrames U.frames with heap := s₂.heap, slotsUsed := s₂.slotsUsed }
      rw [State.setFrames_self ht]
    subst hg
    refine Or.inr ⟨q, ⟨(({ U with heap := s₂.heap, slotsUsed := s₂.slotsUsed } : State).setVm s₂.vm), Ls ++ L, c0 + mc, s0 + ms⟩,
      ⟨X.admits, X.cas, X.clock, X.frames, X.room, X.hears, X.method, X.code, (X.here.setHeapUsed s₂.heap s₂.slotsUsed).setVm hW'.alike, X.tail, State.WarmedH.trans X.warmed hW', X.limits, X.bytes, X.same.trans (hsame.setVm s.vm)⟩,
      ⟨g, mk, s₂, L, E, ce, rfl, rfl, hx, hce, hcv, hcl, rfl, hL, rfl, rfl⟩, ?_⟩
    show Steps p.tables e below _ (((({ U with heap := s₂.heap, slotsUsed := s₂.slotsUsed } : State).setVm s₂.vm).setTop g).pushFrame (.throwing q))
    rw [← hs₂]
    exact hsteps
end Payer
section Calls
variable {p : Program} {l : Launch} {e : Env} {R : Room} {s : State} {m : MethodId} {args : Array Value} {below : List Frame} {meth : Method} {c : Code} {T : State} {locs : List Loc} {cells slots : Nat}
theorem vx_callV (X : Stand p l e R s m args below meth c T locs cells slots) (hexec : p.tables.exec = Jvm.exec) {own C : String} {index : Nat} {y : MethodName} {bytes : ByteArray} {maxL : Nat} {ret : Option FieldType}
    (hown : s.vm.findClass own = some m.cls) (hlink : (Cond.methodLink own index y).before args s = true) (hinst : (Cond.instanceMethod y).before args s = true) (hsel : (Cond.selects C y y).before args s = true)
    (hcode : (Cond.code y bytes maxL ret).before args s = true) (hy : y.cls ≠ "java/lang/invoke/MethodHandle" ∧ y.cls ≠ "java/lang/invoke/VarHandle")
    {W9 : Nat} {Pre : Pt → Array Value → Prop} {Post : Pt → Array Value → Option Value → Pt → Prop} {PostX : Pt → Array Value → Addr → Pt → Prop} (hK : vx_Back l R p e below s args y 3 W9 Pre Post PostX)
    {b : Addr} {cellB : Cell} (hcell : T.heap[b]? = some cellB) (hobj : cellB.vm.isStatics = false) (hcls : s.vm.findClass C = some cellB.cls)
    {g : JFrame} (hg : g.method = m) (hsize : g.locals.size = c.maxLocals) {argsL rest : List Value} (hlen : ∀ sig, parseMethodDescriptor y.desc = some sig → argsL.length = sig.parameters.length)
    (hstack : g.stack = argsL.reverse ++ .ref b :: rest) (hW : 2 * g.monitorRoom + (rest.map fun v => v.category).sum ≤ W9) (hdg : decode c.code g.pc = .ok (.invokevirtual index, 3))
    (hpre : ∀ vm₁, s.WarmedH vm₁ → Pre ⟨T.setVm vm₁, locs, cells, slots⟩ (Value.ref b :: argsL).toArray) :
    (∃ (v : Option Value) (vm₁ : Vm) (B : Pt), s.WarmedH vm₁ ∧ Stand p l e R s m args below meth c B.U B.locs B.cells B.slots ∧ Post ⟨T.setVm vm₁, locs, cells, slots⟩ (Value.ref b :: argsL).toArray v B ∧
      ∀ target, Steps p.tables e below (B.U.setTop { g with pc := g.pc + 3, stack := v.toList ++ rest }) target → Steps p.tables e below (T.setTop g) target) ∨
    (∃ (q : Addr) (vm₁ : Vm) (B : Pt), s.WarmedH vm₁ ∧ Stand p l e R s m args below meth c B.U B.locs B.cells B.slots ∧ PostX ⟨T.setVm vm₁, locs, cells, slots⟩ (Value.ref b :: argsL).toArray q B ∧
      Steps p.tables e below (T.setTop g) ((B.U.setTop { g with stack := rest }).pushFrame (.throwing q))) := by
  obtain ⟨mk, methM, hnamed, hmethM, hstM, habM⟩ := Cond.instanceMethod_spec hinst
  obtain ⟨methM', cM, hmethM', -, -, -, -, -, -, hsigM⟩ := Cond.code_spec hnamed hcode
  cases hmethM.symm.trans hmethM'
  obtain ⟨c2, r2, m2, q1, q2, q3, q4, kP, hkP, hkPi⟩ := Cond.selects_spec hsel
  cases hcls.symm.trans q1
  cases (State.methodFound?_of_named hnamed hy).symm.trans q2
  cases hnamed.symm.trans q3
  have hselP : selectMethod e.platform s.vm cellB.cls mk = .method mk := by rw [Launch.admits_selectMethod X.admits]; exact q4
  obtain ⟨vm₁, X₁, hstep₁⟩ := X.invokevirtual hexec hown hlink hnamed hmethM hstM hkP hkPi hy (a := b) (cell := cellB) hcell
    (fun z h => by rw [h] at hobj; cases hobj) hselP hmethM habM hkP hkPi (g := g) hg (argsL := argsL) (rest := rest) (hlen _ hsigM) hstack hdg
  rcases hK m meth c ⟨T.setVm vm₁, locs, cells, slots⟩ { g with stack := rest } (.invokevirtual index) mk (Value.ref b :: argsL).toArray X₁ hg hsize hdg hW (X₁.named hnamed) (hpre vm₁ X₁.warmed) with ⟨v, B, X', hpost, hsteps⟩ | ⟨q, B, X', hpost, hsteps⟩
  · exact Or.inl ⟨v, vm₁, B, X₁.warmed, X', hpost, fun target h => hstep₁ _ fun acts => by rw [doInvoke_state]; exact hsteps.trans h⟩
  · exact Or.inr ⟨q, vm₁, B, X₁.warmed, X', hpost, hstep₁ _ fun acts => by rw [doInvoke_state]; exact hsteps⟩
theorem vx_callS (X : Stand p l e R s m args below meth c T locs cells slots) (hexec : p.tables.exec = Jvm.exec) {own : String} {index : Nat} {y : MethodName} {bytes : ByteArray} {maxL : Nat} {ret : Option FieldType}
    (hown : s.vm.findClass own = some m.cls) (hlink : (Cond.methodLink own index y).before args s = true) (hstat : (Cond.static y).before args s = true) (hinit : (Cond.initialized y.cls).before args s = true)
    (hcode : (Cond.code y bytes maxL ret).before args s = true) (hy : y.cls ≠ "java/lang/invoke/MethodHandle" ∧ y.cls ≠ "java/lang/invoke/VarHandle")
    {W9 : Nat} {Pre : Pt → Array Value → Prop} {Post : Pt → Array Value → Option Value → Pt → Prop} {PostX : Pt → Array Value → Addr → Pt → Prop} (hK : vx_Back l R p e below s args y 3 W9 Pre Post PostX)
    {g : JFrame} (hg : g.method = m) (hsize : g.locals.size = c.maxLocals) {argsL rest : List Value} (hlen : ∀ sig, parseMethodDescriptor y.desc = some sig → argsL.length = sig.parameters.length)
    (hstack : g.stack = argsL.reverse ++ rest) (hW : 2 * g.monitorRoom + (rest.map fun v => v.category).sum ≤ W9) (hdg : decode c.code g.pc = .ok (.invokestatic index, 3))
    (hpre : ∀ vm₁, s.WarmedH vm₁ → Pre ⟨T.setVm vm₁, locs, cells, slots⟩ argsL.toArray) :
    (∃ (v : Option Value) (vm₁ : Vm) (B : Pt), s.WarmedH vm₁ ∧ Stand p l e R s m args below meth c B.U B.locs B.cells B.slots ∧ Post ⟨T.setVm vm₁, locs, cells, slots⟩ argsL.toArray v B ∧
      ∀ target, Steps p.tables e below (B.U.setTop { g with pc := g.pc + 3, stack := v.toList ++ rest }) target → Steps p.tables e below (T.setTop g) target) ∨
    (∃ (q : Addr) (vm₁ : Vm) (B : Pt), s.WarmedH vm₁ ∧ Stand p l e R s m args below meth c B.U B.locs B.cells B.slots ∧ PostX ⟨T.setVm vm₁, locs, cells, slots⟩ argsL.toArray q B ∧
      Steps p.tables e below (T.setTop g) ((B.U.setTop { g with stack := rest }).pushFrame (.throwing q))) := by
  obtain ⟨mk, hnamed⟩ := Cond.code_named hcode
  obtain ⟨methM, cM, hmethM, -, -, -, -, -, -, hsigM⟩ := Cond.code_spec hnamed hcode
  have hstatic : methM.isStatic = true := Cond.static_spec hnamed hmethM hstat
  obtain ⟨kP, hkP, -⟩ := className_of_methodNamed hnamed
  have hinitP : kP.init = .initialized := Cond.initialized_spec (findClass_of_methodNamed hnamed) hkP hinit
  obtain ⟨vm₁, X₁, hstep₁⟩ := X.invokestatic hexec hown hlink hnamed hmethM hstatic hkP hinitP hy (g := g) hg (argsL := argsL) (rest := rest) (hlen _ hsigM) hstack hdg
  rcases hK m meth c ⟨T.setVm vm₁, locs, cells, slots⟩ { g with stack := rest } (.invokestatic index) mk argsL.toArray X₁ hg hsize hdg hW (X₁.named hnamed) (hpre vm₁ X₁.warmed) with ⟨v, B, X', hpost, hsteps⟩ | ⟨q, B, X', hpost, hsteps⟩
  · exact Or.inl ⟨v, vm₁, B, X₁.warmed, X', hpost, fun target h => hstep₁ _ fun acts => by rw [doInvoke_state]; exact hsteps.trans h⟩
  · exact Or.inr ⟨q, vm₁, B, X₁.warmed, X', hpost, hstep₁ _ fun acts => by rw [doInvoke_state]; exact hsteps⟩
end Calls
theorem vx_cls {s : State} {T : State} {vm₁ : Vm} {E : String} {k : ClassId} (hW : s.WarmedH vm₁) (h : (T.setVm vm₁).vm.findClass E = some k) : s.vm.findClass E = some k := by
  have h1 : vm₁.findClass E = some k := h
  rw [hW.alike.findClass] at h1
  exact h1
/-- the method's frame g, with q thrown over it -/
def vx_W (p : Program) (l : Launch) (e : Env) (R : Room) (s : State) (m : MethodId) (args : Array Value) (below : List Frame) (meth : Method) (c : Code) (H : Heap) (locs : List Loc) (cells slots : Nat) (Q : State → Prop) (g : JFrame) (q : Addr) : Prop :=
  ∀ T : State, T.heap = H → Stand p l e R s m args below meth c T locs cells slots → ∃ t, Steps p.tables e below ((T.setTop g).pushFrame (.throwing q)) t ∧ Q t
def vx_Run (p : Program) (l : Launch) (e : Env) (R : Room) (s : State) (m : MethodId) (args : Array Value) (below : List Frame) (meth : Method) (c : Code) (H : Heap) (locs : List Loc) (cells slots mc ms : Nat) (g : JFrame) (rest : List Value) (Qa : State → Outcome → State → Prop) (XC : String → State → State → Prop) (free : Addr → Prop) : Prop :=
  ∀ T : State, T.heap = H → Stand p l e R s m args below meth c T locs cells slots →
    (∃ (v : Option Value) (st₀ t T' : State) (L : List Loc), st₀.heap = H ∧ Stand p l e R s m args below meth c T' (locs ++ L) (cells + mc) (slots + ms) ∧ (∀ q ∈ L, free q.base) ∧ T'.heap = t.heap ∧ T'.vm = t.vm ∧ Qa st₀ (.returned v) t ∧
      Goes p e below T g T' { g with pc := g.pc + 3, stack := v.toList ++ rest }) ∨
    (∃ (q : Addr) (st₀ t T' : State) (L : List Loc) (E : String) (ce : Cell), st₀.heap = H ∧ Stand p l e R s m args below meth c T' (locs ++ L) (cells + mc) (slots + ms) ∧ (∀ z ∈ L, free z.base) ∧ T'.heap = t.heap ∧ T'.vm = t.vm ∧ XC E st₀ t ∧ t.heap[q]? = some ce ∧ ce.vm = .none ∧ s.vm.findClass E = some ce.cls ∧
      Steps p.tables e below (T.setTop g) ((T'.setTop { g with stack := rest }).pushFrame (.throwing q)))
def vx_X {S : Type} (px : S → Prop) (B : String → S → State → Prop) (A : Nat → Prop) : String → State → State → Prop := fun E st t => ∃ u : S, px u ∧ B E u t ∧ va_F A st t
section Runs
variable {p : Program} {l : Launch} {e : Env} {R : Room} {s : State} {m : MethodId} {args : Array Value} {below : List Frame} {meth : Method} {c : Code} {H : Heap} {locs : List Loc} {cells slots : Nat}
variable {y : MethodName} {bytes cc : ByteArray} {maxL nL mc ms n index : Nat} {ret : Option FieldType} {ws : List Cond} {rm : Room} {Pc : Array Value → State → Prop} {Qc : Array Value → State → Outcome → State → Prop} {XC : String → State → State → Prop} {free : Addr → Prop} {Ts : List Cond} {own C : String} {b : Addr} {As rest : List Value} {g : JFrame}
theorem vx_callBack (cb : CallB R s args own index y bytes maxL ret ws rm mc ms n) (hM : vx_Met l y ws rm Pc Qc XC mc ms free) (hbl : FrameBlind Pc) : vx_Back l R p e below s args y 3 8 (PreOf R mc ms Pc) (PostOf Qc mc ms free) (vx_Post XC mc ms free) := by
  obtain ⟨hrc, hrs, hfr, hlo, hws, hcw, -, hini, -⟩ := cb
  exact vx_back (bytes := bytes) (maxL := maxL) (ret := ret) hM hbl hrc hrs hfr hlo hws hcw (fun a' U hW => word_at hW (Or.inl (by first | rfl | simp [Cond.onTables, Cond.keeps, Cond.steady])) hini)
theorem vx_runV (S : CallFix p m c cc nL s args Ts own) (hM : vx_Met l y ws rm Pc Qc XC mc ms free) (cw : CallW R s args own C index y bytes maxL ret ws rm mc ms n) (hp : PreV s H C b Pc As)
    (hg : g.method = m) (hn : As.length = n) (hsize : g.locals.size = nL) (hstack : g.stack = As.reverse ++ .ref b :: rest) (hW : 2 * g.monitorRoom + (rest.map fun v => v.category).sum ≤ 8) (hdg : decode cc g.pc = .ok (.invokevirtual index, 3)) (hf : cells + mc ≤ R.cells ∧ slots + ms ≤ R.slots) :
    vx_Run p l e R s m args below meth c H locs cells slots mc ms g rest (Qc (Value.ref b :: As).toArray) XC free := by
  have hK : vx_Back l R p e below s args y 3 8 (PreOf R mc ms Pc) (PostOf Qc mc ms free) (vx_Post XC mc ms free) := vx_callBack cw.1 hM hp.1
  obtain ⟨⟨-, -, -, -, -, -, hcode, -, hy, hlen, hl⟩, hin, hse⟩ := cw
  obtain ⟨hx, hb, hml, ho, -⟩ := S
  obtain ⟨-, ⟨cellB, hcB, hoB, hclB⟩, hPc⟩ := hp
  intro T hT X
  rcases vx_callV X hx (C := C) (bytes := bytes) (maxL := maxL) (ret := ret) ho hl hin hse hcode hy hK (by rw [hT]; exact hcB) hoB hclB hg (hsize.trans hml.symm) (argsL := As) (rest := rest) (fun sig h => hn.trans (hlen sig h)) hstack hW (by rw [hb]; exact hdg)
    (fun vm₁ hW₁ => ⟨hf.1, hf.2, hPc (T.setVm vm₁) hT hW₁⟩) with ⟨v, vm₁, ⟨U', l2, c2, s2⟩, hW₁, X', ⟨g', mk, t, L, e1, e2, hq, h1, hL, h2, h3⟩, st⟩ | ⟨q, vm₁, ⟨U', l2, c2, s2⟩, hW₁, X', ⟨g', mk, t, L, E, ce, e1, e2, hq, hce, hcv, hcl, h1, hL, h2, h3⟩, st⟩
  · dsimp only [Pt.U, Pt.locs, Pt.cells, Pt.slots] at X' e1 e2 h1 h2 h3 st
    subst h1; subst h2; subst h3
    exact Or.inl ⟨v, (T.setVm vm₁).calling g' mk (Value.ref b :: As).toArray, t, U', L, hT, X', hL, e1, e2, hq, st⟩
  · dsimp only [Pt.U, Pt.locs, Pt.cells, Pt.slots] at X' e1 e2 h1 h2 h3 st hcl
    subst h1; subst h2; subst h3
    exact Or.inr ⟨q, (T.setVm vm₁).calling g' mk (Value.ref b :: As).toArray, t, U', L, E, ce, hT, X', hL, e1, e2, hq, hce, hcv, vx_cls hW₁ hcl, st⟩
theorem vx_runS (S : CallFix p m c cc nL s args Ts own) (hM : vx_Met l y ws rm Pc Qc XC mc ms free) (cw : CallB R s args own index y bytes maxL ret ws rm mc ms n ∧ (Cond.static y).before args s = true) (hp : PreS s H Pc As)
    (hg : g.method = m) (hn : As.length = n) (hsize : g.locals.size = nL) (hstack : g.stack = As.reverse ++ rest) (hW : 2 * g.monitorRoom + (rest.map fun v => v.category).sum ≤ 8) (hdg : decode cc g.pc = .ok (.invokestatic index, 3)) (hf : cells + mc ≤ R.cells ∧ slots + ms ≤ R.slots) :
    vx_Run p l e R s m args below meth c H locs cells slots mc ms g rest (Qc As.toArray) XC free := by
  have hK : vx_Back l R p e below s args y 3 8 (PreOf R mc ms Pc) (PostOf Qc mc ms free) (vx_Post XC mc ms free) := vx_callBack cw.1 hM hp.1
  obtain ⟨⟨-, -, -, -, -, -, hcode, hini, hy, hlen, hl⟩, hstt⟩ := cw
  obtain ⟨hx, hb, hml, ho, -⟩ := S
  intro T hT X
  rcases vx_callS X hx (bytes := bytes) (maxL := maxL) (ret := ret) ho hl hstt hini hcode hy hK hg (hsize.trans hml.symm) (argsL := As) (rest := rest) (fun sig h => hn.trans (hlen sig h)) hstack hW (by rw [hb]; exact hdg)
    (fun vm₁ hW₁ => ⟨hf.1, hf.2, hp.2 (T.setVm vm₁) hT hW₁⟩) with ⟨v, vm₁, ⟨U', l2, c2, s2⟩, hW₁, X', ⟨g', mk, t, L, e1, e2, hq, h1, hL, h2, h3⟩, st⟩ | ⟨q, vm₁, ⟨U', l2, c2, s2⟩, hW₁, X', ⟨g', mk, t, L, E, ce, e1, e2, hq, hce, hcv, hcl, h1, hL, h2, h3⟩, st⟩
  · dsimp only [Pt.U, Pt.locs, Pt.cells, Pt.slots] at X' e1 e2 h1 h2 h3 st
    subst h1; subst h2; subst h3
    exact Or.inl ⟨v, (T.setVm vm₁).calling g' mk As.toArray, t, U', L, hT, X', hL, e1, e2, hq, st⟩
  · dsimp only [Pt.U, Pt.locs, Pt.cells, Pt.slots] at X' e1 e2 h1 h2 h3 st hcl
    subst h1; subst h2; subst h3
    exact Or.inr ⟨q, (T.setVm vm₁).calling g' mk As.toArray, t, U', L, E, ce, hT, X', hL, e1, e2, hq, hce, hcv, vx_cls hW₁ hcl, st⟩
end Runs
section Rows
variable {p : Program} {l : Launch} {e : Env} {R : Room} {s : State} {m : MethodId} {args : Array Value} {below : List Frame} {meth : Method} {c : Code} {H : Heap} {locs : List Loc} {cells slots : Nat} {Q : State → Prop}
variable {mc ms : Nat} {free : Addr → Prop} {A0 A1 : Nat → Prop} {H0 : Heap} {a : Array Value} {pc : Nat} {ls : Array Slot} {st0 rest : List Value}
theorem vx_keep {st₀ t T' : State} {L : List Loc} (h0 : st₀.heap = H) (e1 : T'.heap = t.heap) (hS : va_S A0 H0 H locs) (hA : ∀ q, q < H.size → A1 q → A0 q) (hf : ∀ q, free q → A0 q) (hL : ∀ q ∈ L, free q.base) (hF : va_F A1 st₀ t) :
    H.size ≤ T'.heap.size ∧ (∀ q : Nat, q < H.size → ¬ A1 q → T'.heap[q]? = H[q]?) ∧ va_S A0 H0 T'.heap (locs ++ L) := by
  obtain ⟨hz, hk⟩ := hF
  rw [h0] at hz hk
  exact ⟨by rw [e1]; exact hz, fun q h1 h2 => by rw [e1]; exact hk q h1 h2,
    ⟨Nat.le_trans hS.1 (by rw [e1]; exact hz), fun q h1 h2 => by rw [e1, hk q (Nat.lt_of_lt_of_le h1 hS.1) (fun z => h2 (hA q (Nat.lt_of_lt_of_le h1 hS.1) z))]; exact hS.2.1 q h1 h2, fun q hq => by
      rcases List.mem_append.mp hq with h | h
      · exact hS.2.2 q h
      · exact hf _ (hL q h)⟩⟩
theorem vx_calli {S SX : Type} {post : Int32 → S → Prop} {px : SX → Prop} {B : S → State → Prop} {BX : String → SX → State → Prop} {AX : Nat → Prop} (hr : vx_Run p l e R s m args below meth c H locs cells slots mc ms (F0 m pc ls st0) rest (va_Qi post B A1 a) (vx_X px BX AX) free) (hS : va_S A0 H0 H locs) (hA : ∀ q, q < H.size → A1 q → A0 q) (hf : ∀ q, free q → A0 q) (hAX : ∀ q, q < H.size → AX q → A0 q)
    (kx : ∀ (E : String) (ce : Cell) (q9 : Addr) (u : SX) (t : State) (H1 : Heap) (locs1 : List Loc), t.heap = H1 → s.vm.Alike t.vm → px u → BX E u t → H.size ≤ H1.size → (∀ q : Nat, q < H.size → ¬ AX q → H1[q]? = H[q]?) → va_S A0 H0 H1 locs1 → H1[q9]? = some ce → ce.vm = .none → s.vm.findClass E = some ce.cls → vx_W p l e R s m args below meth c H1 locs1 (cells + mc) (slots + ms) Q (F0 m pc ls rest) q9)
    (kk : ∀ (r : Int32) (u : S) (t : State) (H1 : Heap) (locs1 : List Loc), t.heap = H1 → s.vm.Alike t.vm → post r u → B u t → H.size ≤ H1.size → (∀ q : Nat, q < H.size → ¬ A1 q → H1[q]? = H[q]?) → va_S A0 H0 H1 locs1 → W p l e R s m args below meth c H1 locs1 (cells + mc) (slots + ms) Q (F0 m (pc + 3) ls (.int r :: rest))) : W p l e R s m args below meth c H locs cells slots Q (F0 m pc ls st0) := by
  intro T hT X
  rcases hr T hT X with ⟨v, st₀, t, T', L, h0, X', hL, e1, e2, ⟨⟨r, u, hv, hp, hb⟩, hF⟩, st⟩ | ⟨q, st₀, t, T', L, E, ce, h0, X', hL, e1, e2, ⟨u, hp, hb, hF⟩, hce, hcv, hcl, st⟩
  · cases hv
    obtain ⟨k1, k2, k3⟩ := vx_keep h0 e1 hS hA hf hL hF
    obtain ⟨t2, a1, b1⟩ := kk r u t T'.heap (locs ++ L) e1.symm (by rw [← e2]; exact X'.warmed.alike) hp hb k1 k2 k3 T' rfl X'
    exact ⟨t2, st t2 a1, b1⟩
  · obtain ⟨k1, k2, k3⟩ := vx_keep h0 e1 hS hAX hf hL hF
    obtain ⟨t2, a1, b1⟩ := kx E ce q u t T'.heap (locs ++ L) e1.symm (by rw [← e2]; exact X'.warmed.alike) hp hb k1 k2 k3 (by rw [e1]; exact hce) hcv hcl T' rfl X'
    exact ⟨t2, st.trans a1, b1⟩
theorem vx_calll {S SX : Type} {post : Int64 → S → Prop} {px : SX → Prop} {B : S → State → Prop} {BX : String → SX → State → Prop} {AX : Nat → Prop} (hr : vx_Run p l e R s m args below meth c H locs cells slots mc ms (F0 m pc ls st0) rest (va_Ql post B A1 a) (vx_X px BX AX) free) (hS : va_S A0 H0 H locs) (hA : ∀ q, q < H.size → A1 q → A0 q) (hf : ∀ q, free q → A0 q) (hAX : ∀ q, q < H.size → AX q → A0 q)
    (kx : ∀ (E : String) (ce : Cell) (q9 : Addr) (u : SX) (t : State) (H1 : Heap) (locs1 : List Loc), t.heap = H1 → s.vm.Alike t.vm → px u → BX E u t → H.size ≤ H1.size → (∀ q : Nat, q < H.size → ¬ AX q → H1[q]? = H[q]?) → va_S A0 H0 H1 locs1 → H1[q9]? = some ce → ce.vm = .none → s.vm.findClass E = some ce.cls → vx_W p l e R s m args below meth c H1 locs1 (cells + mc) (slots + ms) Q (F0 m pc ls rest) q9)
    (kk : ∀ (r : Int64) (u : S) (t : State) (H1 : Heap) (locs1 : List Loc), t.heap = H1 → s.vm.Alike t.vm → post r u → B u t → H.size ≤ H1.size → (∀ q : Nat, q < H.size → ¬ A1 q → H1[q]? = H[q]?) → va_S A0 H0 H1 locs1 → W p l e R s m args below meth c H1 locs1 (cells + mc) (slots + ms) Q (F0 m (pc + 3) ls (.long r :: rest))) : W p l e R s m args below meth c H locs cells slots Q (F0 m pc ls st0) := by
  intro T hT X
  rcases hr T hT X with ⟨v, st₀, t, T', L, h0, X', hL, e1, e2, ⟨⟨r, u, hv, hp, hb⟩, hF⟩, st⟩ | ⟨q, st₀, t, T', L, E, ce, h0, X', hL, e1, e2, ⟨u, hp, hb, hF⟩, hce, hcv, hcl, st⟩
  · cases hv
    obtain ⟨k1, k2, k3⟩ := vx_keep h0 e1 hS hA hf hL hF
    obtain ⟨t2, a1, b1⟩ := kk r u t T'.heap (locs ++ L) e1.symm (by rw [← e2]; exact X'.warmed.alike) hp hb k1 k2 k3 T' rfl X'
    exact ⟨t2, st t2 a1, b1⟩
  · obtain ⟨k1, k2, k3⟩ := vx_keep h0 e1 hS hAX hf hL hF
    obtain ⟨t2, a1, b1⟩ := kx E ce q u t T'.heap (locs ++ L) e1.symm (by rw [← e2]; exact X'.warmed.alike) hp hb k1 k2 k3 (by rw [e1]; exact hce) hcv hcl T' rfl X'
    exact ⟨t2, st.trans a1, b1⟩
theorem vx_callf {S SX : Type} {post : UInt32 → S → Prop} {px : SX → Prop} {B : S → State → Prop} {BX : String → SX → State → Prop} {AX : Nat → Prop} (hr : vx_Run p l e R s m args below meth c H locs cells slots mc ms (F0 m pc ls st0) rest (va_Qf post B A1 a) (vx_X px BX AX) free) (hS : va_S A0 H0 H locs) (hA : ∀ q, q < H.size → A1 q → A0 q) (hf : ∀ q, free q → A0 q) (hAX : ∀ q, q < H.size → AX q → A0 q)
    (kx : ∀ (E : String) (ce : Cell) (q9 : Addr) (u : SX) (t : State) (H1 : Heap) (locs1 : List Loc), t.heap = H1 → s.vm.Alike t.vm → px u → BX E u t → H.size ≤ H1.size → (∀ q : Nat, q < H.size → ¬ AX q → H1[q]? = H[q]?) → va_S A0 H0 H1 locs1 → H1[q9]? = some ce → ce.vm = .none → s.vm.findClass E = some ce.cls → vx_W p l e R s m args below meth c H1 locs1 (cells + mc) (slots + ms) Q (F0 m pc ls rest) q9)
    (kk : ∀ (r : UInt32) (u : S) (t : State) (H1 : Heap) (locs1 : List Loc), t.heap = H1 → s.vm.Alike t.vm → post r u → B u t → H.size ≤ H1.size → (∀ q : Nat, q < H.size → ¬ A1 q → H1[q]? = H[q]?) → va_S A0 H0 H1 locs1 → W p l e R s m args below meth c H1 locs1 (cells + mc) (slots + ms) Q (F0 m (pc + 3) ls (.float r :: rest))) : W p l e R s m args below meth c H locs cells slots Q (F0 m pc ls st0) := by
  intro T hT X
  rcases hr T hT X with ⟨v, st₀, t, T', L, h0, X', hL, e1, e2, ⟨⟨r, u, hv, hp, hb⟩, hF⟩, st⟩ | ⟨q, st₀, t, T', L, E, ce, h0, X', hL, e1, e2, ⟨u, hp, hb, hF⟩, hce, hcv, hcl, st⟩
  · cases hv
    obtain ⟨k1, k2, k3⟩ := vx_keep h0 e1 hS hA hf hL hF
    obtain ⟨t2, a1, b1⟩ := kk r u t T'.heap (locs ++ L) e1.symm (by rw [← e2]; exact X'.warmed.alike) hp hb k1 k2 k3 T' rfl X'
    exact ⟨t2, st t2 a1, b1⟩
  · obtain ⟨k1, k2, k3⟩ := vx_keep h0 e1 hS hAX hf hL hF
    obtain ⟨t2, a1, b1⟩ := kx E ce q u t T'.heap (locs ++ L) e1.symm (by rw [← e2]; exact X'.warmed.alike) hp hb k1 k2 k3 (by rw [e1]; exact hce) hcv hcl T' rfl X'
    exact ⟨t2, st.trans a1, b1⟩
theorem vx_calld {S SX : Type} {post : UInt64 → S → Prop} {px : SX → Prop} {B : S → State → Prop} {BX : String → SX → State → Prop} {AX : Nat → Prop} (hr : vx_Run p l e R s m args below meth c H locs cells slots mc ms (F0 m pc ls st0) rest (va_Qd post B A1 a) (vx_X px BX AX) free) (hS : va_S A0 H0 H locs) (hA : ∀ q, q < H.size → A1 q → A0 q) (hf : ∀ q, free q → A0 q) (hAX : ∀ q, q < H.size → AX q → A0 q)
    (kx : ∀ (E : String) (ce : Cell) (q9 : Addr) (u : SX) (t : State) (H1 : Heap) (locs1 : List Loc), t.heap = H1 → s.vm.Alike t.vm → px u → BX E u t → H.size ≤ H1.size → (∀ q : Nat, q < H.size → ¬ AX q → H1[q]? = H[q]?) → va_S A0 H0 H1 locs1 → H1[q9]? = some ce → ce.vm = .none → s.vm.findClass E = some ce.cls → vx_W p l e R s m args below meth c H1 locs1 (cells + mc) (slots + ms) Q (F0 m pc ls rest) q9)
    (kk : ∀ (r : UInt64) (u : S) (t : State) (H1 : Heap) (locs1 : List Loc), t.heap = H1 → s.vm.Alike t.vm → post r u → B u t → H.size ≤ H1.size → (∀ q : Nat, q < H.size → ¬ A1 q → H1[q]? = H[q]?) → va_S A0 H0 H1 locs1 → W p l e R s m args below meth c H1 locs1 (cells + mc) (slots + ms) Q (F0 m (pc + 3) ls (.double r :: rest))) : W p l e R s m args below meth c H locs cells slots Q (F0 m pc ls st0) := by
  intro T hT X
  rcases hr T hT X with ⟨v, st₀, t, T', L, h0, X', hL, e1, e2, ⟨⟨r, u, hv, hp, hb⟩, hF⟩, st⟩ | ⟨q, st₀, t, T', L, E, ce, h0, X', hL, e1, e2, ⟨u, hp, hb, hF⟩, hce, hcv, hcl, st⟩
  · cases hv
    obtain ⟨k1, k2, k3⟩ := vx_keep h0 e1 hS hA hf hL hF
    obtain ⟨t2, a1, b1⟩ := kk r u t T'.heap (locs ++ L) e1.symm (by rw [← e2]; exact X'.warmed.alike) hp hb k1 k2 k3 T' rfl X'
    exact ⟨t2, st t2 a1, b1⟩
  · obtain ⟨k1, k2, k3⟩ := vx_keep h0 e1 hS hAX hf hL hF
    obtain ⟨t2, a1, b1⟩ := kx E ce q u t T'.heap (locs ++ L) e1.symm (by rw [← e2]; exact X'.warmed.alike) hp hb k1 k2 k3 (by rw [e1]; exact hce) hcv hcl T' rfl X'
    exact ⟨t2, st.trans a1, b1⟩
theorem vx_callv {S SX : Type} {post : S → Prop} {px : SX → Prop} {B : S → State → Prop} {BX : String → SX → State → Prop} {AX : Nat → Prop} (hr : vx_Run p l e R s m args below meth c H locs cells slots mc ms (F0 m pc ls st0) rest (va_Qv post B A1 a) (vx_X px BX AX) free) (hS : va_S A0 H0 H locs) (hA : ∀ q, q < H.size → A1 q → A0 q) (hf : ∀ q, free q → A0 q) (hAX : ∀ q, q < H.size → AX q → A0 q)
    (kx : ∀ (E : String) (ce : Cell) (q9 : Addr) (u : SX) (t : State) (H1 : Heap) (locs1 : List Loc), t.heap = H1 → s.vm.Alike t.vm → px u → BX E u t → H.size ≤ H1.size → (∀ q : Nat, q < H.size → ¬ AX q → H1[q]? = H[q]?) → va_S A0 H0 H1 locs1 → H1[q9]? = some ce → ce.vm = .none → s.vm.findClass E = some ce.cls → vx_W p l e R s m args below meth c H1 locs1 (cells + mc) (slots + ms) Q (F0 m pc ls rest) q9)
    (kk : ∀ (u : S) (t : State) (H1 : Heap) (locs1 : List Loc), t.heap = H1 → s.vm.Alike t.vm → post u → B u t → H.size ≤ H1.size → (∀ q : Nat, q < H.size → ¬ A1 q → H1[q]? = H[q]?) → va_S A0 H0 H1 locs1 → W p l e R s m args below meth c H1 locs1 (cells + mc) (slots + ms) Q (F0 m (pc + 3) ls (rest))) : W p l e R s m args below meth c H locs cells slots Q (F0 m pc ls st0) := by
  intro T hT X
  rcases hr T hT X with ⟨v, st₀, t, T', L, h0, X', hL, e1, e2, ⟨⟨u, hv, hp, hb⟩, hF⟩, st⟩ | ⟨q, st₀, t, T', L, E, ce, h0, X', hL, e1, e2, ⟨u, hp, hb, hF⟩, hce, hcv, hcl, st⟩
  · cases hv
    obtain ⟨k1, k2, k3⟩ := vx_keep h0 e1 hS hA hf hL hF
    obtain ⟨t2, a1, b1⟩ := kk u t T'.heap (locs ++ L) e1.symm (by rw [← e2]; exact X'.warmed.alike) hp hb k1 k2 k3 T' rfl X'
    exact ⟨t2, st t2 a1, b1⟩
  · obtain ⟨k1, k2, k3⟩ := vx_keep h0 e1 hS hAX hf hL hF
    obtain ⟨t2, a1, b1⟩ := kx E ce q u t T'.heap (locs ++ L) e1.symm (by rw [← e2]; exact X'.warmed.alike) hp hb k1 k2 k3 (by rw [e1]; exact hce) hcv hcl T' rfl X'
    exact ⟨t2, st.trans a1, b1⟩
/-- caught by the row x of this method's table; the rows ahead don't take it -/
theorem vx_catch {own name : String} {E : String} {ce : Cell} {q : Addr} (hown : s.vm.findClass own = some m.cls) (pre : List ExceptionTableEntry) (x : ExceptionTableEntry) (suf : List ExceptionTableEntry) (hsplit : c.exceptionTable.toList = pre ++ x :: suf)
    (hpass : ∀ z ∈ pre, covers z pc = false ∨ (z.catchType ≠ 0 ∧ ∃ nm : String, (Cond.classLink own z.catchType nm).before args s = true ∧ va_Nc E nm s)) (hx : covers x pc = true) (h0 : x.catchType ≠ 0)
    (hlink : (Cond.classLink own x.catchType name).before args s = true) (hcast : (Cond.castable E name).before args s = true) (hcell : H[q]? = some ce) (hv : ce.vm = .none) (hcl : s.vm.findClass E = some ce.cls)
    (kk : W p l e R s m args below meth c H locs cells slots Q (F0 m x.handlerPc ls [.ref q])) : vx_W p l e R s m args below meth c H locs cells slots Q (F0 m pc ls rest) q := by
  intro T hT X
  have hpl : e.platform.magicAccessors = ({} : Platform).magicAccessors := by rw [X.admits.platform]
  obtain ⟨c3, c4, hc3, hc4, hasg⟩ := Cond.castable_spec hcast
  cases Option.some.inj (hc3.symm.trans hcl)
  obtain ⟨c5, hc5, hcl5⟩ := Cond.classLink_spec hown hlink e.platform hpl
  cases Option.some.inj (hc4.symm.trans hc5)
  obtain ⟨vm', X', st⟩ := X.thenCaughtThrough q (g := F0 m pc ls rest) rfl (Steps.refl _) (by rw [hT]; exact hcell) (by rw [hv]; rfl) (by obtain ⟨k9, h9, -⟩ := Vm.findClass_spec hcl; exact ⟨k9, h9⟩) pre x suf hsplit
    (fun z hz => by
      rcases hpass z hz with h | ⟨hz0, nm, hl1, hn1⟩
      · exact Or.inl h
      · obtain ⟨c6, hc6, hcl6⟩ := Cond.classLink_spec hown hl1 e.platform hpl
        obtain ⟨a8, b8, h1, h2, h3⟩ := hn1
        cases Option.some.inj (h1.symm.trans hcl)
        cases Option.some.inj (h2.symm.trans hc6)
        exact Or.inr ⟨hz0, _, hcl6, h3⟩) hx (Or.inr ⟨h0, c4, hcl5, hasg⟩)
  obtain ⟨t, a1, b1⟩ := kk (T.setVm vm') hT X'
  exact ⟨t, st.trans a1, b1⟩
end Rows
section Ends
variable {p : Program} {l : Launch} {e : Env} {R : Room} {s : State} {m : MethodId} {args : Array Value} {below : List Frame} {meth : Method} {c : Code} {H : Heap} {locs : List Loc} {cells slots : Nat} {Q : State → Prop}
variable {mc ms : Nat} {free : Addr → Prop} {A0 A1 : Nat → Prop} {H0 : Heap} {a : Array Value} {ls : Array Slot} {st0 rest : List Value}
variable {Qc : Array Value → State → Outcome → State → Prop} {XC : String → State → State → Prop}
/-- what a body that may throw owes at its end -/
def vx_MQ (below : List Frame) (Qc : Array Value → State → Outcome → State → Prop) (XC : String → State → State → Prop) (a : Array Value) (s : State) (mc ms : Nat) (free : Addr → Prop) : State → Prop := fun t =>
  ∃ o, t.status = .running ∧ Ended t below o ∧ vx_Q Qc XC mc ms free a s o t
theorem vx_ret {g : JFrame} {mc ms : Nat} (k : W p l e R s m args below meth c H locs cells slots (MQ below Qc args s mc ms free) g) : W p l e R s m args below meth c H locs cells slots (vx_MQ below Qc XC args s mc ms free) g := by
  intro T hT X
  obtain ⟨t, a1, o, b1, b2, b3, b4⟩ := k T hT X
  exact ⟨t, a1, o, b1, b2, Or.inl ⟨b3, b4⟩⟩
/-- not caught here: it goes on to the caller -/
theorem vx_widen {g : JFrame} {q : Addr} {k n : Nat} (h1 : cells ≤ k) (h2 : slots ≤ n) (kk : vx_W p l e R s m args below meth c H locs k n Q g q) : vx_W p l e R s m args below meth c H locs cells slots Q g q := fun T hT X => kk T hT (stand_widen X h1 h2)
theorem vx_out {pc : Nat} {E : String} {ce : Cell} {q : Addr} {mc ms : Nat} (hout : ∀ x ∈ c.exceptionTable.toList, covers x pc = false) (hlocks : meth.locks = false) (hcell : H[q]? = some ce) (hv : ce.vm = .none) (hcl : s.vm.findClass E = some ce.cls)
    (hx : ∀ t : State, t.heap = H → s.vm.Alike t.vm → XC E s t) (hf : ∀ z ∈ locs, free z.base) (hc : cells ≤ mc) (hs : slots ≤ ms) :
    vx_W p l e R s m args below meth c H locs cells slots (vx_MQ below Qc XC args s mc ms free) (F0 m pc ls rest) q := by
  intro T hT X
  obtain ⟨st1, hrun, hend, hW, hsm⟩ := X.leaveThrown q (g := F0 m pc ls rest) rfl rfl rfl hout hlocks
  have hcell9 : (T.setFrames (.throwing q :: below)).heap[q]? = some ce := by
    show T.heap[q]? = some ce
    rw [hT]; exact hcell
  exact ⟨_, st1, .threw q, hrun, hend, Or.inr ⟨q, rfl, E, ce, locs, hx _ hT hW.alike, hcell9, hv, hcl, hW, hsm.mono hc hs, hf⟩⟩
theorem vx_frame {U : State} {k n : Nat} (h : s.sameButNew ({ U with vm := s.vm } : State) locs k n) : s.heap.size ≤ U.heap.size ∧ ∀ q : Nat, q < s.heap.size → (∀ z ∈ locs, z.base ≠ q) → U.heap[q]? = s.heap[q]? := by
  obtain ⟨-, h2, -, -, -, h6⟩ := h
  refine ⟨h2, fun q hq hz => ?_⟩
  obtain ⟨c9, e1, e2, e3, e4⟩ := h6 q _ (Array.getElem?_eq_getElem hq)
  have hs : c9.slots = (s.heap[q]).slots := Array.ext_getElem? fun i => e4 i fun hm => hz _ hm rfl
  have h9 : c9 = s.heap[q] := by
    rw [hs] at e2
    exact e2
  have e5 : U.heap[q]? = some c9 := e1
  rw [e5, h9, Array.getElem?_eq_getElem hq]
/-- the words of a throw but the four that speak of the heap -/
def vx_no (w : Cond) : Bool := decide (w ≠ .isRef (.static Bundle.tN "UNASSIGNED_STACK" Bundle.steD)) && decide (w ≠ .isRef (.static Bundle.tN "SUPPRESSED_SENTINEL" Bundle.listD)) && decide (w ≠ .laysStatic Bundle.tN "UNASSIGNED_STACK" Bundle.steD) && decide (w ≠ .laysStatic Bundle.tN "SUPPRESSED_SENTINEL" Bundle.listD)
def vx_at0 (own : String) (ic : Nat) (X : String) (names : List String) : List Cond := (Bundle.ownAtoms0 own ic X names).filter vx_no
def vx_atS (own : String) (ic : Nat) (X : String) (names : List String) : List Cond := (Bundle.ownAtoms own ic X names).filter vx_no
/-- a word that the tables alone decide, or a good one -/
def vx_ot (w : Cond) : Bool := w.onTables || goodWord w
theorem vx_ot_at {args a' : Array Value} {s U : State} {w : Cond} (hW : s.WarmedH U.vm) (hvm : s.vm = U.vm) (hg : vx_ot w = true) (h : w.before args s = true) : w.before a' U = true := by
  simp only [vx_ot, Bool.or_eq_true] at hg
  rcases hg with hg | hg
  · exact va_tabs hg hvm h
  · exact word_at hW (good_of_word hg) h
/-- a list's words: the good ones out of the method's own list, the others by premises of their own -/
theorem vx_hat {args : Array Value} {s : State} {L B : List Cond} (h1 : ∀ w ∈ L.filter goodWord, w.before args s = true) (h2 : ∀ w ∈ L.filter (fun w => !goodWord w), w ∈ B) (h3 : ∀ w ∈ B, w.before args s = true) : ∀ w ∈ L, w.before args s = true := by
  intro w hw
  by_cases g : goodWord w = true
  · exact h1 w (List.mem_filter.mpr ⟨hw, g⟩)
  · refine h3 w (h2 w (List.mem_filter.mpr ⟨hw, ?_⟩))
    show (!goodWord w) = true
    cases hgw : goodWord w
    · rfl
    · exact absurd hgw g
theorem vx_c {args : Array Value} {s : State} {w : Cond} {B : List Cond} (h : w.before args s = true) (t : ∀ w ∈ B, w.before args s = true) : ∀ w' ∈ w :: B, w'.before args s = true := fun w' h' => (List.mem_cons.mp h').elim (fun e => by rw [e]; exact h) (t w')
theorem vx_n {args : Array Value} {s : State} : ∀ w ∈ ([] : List Cond), w.before args s = true := fun _ h => nomatch h
theorem vx_own {args : Array Value} {s : State} {L : List Cond} (h1 : ∀ w ∈ L.filter vx_no, w.before args s = true)
    (hU : (Cond.isRef (.static Bundle.tN "UNASSIGNED_STACK" Bundle.steD)).before args s = true) (hN : (Cond.isRef (.static Bundle.tN "SUPPRESSED_SENTINEL" Bundle.listD)).before args s = true)
    (lU : (Cond.laysStatic Bundle.tN "UNASSIGNED_STACK" Bundle.steD).before args s = true) (lN : (Cond.laysStatic Bundle.tN "SUPPRESSED_SENTINEL" Bundle.listD).before args s = true) : ∀ w ∈ L, w.before args s = true := by
  intro w hw
  by_cases e1 : w = .isRef (.static Bundle.tN "UNASSIGNED_STACK" Bundle.steD)
  · rw [e1]; exact hU
  · by_cases e2 : w = .isRef (.static Bundle.tN "SUPPRESSED_SENTINEL" Bundle.listD)
    · rw [e2]; exact hN
    · by_cases e3 : w = .laysStatic Bundle.tN "UNASSIGNED_STACK" Bundle.steD
      · rw [e3]; exact lU
      · by_cases e4 : w = .laysStatic Bundle.tN "SUPPRESSED_SENTINEL" Bundle.listD
        · rw [e4]; exact lN
        · exact h1 w (List.mem_filter.mpr ⟨hw, by unfold vx_no; rw [decide_eq_true e1, decide_eq_true e2, decide_eq_true e3, decide_eq_true e4]; rfl⟩)
/-- where a static field lies, its class's statics cell in H -/
def vx_L (C n d : String) (A : Nat → Prop) (U : State) (H : Heap) : Prop := ∃ (c : ClassId) (k : Class) (i : Nat) (f : Field) (a : Nat) (cell : Cell), U.vm.findClass C = some c ∧ U.fieldFound? C n d = some (c, k, i, f) ∧ f.isStatic = true ∧ k.statics = some a ∧ H[a]? = some cell ∧ cell.vm.isStatics = true ∧ cell.cls = c ∧ f.slot < cell.slots.size ∧ k.staticTypes[f.slot]? = some f.type ∧ ¬ A a
theorem vx_L.moved {C n d : String} {A : Nat → Prop} {u U : State} {H : Heap} (hvm : u.vm.Alike U.vm) (h : vx_L C n d A u H) : vx_L C n d A U H := by
  obtain ⟨c, k, i, f, a, cell, h1, h2, h3, h4, h5, h6, h7, h8, h9, h10⟩ := h
  obtain ⟨k', hi', he⟩ := State.fieldFound?_setVm hvm h2
  exact ⟨c, k', i, f, a, cell, by rw [hvm.findClass]; exact h1, hi', h3, by rw [he]; exact h4, h5, h6, h7, h8, by rw [he]; exact h9, h10⟩
theorem vx_L.kept {C n d : String} {A : Nat → Prop} {U : State} {H H1 : Heap} (h : vx_L C n d A U H) (hq : ∀ a : Nat, a < H.size → ¬ A a → H1[a]? = H[a]?) : vx_L C n d A U H1 := by
  obtain ⟨c, k, i, f, a, cell, h1, h2, h3, h4, h5, h6, h7, h8, h9, h10⟩ := h
  exact ⟨c, k, i, f, a, cell, h1, h2, h3, h4, by rw [hq a (Array.getElem?_eq_some_iff.mp h5).1 h10]; exact h5, h6, h7, h8, h9, h10⟩
theorem vx_L.narrow {C n d : String} {A B : Nat → Prop} {U : State} {H : Heap} (h : vx_L C n d A U H) (hAB : ∀ q, B q → A q) : vx_L C n d B U H := by
  obtain ⟨c, k, i, f, a, cell, h1, h2, h3, h4, h5, h6, h7, h8, h9, h10⟩ := h
  exact ⟨c, k, i, f, a, cell, h1, h2, h3, h4, h5, h6, h7, h8, h9, fun z => h10 (hAB _ z)⟩
theorem vx_L.word {C n d : String} {A : Nat → Prop} {s : State} {args : Array Value} (h : vx_L C n d A s s.heap) : (Cond.laysStatic C n d).before args s = true := by
  obtain ⟨c, k, i, f, a, cell, h1, h2, h3, h4, h5, h6, h7, h8, h9, -⟩ := h
  show (Cond.laysStatic C n d).holds args s none s [] = true
  exact Cond.laysStatic_of h1 h2 h3 h4 h5 h6 h7 h8 h9
/-- .. and what it holds: null or some reference -/
def vx_Zq (C n d : String) (A : Nat → Prop) (U : State) (H : Heap) : Prop := va_Zq C n d A U H ∧ vx_L C n d A U H
theorem vx_Zq.moved {C n d : String} {A : Nat → Prop} {u U : State} {H : Heap} (hvm : u.vm.Alike U.vm) (h : vx_Zq C n d A u H) : vx_Zq C n d A U H := ⟨va_Zq.moved hvm h.1, vx_L.moved hvm h.2⟩
theorem vx_Zq.kept {C n d : String} {A : Nat → Prop} {U : State} {H H1 : Heap} (h : vx_Zq C n d A U H) (hq : ∀ a : Nat, a < H.size → ¬ A a → H1[a]? = H[a]?) : vx_Zq C n d A U H1 := ⟨va_Zq.kept h.1 hq, vx_L.kept h.2 hq⟩
theorem vx_Zq.narrow {C n d : String} {A B : Nat → Prop} {U : State} {H : Heap} (h : vx_Zq C n d A U H) (hAB : ∀ q, B q → A q) : vx_Zq C n d B U H := ⟨va_Zq.narrow h.1 hAB, vx_L.narrow h.2 hAB⟩
theorem vx_Zqof {args : Array Value} {s : State} {C n d : String} {A : Nat → Prop} (hl : (Cond.laysStatic C n d).before args s = true) (hini : (Cond.initialized C).before args s = true) (h : (Cond.isRef (.static C n d)).before args s = true) (hA : ∀ a : Nat, a < s.heap.size → ¬ A a) : vx_Zq C n d A s s.heap := by
  refine ⟨va_Zqof hl hini h hA, ?_⟩
  obtain ⟨c, k, i, f, a, cell, h1, h2, h3, h4, h5, h6, h7, h8, h9⟩ := Cond.laysStatic_spec hl
  exact ⟨c, k, i, f, a, cell, h1, h2, h3, h4, h5, h6, h7, h8, h9, hA a (Array.getElem?_eq_some_iff.mp h5).1⟩
theorem vx_isRef {C n d : String} {v : Value} {A : Nat → Prop} {s : State} {args : Array Value} (h : va_Z C n d v A s s.heap) (hv : v.isRef = true) : (Cond.isRef (.static C n d)).before args s = true := by
  obtain ⟨cf, kf, fi, f, a, cell, h1, h2, h3, h4, h5, h6, h7, -⟩ := h
  have he : (Term.static C n d).eval args s none [] s = some v := by
    simp [Term.eval, State.fieldNamed?, h1, h2, h4, h5, h6, h7]
  simp only [Cond.before, Cond.holds, Cond.value, he]
  cases v <;> simp_all [Value.isRef]
theorem vx_isRefq {C n d : String} {A : Nat → Prop} {s : State} {args : Array Value} (h : va_Zq C n d A s s.heap) : (Cond.isRef (.static C n d)).before args s = true := by
  rcases h with h | ⟨t, h⟩
  · exact vx_isRef h rfl
  · exact vx_isRef h rfl
/-- the same frame, seen from here: as if the method were called anew in this heap -/
theorem vx_rebase {T : State} (X : Stand p l e R s m args below meth c T locs cells slots) {R' : Room} (hf : R'.frames ≤ R.frames) (hl : R'.locals ≤ R.locals) (hc : cells + R'.cells ≤ R.cells) (hs : slots + R'.slots ≤ R.slots) :
    Stand p l e R' ((T.setVm s.vm).setFrames (.invoking m args :: below)) m args below meth c T [] 0 0 := by
  have htop : (T.setVm s.vm).topJava?.isSome := X.here.top
  have hF : ((T.setVm s.vm).setFrames (.invoking m args :: below)).frames = .invoking m args :: below := State.frames_setFrames _ (State.cur_lt_of_top htop)
  obtain ⟨g₀, hg0⟩ := Option.isSome_iff_exists.mp htop
  obtain ⟨r, hr⟩ := State.topJava?_eq_some.mp hg0
  have hl9 : e.platform.stackLimits (T.setVm s.vm).me = e.platform.stackLimits s.me := X.limits
  have hb9 : (T.setVm s.vm).me.stackBytes = s.me.stackBytes := X.bytes
  refine ⟨X.admits, X.cas, X.clock, hF, ?_, X.hears, X.method, X.code, X.here, X.tail, X.warmed, ?_, ?_, ?_⟩
  · have h := X.room
    have hU : ((T.setVm s.vm).setFrames (.invoking m args :: below)).localsInUse = s.localsInUse := by
      rw [State.localsInUse_invoking hF (meth := meth) (c := c) X.method X.code, State.localsInUse_invoking X.frames X.method X.code]
    simp only [State.hasRoom, Bool.and_eq_true, decide_eq_true_eq] at h ⊢
    obtain ⟨⟨⟨⟨h1, h2, h3, h4, h5, h6⟩, h7⟩, h8⟩, h9⟩ := h
    rw [X.frames, List.length_cons] at h2 h3
    have q1 := X.heapSize
    have q2 := X.used
    simp only [hF, hU, List.length_cons, State.stackLimits_setFrames, State.stackBytes_setFrames, hl9, hb9]
    refine ⟨⟨⟨⟨by omega, by omega, by omega, by omega, by omega, h6⟩, ?_⟩, ?_⟩, X.book⟩
    · show T.heap.size + R'.cells ≤ e.platform.maxCells
      omega
    · show T.slotsUsed + R'.slots ≤ e.platform.maxSlots
      omega
  · rw [State.stackLimits_setFrames]; rfl
  · rw [State.stackBytes_setFrames]; rfl
  · refine ⟨?_, Nat.le_refl _, Nat.le_refl _, ?_, ?_, fun a c9 h9 => ⟨c9, h9, rfl, rfl, fun _ _ => rfl⟩⟩
    · obtain ⟨t, ht, -⟩ := State.frames_cons hr
      show T.setVm s.vm = { ((T.setVm s.vm).setFrames (.invoking m args :: below)).setFrames (T.setVm s.vm).frames with heap := T.heap, slotsUsed := T.slotsUsed }
      rw [State.setFrames_setFrames, State.setFrames_self ht]
      rfl
    · show T.slotsUsed = T.slotsUsed + ((T.heap.toList.drop T.heap.size).map (·.slots.size)).sum
      rw [List.drop_eq_nil_of_le (Nat.le_of_eq Array.length_toList)]
      rfl
    · show ((T.heap.toList.drop T.heap.size).map (·.slots.size)).sum ≤ 0
      rw [List.drop_eq_nil_of_le (Nat.le_of_eq Array.length_toList)]
      exact Nat.le_refl _
/-- 'throw new E()': new; dup; invokespecial; athrow -/
theorem vx_throw0 {cc : ByteArray} {pc : Nat} (hexec : p.tables.exec = Jvm.exec) (hb : c.code = cc) (hl : l.stackTraces = false) {own cls : String} {names : List String} {ik ic mc ms : Nat} {A : Nat → Prop}
    (hown : s.vm.findClass own = some m.cls) (hcls : Bundle.fit cls = true) (hnames : ∀ n ∈ names, Bundle.fit n = true)
    (hk : (Cond.classLink own ik cls).before args s = true) (hini : (Cond.initialized cls).before args s = true) (hat : ∀ w ∈ vx_at0 own ic cls names, w.before args s = true)
    (hgood : ∀ w ∈ Cond.classLink own ik cls :: Cond.initialized cls :: vx_at0 own ic cls names, vx_ot w = true)
    (hU : vx_Zq Bundle.tN "UNASSIGNED_STACK" Bundle.steD A s s.heap) (hN : vx_Zq Bundle.tN "SUPPRESSED_SENTINEL" Bundle.listD A s s.heap) (hS : va_S A s.heap H locs) (hsize : ls.size = c.maxLocals)
    (d0 : decode cc pc = .ok (.new ik, 3)) (d3 : decode cc (pc + 3) = .ok (.dup, 1)) (d4 : decode cc (pc + 4) = .ok (.invokespecial ic, 3)) (d7 : decode cc (pc + 7) = .ok (.athrow, 1))
    (hout : ∀ x ∈ c.exceptionTable.toList, covers x (pc + 7) = false)
    (hRframes : names.length + 3 < R.frames) (hRlocals : (rest.map fun v => v.category).sum + (13 * (names.length + 1) + 42) ≤ R.locals) (hRcells : cells + 1 ≤ R.cells) (hRslots : slots + 6 ≤ R.slots) (hlocks : meth.locks = false)
    (hx : ∀ t : State, s.vm.Alike t.vm → H.size ≤ t.heap.size → (∀ q : Nat, q < H.size → t.heap[q]? = H[q]?) → XC cls s t)
    (hf : ∀ z ∈ locs, free z.base) (hc : cells + 1 ≤ mc) (hs : slots + 6 ≤ ms) :
    W p l e R s m args below meth c H locs cells slots (vx_MQ below Qc XC args s mc ms free) (F0 m pc ls rest) := by
  intro T hT X
  have htr : e.platform.stackTraces = false := (show e.platform.stackTraces = l.stackTraces by rw [X.admits.platform]).trans hl
  have Y := vx_rebase X (R' := { frames := R.frames, locals := R.locals, cells := 1, slots := 6 }) (Nat.le_refl _) (Nat.le_refl _) hRcells hRslots
  obtain ⟨s', hA⟩ : ∃ z, z = (T.setVm s.vm).setFrames (.invoking m args :: below) := ⟨_, rfl⟩
  rw [← hA] at Y
  have hvm : s'.vm = s.vm := by rw [hA]; rfl
  have hhp : s'.heap = H := by rw [hA]; exact hT
  have hW0 : s.WarmedH s'.vm := by rw [hvm]; exact State.WarmedH.refl s
  have hat' : ∀ w ∈ vx_at0 own ic cls names, w.before args s' = true := fun w hw => vx_ot_at hW0 hvm.symm (hgood w (List.mem_cons_of_mem _ (List.mem_cons_of_mem _ hw))) (hat w hw)
  have hk' : (Cond.classLink own ik cls).before args s' = true := vx_ot_at hW0 hvm.symm (hgood _ List.mem_cons_self) hk
  have hini' : (Cond.initialized cls).before args s' = true := vx_ot_at hW0 hvm.symm (hgood _ (List.mem_cons_of_mem _ List.mem_cons_self)) hini
  have hU' : vx_Zq Bundle.tN "UNASSIGNED_STACK" Bundle.steD A s' s'.heap := by rw [hhp]; exact vx_Zq.moved hW0.alike (hU.kept hS.2.1)
  have hN' : vx_Zq Bundle.tN "SUPPRESSED_SENTINEL" Bundle.listD A s' s'.heap := by rw [hhp]; exact vx_Zq.moved hW0.alike (hN.kept hS.2.1)
  have h : ∀ w ∈ Bundle.ownAtoms0 own ic cls names, w.before args s' = true := vx_own hat' (vx_isRefq hU'.1) (vx_isRefq hN'.1) hU'.2.word hN'.2.word
  have hown' : s'.vm.findClass own = some m.cls := by rw [hvm]; exact hown
  have hins : (Cond.instantiable cls 6).before args s' = true := h _ (by simp [Bundle.ownAtoms0])
  obtain ⟨vm₁, cX, kX, hfX, hkX, -, -, X₁, st1⟩ := Y.newCold hexec (own := own) (C := cls) (index := ik) (n := 6) hown' hk' hins hini'
    (g := F0 m pc ls rest) rfl (by rw [hb]; exact d0) (Nat.le_refl _) (Nat.le_refl _)
  generalize hT1 : (T.setVm vm₁).pushCell { cls := cX, slots := kX.instanceTypes.map defaultValue, vm := .none } = T1 at X₁ st1
  have hcat : (Value.ref T.heap.size).category = 1 := rfl
  have hcellA : T1.heap[T.heap.size]? = some (freshCell cX kX) := by rw [← hT1]; exact State.heap_pushCell_size _ _
  have d3' : decode c.code (pc + 3) = .ok (.dup, 1) := by rw [hb]; exact d3
  obtain ⟨U, hsteps, hrun, hend, hW, hsame, ce, hce, hO⟩ := X₁.ctorThrow0 hexec htr (own := own) (cls := cls) (names := names) (ic := ic) hown' hcls hnames h (fun x hx => nomatch hx) hfX hkX hcellA (by rw [hhp, hT]; exact Nat.le_refl _)
    (g := { method := m, pc := pc + 4, locals := ls, stack := .ref T.heap.size :: .ref T.heap.size :: rest, locked := none }) rfl hsize rfl rfl (rest := rest) rfl
    (by rw [hb]; exact d4) (by rw [hb]; exact d7) hout hRframes (by simp only [List.map_cons, List.sum_cons, hcat]; omega) hlocks
  obtain ⟨f1, f2⟩ := vx_frame hsame
  rw [hhp] at f1 f2
  have hWs : s.WarmedH U.vm := State.WarmedH.trans hW0 hW
  have hcl : s.vm.findClass cls = some ce.cls := by
    have h9 := hO.cls
    rw [hvm] at h9
    exact h9
  have hall : s.sameButNew ({ U with vm := s.vm } : State) locs mc ms := by
    subst hA
    obtain ⟨e1, e2⟩ := hsame
    rw [State.setFrames_setFrames] at e1
    have h2 : (T.setVm s.vm).sameButNew ({ U with vm := s.vm } : State) [] (0 + 1) (0 + 6) := ⟨e1, e2⟩
    have h3 := X.same.trans h2
    rw [List.append_nil] at h3
    exact h3.mono hc hs
  refine ⟨U, ?_, .threw T.heap.size, hrun, hend, Or.inr ⟨T.heap.size, rfl, cls, ce, locs, hx U hWs.alike f1 (fun q hq => f2 q hq (fun z hz => nomatch hz)), hce, hO.vm, hcl, hWs, hall, hf⟩⟩
  refine st1 _ ?_
  show Steps p.tables e below (T1.setTop { method := m, pc := pc + 3, locals := ls, stack := .ref T.heap.size :: rest, locked := none }) _
  jvm_step X₁.here [X₁.here.top, hexec, d3', Value.category]
  exact hsteps
/-- 'throw new E("text")': new; dup; ldc; invokespecial; athrow -/
theorem vx_throwS {cc : ByteArray} {pc : Nat} (hexec : p.tables.exec = Jvm.exec) (hb : c.code = cc) (hl : l.stackTraces = false) {own cls text : String} {names : List String} {ik is ic mc ms sa : Nat} {A : Nat → Prop}
    (hown : s.vm.findClass own = some m.cls) (hcls : Bundle.fit cls = true) (hnames : ∀ n ∈ names, Bundle.fit n = true)
    (hk : (Cond.classLink own ik cls).before args s = true) (hini : (Cond.initialized cls).before args s = true) (hstr : vk_R own is text sa s) (hat : ∀ w ∈ vx_atS own ic cls names, w.before args s = true)
    (hgood : ∀ w ∈ Cond.classLink own ik cls :: Cond.initialized cls :: vx_atS own ic cls names, vx_ot w = true)
    (hU : vx_Zq Bundle.tN "UNASSIGNED_STACK" Bundle.steD A s s.heap) (hN : vx_Zq Bundle.tN "SUPPRESSED_SENTINEL" Bundle.listD A s s.heap) (hS : va_S A s.heap H locs) (hsize : ls.size = c.maxLocals)
    (d0 : decode cc pc = .ok (.new ik, 3)) (d3 : decode cc (pc + 3) = .ok (.dup, 1)) (d4 : decode cc (pc + 4) = .ok (.ldc is, 2)) (d6 : decode cc (pc + 6) = .ok (.invokespecial ic, 3)) (d9 : decode cc (pc + 9) = .ok (.athrow, 1))
    (hout : ∀ x ∈ c.exceptionTable.toList, covers x (pc + 9) = false)
    (hRframes : names.length + 3 < R.frames) (hRlocals : (rest.map fun v => v.category).sum + (13 * (names.length + 1) + 43) ≤ R.locals) (hRcells : cells + 1 ≤ R.cells) (hRslots : slots + 6 ≤ R.slots) (hlocks : meth.locks = false)
    (hx : ∀ t : State, s.vm.Alike t.vm → H.size ≤ t.heap.size → (∀ q : Nat, q < H.size → t.heap[q]? = H[q]?) → XC cls s t)
    (hf : ∀ z ∈ locs, free z.base) (hc : cells + 1 ≤ mc) (hs : slots + 6 ≤ ms) :
    W p l e R s m args below meth c H locs cells slots (vx_MQ below Qc XC args s mc ms free) (F0 m pc ls rest) := by
  intro T hT X
  have htr : e.platform.stackTraces = false := (show e.platform.stackTraces = l.stackTraces by rw [X.admits.platform]).trans hl
  have Y := vx_rebase X (R' := { frames := R.frames, locals := R.locals, cells := 1, slots := 6 }) (Nat.le_refl _) (Nat.le_refl _) hRcells hRslots
  obtain ⟨s', hA⟩ : ∃ z, z = (T.setVm s.vm).setFrames (.invoking m args :: below) := ⟨_, rfl⟩
  rw [← hA] at Y
  have hvm : s'.vm = s.vm := by rw [hA]; rfl
  have hhp : s'.heap = H := by rw [hA]; exact hT
  have hW0 : s.WarmedH s'.vm := by rw [hvm]; exact State.WarmedH.refl s
  have hat' : ∀ w ∈ vx_atS own ic cls names, w.before args s' = true := fun w hw => vx_ot_at hW0 hvm.symm (hgood w (List.mem_cons_of_mem _ (List.mem_cons_of_mem _ hw))) (hat w hw)
  have hk' : (Cond.classLink own ik cls).before args s' = true := vx_ot_at hW0 hvm.symm (hgood _ List.mem_cons_self) hk
  have hini' : (Cond.initialized cls).before args s' = true := vx_ot_at hW0 hvm.symm (hgood _ (List.mem_cons_of_mem _ List.mem_cons_self)) hini
  have hU' : vx_Zq Bundle.tN "UNASSIGNED_STACK" Bundle.steD A s' s'.heap := by rw [hhp]; exact vx_Zq.moved hW0.alike (hU.kept hS.2.1)
  have hN' : vx_Zq Bundle.tN "SUPPRESSED_SENTINEL" Bundle.listD A s' s'.heap := by rw [hhp]; exact vx_Zq.moved hW0.alike (hN.kept hS.2.1)
  have h : ∀ w ∈ Bundle.ownAtoms own ic cls names, w.before args s' = true := vx_own hat' (vx_isRefq hU'.1) (vx_isRefq hN'.1) hU'.2.word hN'.2.word
  have hown' : s'.vm.findClass own = some m.cls := by rw [hvm]; exact hown
  have hins : (Cond.instantiable cls 6).before args s' = true := h _ (by simp [Bundle.ownAtoms])
  obtain ⟨vm₁, cX, kX, hfX, hkX, -, -, X₁, st1⟩ := Y.newCold hexec (own := own) (C := cls) (index := ik) (n := 6) hown' hk' hins hini'
    (g := F0 m pc ls rest) rfl (by rw [hb]; exact d0) (Nat.le_refl _) (Nat.le_refl _)
  generalize hT1 : (T.setVm vm₁).pushCell { cls := cX, slots := kX.instanceTypes.map defaultValue, vm := .none } = T1 at X₁ st1
  have hcat : (Value.ref T.heap.size).category = 1 := rfl
  have hcellA : T1.heap[T.heap.size]? = some (freshCell cX kX) := by rw [← hT1]; exact State.heap_pushCell_size _ _
  have d3' : decode c.code (pc + 3) = .ok (.dup, 1) := by rw [hb]; exact d3
  have d4' : decode c.code (pc + 4) = .ok (.ldc is, 2) := by rw [hb]; exact d4
  have hstr' : vk_R own is text sa s' := vk_R.warm hW0 hstr
  obtain ⟨U, hsteps, hrun, hend, hW, hsame, ce, hce, hO⟩ := X₁.ctorThrowS hexec htr (own := own) (cls := cls) (names := names) (ic := ic) hown' hcls hnames h (fun x hx => nomatch hx) hfX hkX hcellA (by rw [hhp, hT]; exact Nat.le_refl _) (msg := .ref sa) rfl
    (g := { method := m, pc := pc + 6, locals := ls, stack := .ref sa :: .ref T.heap.size :: .ref T.heap.size :: rest, locked := none }) rfl hsize rfl rfl (rest := rest) rfl
    (by rw [hb]; exact d6) (by rw [hb]; exact d9) hout hRframes (by simp only [List.map_cons, List.sum_cons, hcat]; omega) hlocks
  obtain ⟨f1, f2⟩ := vx_frame hsame
  rw [hhp] at f1 f2
  have hWs : s.WarmedH U.vm := State.WarmedH.trans hW0 hW
  have hcl : s.vm.findClass cls = some ce.cls := by
    have h9 := hO.cls
    rw [hvm] at h9
    exact h9
  have hall : s.sameButNew ({ U with vm := s.vm } : State) locs mc ms := by
    subst hA
    obtain ⟨e1, e2⟩ := hsame
    rw [State.setFrames_setFrames] at e1
    have h2 : (T.setVm s.vm).sameButNew ({ U with vm := s.vm } : State) [] (0 + 1) (0 + 6) := ⟨e1, e2⟩
    have h3 := X.same.trans h2
    rw [List.append_nil] at h3
    exact h3.mono hc hs
  refine ⟨U, ?_, .threw T.heap.size, hrun, hend, Or.inr ⟨T.heap.size, rfl, cls, ce, locs, hx U hWs.alike f1 (fun q hq => f2 q hq (fun z hz => nomatch hz)), hce, hO.vm, hcl, hWs, hall, hf⟩⟩
  refine st1 _ ?_
  show Steps p.tables e below (T1.setTop { method := m, pc := pc + 3, locals := ls, stack := .ref T.heap.size :: rest, locked := none }) _
  jvm_step X₁.here [X₁.here.top, hexec, d3', Value.category]
  exact X₁.ldcString hexec (own := own) (text := text) (index := is) (a := sa) hown' hstr'.1 hstr'.2
    (g := { method := m, pc := pc + 4, locals := ls, stack := .ref T.heap.size :: .ref T.heap.size :: rest, locked := none }) rfl d4' _ hsteps
/-- 'throw new E("text")', the text by a wide index -/
theorem vx_throwSW {cc : ByteArray} {pc : Nat} (hexec : p.tables.exec = Jvm.exec) (hb : c.code = cc) (hl : l.stackTraces = false) {own cls text : String} {names : List String} {ik is ic mc ms sa : Nat} {A : Nat → Prop}
    (hown : s.vm.findClass own = some m.cls) (hcls : Bundle.fit cls = true) (hnames : ∀ n ∈ names, Bundle.fit n = true)
    (hk : (Cond.classLink own ik cls).before args s = true) (hini : (Cond.initialized cls).before args s = true) (hstr : vk_R own is text sa s) (hat : ∀ w ∈ vx_atS own ic cls names, w.before args s = true)
    (hgood : ∀ w ∈ Cond.classLink own ik cls :: Cond.initialized cls :: vx_atS own ic cls names, vx_ot w = true)
    (hU : vx_Zq Bundle.tN "UNASSIGNED_STACK" Bundle.steD A s s.heap) (hN : vx_Zq Bundle.tN "SUPPRESSED_SENTINEL" Bundle.listD A s s.heap) (hS : va_S A s.heap H locs) (hsize : ls.size = c.maxLocals)
    (d0 : decode cc pc = .ok (.new ik, 3)) (d3 : decode cc (pc + 3) = .ok (.dup, 1)) (d4 : decode cc (pc + 4) = .ok (.ldc_w is, 3)) (d7 : decode cc (pc + 7) = .ok (.invokespecial ic, 3)) (d10 : decode cc (pc + 10) = .ok (.athrow, 1))
    (hout : ∀ x ∈ c.exceptionTable.toList, covers x (pc + 10) = false)
    (hRframes : names.length + 3 < R.frames) (hRlocals : (rest.map fun v => v.category).sum + (13 * (names.length + 1) + 43) ≤ R.locals) (hRcells : cells + 1 ≤ R.cells) (hRslots : slots + 6 ≤ R.slots) (hlocks : meth.locks = false)
    (hx : ∀ t : State, s.vm.Alike t.vm → H.size ≤ t.heap.size → (∀ q : Nat, q < H.size → t.heap[q]? = H[q]?) → XC cls s t)
    (hf : ∀ z ∈ locs, free z.base) (hc : cells + 1 ≤ mc) (hs : slots + 6 ≤ ms) :
    W p l e R s m args below meth c H locs cells slots (vx_MQ below Qc XC args s mc ms free) (F0 m pc ls rest) := by
  intro T hT X
  have htr : e.platform.stackTraces = false := (show e.platform.stackTraces = l.stackTraces by rw [X.admits.platform]).trans hl
  have Y := vx_rebase X (R' := { frames := R.frames, locals := R.locals, cells := 1, slots := 6 }) (Nat.le_refl _) (Nat.le_refl _) hRcells hRslots
  obtain ⟨s', hA⟩ : ∃ z, z = (T.setVm s.vm).setFrames (.invoking m args :: below) := ⟨_, rfl⟩
  rw [← hA] at Y
  have hvm : s'.vm = s.vm := by rw [hA]; rfl
  have hhp : s'.heap = H := by rw [hA]; exact hT
  have hW0 : s.WarmedH s'.vm := by rw [hvm]; exact State.WarmedH.refl s
  have hat' : ∀ w ∈ vx_atS own ic cls names, w.before args s' = true := fun w hw => vx_ot_at hW0 hvm.symm (hgood w (List.mem_cons_of_mem _ (List.mem_cons_of_mem _ hw))) (hat w hw)
  have hk' : (Cond.classLink own ik cls).before args s' = true := vx_ot_at hW0 hvm.symm (hgood _ List.mem_cons_self) hk
  have hini' : (Cond.initialized cls).before args s' = true := vx_ot_at hW0 hvm.symm (hgood _ (List.mem_cons_of_mem _ List.mem_cons_self)) hini
  have hU' : vx_Zq Bundle.tN "UNASSIGNED_STACK" Bundle.steD A s' s'.heap := by rw [hhp]; exact vx_Zq.moved hW0.alike (hU.kept hS.2.1)
  have hN' : vx_Zq Bundle.tN "SUPPRESSED_SENTINEL" Bundle.listD A s' s'.heap := by rw [hhp]; exact vx_Zq.moved hW0.alike (hN.kept hS.2.1)
  have h : ∀ w ∈ Bundle.ownAtoms own ic cls names, w.before args s' = true := vx_own hat' (vx_isRefq hU'.1) (vx_isRefq hN'.1) hU'.2.word hN'.2.word
  have hown' : s'.vm.findClass own = some m.cls := by rw [hvm]; exact hown
  have hins : (Cond.instantiable cls 6).before args s' = true := h _ (by simp [Bundle.ownAtoms])
  obtain ⟨vm₁, cX, kX, hfX, hkX, -, -, X₁, st1⟩ := Y.newCold hexec (own := own) (C := cls) (index := ik) (n := 6) hown' hk' hins hini'
    (g := F0 m pc ls rest) rfl (by rw [hb]; exact d0) (Nat.le_refl _) (Nat.le_refl _)
  generalize hT1 : (T.setVm vm₁).pushCell { cls := cX, slots := kX.instanceTypes.map defaultValue, vm := .none } = T1 at X₁ st1
  have hcat : (Value.ref T.heap.size).category = 1 := rfl
  have hcellA : T1.heap[T.heap.size]? = some (freshCell cX kX) := by rw [← hT1]; exact State.heap_pushCell_size _ _
  have d3' : decode c.code (pc + 3) = .ok (.dup, 1) := by rw [hb]; exact d3
  have d4' : decode c.code (pc + 4) = .ok (.ldc_w is, 3) := by rw [hb]; exact d4
  have hstr' : vk_R own is text sa s' := vk_R.warm hW0 hstr
  obtain ⟨U, hsteps, hrun, hend, hW, hsame, ce, hce, hO⟩ := X₁.ctorThrowS hexec htr (own := own) (cls := cls) (names := names) (ic := ic) hown' hcls hnames h (fun x hx => nomatch hx) hfX hkX hcellA (by rw [hhp, hT]; exact Nat.le_refl _) (msg := .ref sa) rfl
    (g := { method := m, pc := pc + 7, locals := ls, stack := .ref sa :: .ref T.heap.size :: .ref T.heap.size :: rest, locked := none }) rfl hsize rfl rfl (rest := rest) rfl
    (by rw [hb]; exact d7) (by rw [hb]; exact d10) hout hRframes (by simp only [List.map_cons, List.sum_cons, hcat]; omega) hlocks
  obtain ⟨f1, f2⟩ := vx_frame hsame
  rw [hhp] at f1 f2
  have hWs : s.WarmedH U.vm := State.WarmedH.trans hW0 hW
  have hcl : s.vm.findClass cls = some ce.cls := by
    have h9 := hO.cls
    rw [hvm] at h9
    exact h9
  have hall : s.sameButNew ({ U with vm := s.vm } : State) locs mc ms := by
    subst hA
    obtain ⟨e1, e2⟩ := hsame
    rw [State.setFrames_setFrames] at e1
    have h2 : (T.setVm s.vm).sameButNew ({ U with vm := s.vm } : State) [] (0 + 1) (0 + 6) := ⟨e1, e2⟩
    have h3 := X.same.trans h2
    rw [List.append_nil] at h3
    exact h3.mono hc hs
  refine ⟨U, ?_, .threw T.heap.size, hrun, hend, Or.inr ⟨T.heap.size, rfl, cls, ce, locs, hx U hWs.alike f1 (fun q hq => f2 q hq (fun z hz => nomatch hz)), hce, hO.vm, hcl, hWs, hall, hf⟩⟩
  refine st1 _ ?_
  show Steps p.tables e below (T1.setTop { method := m, pc := pc + 3, locals := ls, stack := .ref T.heap.size :: rest, locked := none }) _
  jvm_step X₁.here [X₁.here.top, hexec, d3', Value.category]
  exact X₁.ldcStringW hexec (own := own) (text := text) (index := is) (a := sa) hown' hstr'.1 hstr'.2
    (g := { method := m, pc := pc + 4, locals := ls, stack := .ref T.heap.size :: .ref T.heap.size :: rest, locked := none }) rfl d4' _ hsteps
end Ends
section Bodies
variable {l : Launch}
theorem vx_ofW {y : MethodName} {ws ws' : List Cond} {rm : Room} {Pc : Array Value → State → Prop} {Qc : Array Value → State → Outcome → State → Prop} {XC : String → State → State → Prop} {mc ms : Nat} {free : Addr → Prop} {cc : ByteArray} {maxL : Nat} {ret : Option FieldType}
    (hy : plainName y.cls = true) (hw : ws = Cond.code y cc maxL ret :: ws')
    (body : ∀ p e s m args below meth c s₁, BodyLoose p l y (headSpec ws rm) cc maxL ret e s m args below meth c s₁ → c.maxLocals = maxL → (∀ x ∈ c.exceptionTable.toList, False) → Pc args s →
      W p l e (headSpec ws rm).room s m args below meth c s.heap [] 0 0 (vx_MQ below Qc XC args s mc ms free) (entryFrame m args maxL)) : vx_Met l y ws rm Pc Qc XC mc ms free := by
  refine MetFree.of_bodyS (code := cc) (maxLocals := maxL) (ret := ret) hy ?_ ?_
  · intro args s m h hn
    obtain ⟨meth, c, h1, h2, h3, h4, h5, h6, -, -⟩ := Cond.code_spec hn (atoms_spec (ws := ws) h _ (by rw [hw]; exact List.mem_cons_self))
    exact ⟨meth, c, h1, h2, h3, h4, h5, h6⟩
  · intro p e s m args below meth c s₁ B hml hP _
    have hh0 : s₁.heap = s.heap := by rw [B.state]; rfl
    have ht : ∀ x ∈ c.exceptionTable.toList, False := by
      obtain ⟨meth9, c9, h1, h2, -, -, -, -, h7, -⟩ := Cond.code_spec B.named (atoms_spec (ws := ws) B.pre _ (by rw [hw]; exact List.mem_cons_self))
      cases Option.some.inj (h1.symm.trans B.method)
      cases Option.some.inj (h2.symm.trans (Stand.of_body B).code)
      intro x hx
      rw [Array.isEmpty_iff.mp h7] at hx
      cases hx
    obtain ⟨t, a1, o, b1, b2, b3⟩ := body p e s m args below meth c s₁ B hml ht hP s₁ hh0 (Stand.of_body B)
    exact ⟨t, o, a1, b1, b2, b3⟩
/-- the table of a body with handlers -/
theorem vx_table {p : Program} {x y : MethodName} {S : Spec} {cc bytes : ByteArray} {maxL maxL' : Nat} {ret ret' : Option FieldType} {e : Env} {s s₁ : State} {m : MethodId} {args : Array Value} {below : List Frame} {meth : Method} {c : Code} {hh : List (Nat × Nat × Nat × Nat)}
    (B : BodyLoose p l y S cc maxL ret e s m args below meth c s₁) (h : (Cond.codeWith y bytes maxL' ret' hh).before args s = true) : c.exceptionTable.toList = tableOf hh := by
  obtain ⟨m9, meth9, c9, hn9, h1, h2, -, -, h6, -⟩ := Cond.codeWith_spec h
  cases Option.some.inj (hn9.symm.trans B.named)
  cases Option.some.inj (h1.symm.trans B.method)
  cases Option.some.inj (h2.symm.trans (Stand.of_body B).code)
  rw [← h6, table_eq]
end Bodies
end VXA
/-! ===== END ===== -/
/-! ===== BEGIN a static call of a method with an exception table ===== -/
section VXS
variable {p : Program} {l : Launch} {e : Env} {R : Room} {s : State} {m : MethodId} {args : Array Value} {below : List Frame} {meth : Method} {c : Code} {T : State} {H : Heap} {locs : List Loc} {cells slots : Nat}
abbrev vx_CSW (R : Room) (s : State) (args : Array Value) (own : String) (index : Nat) (y : MethodName) (bytes : ByteArray) (maxL : Nat) (ret : Option FieldType) (hh : List (Nat × Nat × Nat × Nat)) (ws : List Cond) (rm : Room) (mc ms n : Nat) : Prop :=
  (rm.cells = mc ∧ rm.slots = ms ∧ rm.frames + 1 ≤ R.frames ∧ 8 + (maxL + 11) + rm.locals ≤ R.locals ∧ (∀ w ∈ ws, ∀ (a' : Array Value) (U : State), s.WarmedH U.vm → w.before a' U = true) ∧ Cond.codeWith y bytes maxL ret hh ∈ ws) ∧
  (Cond.codeWith y bytes maxL ret hh).before args s = true ∧ (Cond.initialized y.cls).before args s = true ∧ (y.cls ≠ "java/lang/invoke/MethodHandle" ∧ y.cls ≠ "java/lang/invoke/VarHandle") ∧
  (∀ sig, parseMethodDescriptor y.desc = some sig → n = sig.parameters.length) ∧ (Cond.methodLink own index y).before args s = true ∧ (Cond.static y).before args s = true
theorem vx_cwSW {own : String} {index maxL mc ms : Nat} {y : MethodName} {bytes : ByteArray} {ret : Option FieldType} {hh : List (Nat × Nat × Nat × Nat)} {Ts ws ws' : List Cond} {rm : Room} (n : Nat) (ht : ∀ w ∈ Ts, w.before args s = true) (hT : GoodIn Ts (va_wsS own index y ws)) (hw : ws = Cond.codeWith y bytes maxL ret hh :: ws') (hrc : rm.cells = mc) (hrs : rm.slots = ms)
    (hd : y.cls ≠ "java/lang/invoke/MethodHandle" ∧ y.cls ≠ "java/lang/invoke/VarHandle" ∧ (parseMethodDescriptor y.desc).map (fun d => d.parameters.length) = some n) (hR : rm.frames + 1 ≤ R.frames ∧ 8 + (maxL + 11) + rm.locals ≤ R.locals) :
    vx_CSW R s args own index y bytes maxL ret hh ws rm mc ms n := by
  have ok : ∀ w ∈ va_wsS own index y ws, w.before args s = true := fun w h => ht w (hT w h).1
  have hG : GoodIn Ts ws := fun w h => hT w (by unfold va_wsS; exact List.mem_append_right _ h)
  have hc : Cond.codeWith y bytes maxL ret hh ∈ ws := by rw [hw]; exact List.mem_cons_self
  refine ⟨⟨hrc, hrs, hR.1, hR.2, pay_in ht hG, hc⟩, ht _ (hG _ hc).1, ok _ (by simp [va_wsS]), ⟨hd.1, hd.2.1⟩, fun sig h => ?_, ok _ (by simp [va_wsS]), ok _ (by simp [va_wsS])⟩
  have h2 := hd.2.2
  rw [h] at h2
  exact (Option.some.inj h2).symm
theorem vx_callSW (X : Stand p l e R s m args below meth c T locs cells slots) (hexec : p.tables.exec = Jvm.exec) {own : String} {index : Nat} {y : MethodName} {bytes : ByteArray} {maxL : Nat} {ret : Option FieldType} {hh : List (Nat × Nat × Nat × Nat)}
    (hown : s.vm.findClass own = some m.cls) (hlink : (Cond.methodLink own index y).before args s = true) (hstat : (Cond.static y).before args s = true) (hinit : (Cond.initialized y.cls).before args s = true)
    (hcode : (Cond.codeWith y bytes maxL ret hh).before args s = true) (hy : y.cls ≠ "java/lang/invoke/MethodHandle" ∧ y.cls ≠ "java/lang/invoke/VarHandle")
    {W9 : Nat} {Pre : Pt → Array Value → Prop} {Post : Pt → Array Value → Option Value → Pt → Prop} (hK : Back l R p e below s args y 3 W9 Pre Post)
    {g : JFrame} (hg : g.method = m) (hsize : g.locals.size = c.maxLocals) {argsL rest : List Value} (hlen : ∀ sig, parseMethodDescriptor y.desc = some sig → argsL.length = sig.parameters.length)
    (hstack : g.stack = argsL.reverse ++ rest) (hW : 2 * g.monitorRoom + (rest.map fun v => v.category).sum ≤ W9) (hdg : decode c.code g.pc = .ok (.invokestatic index, 3))
    (hpre : ∀ vm₁, s.WarmedH vm₁ → Pre ⟨T.setVm vm₁, locs, cells, slots⟩ argsL.toArray) :
    ∃ (v : Option Value) (vm₁ : Vm) (B : Pt), s.WarmedH vm₁ ∧ Stand p l e R s m args below meth c B.U B.locs B.cells B.slots ∧ Post ⟨T.setVm vm₁, locs, cells, slots⟩ argsL.toArray v B ∧
      ∀ target, Steps p.tables e below (B.U.setTop { g with pc := g.pc + 3, stack := v.toList ++ rest }) target → Steps p.tables e below (T.setTop g) target := by
  obtain ⟨mk, methM, cM, hnamed, hmethM, -, -, -, -, -, -, hsigM⟩ := Cond.codeWith_spec hcode
  have hstatic : methM.isStatic = true := Cond.static_spec hnamed hmethM hstat
  obtain ⟨kP, hkP, -⟩ := className_of_methodNamed hnamed
  have hinitP : kP.init = .initialized := Cond.initialized_spec (findClass_of_methodNamed hnamed) hkP hinit
  obtain ⟨vm₁, X₁, hstep₁⟩ := X.invokestatic hexec hown hlink hnamed hmethM hstatic hkP hinitP hy (g := g) hg (argsL := argsL) (rest := rest) (hlen _ hsigM) hstack hdg
  obtain ⟨v, B, X', hpost, hsteps⟩ := hK m meth c ⟨T.setVm vm₁, locs, cells, slots⟩ { g with stack := rest } (.invokestatic index) mk argsL.toArray X₁ hg hsize hdg hW (X₁.named hnamed) (hpre vm₁ X₁.warmed)
  exact ⟨v, vm₁, B, X₁.warmed, X', hpost, fun target h => hstep₁ _ fun acts => by rw [doInvoke_state]; exact hsteps.trans h⟩
theorem vx_runSW {y : MethodName} {bytes cc : ByteArray} {maxL nL mc ms n index : Nat} {ret : Option FieldType} {hh : List (Nat × Nat × Nat × Nat)} {ws : List Cond} {rm : Room} {Pc : Array Value → State → Prop} {Qc : Array Value → State → Outcome → State → Prop} {free : Addr → Prop} {Ts : List Cond} {own : String} {As rest : List Value} {g : JFrame}
    (S : CallFix p m c cc nL s args Ts own) (hM : Met l y ws rm Pc Qc mc ms free) (cw : vx_CSW R s args own index y bytes maxL ret hh ws rm mc ms n) (hp : PreS s H Pc As)
    (hg : g.method = m) (hn : As.length = n) (hsize : g.locals.size = nL) (hstack : g.stack = As.reverse ++ rest) (hW : 2 * g.monitorRoom + (rest.map fun v => v.category).sum ≤ 8) (hdg : decode cc g.pc = .ok (.invokestatic index, 3)) (hf : cells + mc ≤ R.cells ∧ slots + ms ≤ R.slots) :
    va_Run p l e R s m args below meth c H locs cells slots mc ms g rest (Qc As.toArray) (free) := by
  obtain ⟨⟨hrc, hrs, hfr, hlo, hws, hcw⟩, hcode, hini, hy, hlen, hl, hstt⟩ := cw
  have hK : Back l R p e below s args y 3 8 (PreOf R mc ms Pc) (PostOf Qc mc ms free) := va_backW (hh := hh) (bytes := bytes) (maxL := maxL) (ret := ret) hM hp.1 hrc hrs hfr hlo hws hcw (fun a' U hW => word_at hW (Or.inl (by first | rfl | simp [Cond.onTables, Cond.keeps, Cond.steady])) hini)
  obtain ⟨hx, hb, hml, ho, -⟩ := S
  intro T hT X
  obtain ⟨v, vm₁, ⟨U', l2, c2, s2⟩, hW₁, X', ⟨g', mk, t, L, e1, e2, hq, h1, hL, h2, h3⟩, st⟩ := vx_callSW X hx (hh := hh) (bytes := bytes) (maxL := maxL) (ret := ret) ho hl hstt hini hcode hy hK hg (hsize.trans hml.symm) (argsL := As) (rest := rest) (fun sig h => hn.trans (hlen sig h)) hstack hW (by rw [hb]; exact hdg)
    (fun vm₁ hW₁ => ⟨hf.1, hf.2, hp.2 (T.setVm vm₁) hT hW₁⟩)
  dsimp only [Pt.U, Pt.locs, Pt.cells, Pt.slots] at X' e1 e2 h1 h2 h3 st
  subst h1; subst h2; subst h3
  exact ⟨v, (T.setVm vm₁).calling g' mk As.toArray, t, U', L, hT, X', hL, e1, e2, hq, st⟩
/-- not caught here, past rows that name other classes: it goes on to the caller -/
theorem vx_outP {p : Program} {l : Launch} {e : Env} {R : Room} {s : State} {m : MethodId} {args : Array Value} {below : List Frame} {meth : Method} {c : Code} {H : Heap} {locs : List Loc} {cells slots : Nat} {free : Addr → Prop} {ls : Array Slot} {rest : List Value} {Qc : Array Value → State → Outcome → State → Prop} {XC : String → State → State → Prop}
    {pc : Nat} {own E : String} {ce : Cell} {q : Addr} {mc ms : Nat} (hown : s.vm.findClass own = some m.cls) (hlocks : meth.locks = false)
    (hpass : ∀ z ∈ c.exceptionTable.toList, covers z pc = false ∨ (z.catchType ≠ 0 ∧ ∃ nm : String, (Cond.classLink own z.catchType nm).before args s = true ∧ va_Nc E nm s)) (hcell : H[q]? = some ce) (hv : ce.vm = .none) (hcl : s.vm.findClass E = some ce.cls)
    (hx : ∀ t : State, t.heap = H → s.vm.Alike t.vm → XC E s t) (hf : ∀ z ∈ locs, free z.base) (hc : cells ≤ mc) (hs : slots ≤ ms) :
    vx_W p l e R s m args below meth c H locs cells slots (vx_MQ below Qc XC args s mc ms free) (F0 m pc ls rest) q := by
  intro T hT X
  have hpl : e.platform.magicAccessors = ({} : Platform).magicAccessors := by rw [X.admits.platform]
  obtain ⟨vm', hW', X', st⟩ := X.outThrough hlocks q (g := F0 m pc ls rest) rfl rfl rfl (cell := ce) (by rw [hT]; exact hcell) (by rw [hv]; rfl)
    (by obtain ⟨k9, h9, -⟩ := Vm.findClass_spec hcl; exact ⟨k9, h9⟩) (fun z hz => by
      rcases hpass z hz with h | ⟨hz0, nm, hl1, hn1⟩
      · exact Or.inl h
      · obtain ⟨c6, hc6, hcl6⟩ := Cond.classLink_spec hown hl1 e.platform hpl
        obtain ⟨a8, b8, h1, h2, h3⟩ := hn1
        cases Option.some.inj (h1.symm.trans hcl)
        cases Option.some.inj (h2.symm.trans hc6)
        exact Or.inr ⟨hz0, _, hcl6, h3⟩)
  obtain ⟨g₀, hfr⟩ := X'.frames_eq
  have hcell9 : ((T.setVm vm').setFrames (.throwing q :: below)).heap[q]? = some ce := by
    show T.heap[q]? = some ce
    rw [hT]; exact hcell
  have hend : Ended ((T.setVm vm').setFrames (.throwing q :: below)) below (.threw q) := State.frames_setFrames _ (State.cur_lt_of_frames hfr)
  refine ⟨(T.setVm vm').setFrames (.throwing q :: below), ?_, .threw q, X'.here.running, hend, Or.inr ⟨q, rfl, E, ce, locs, hx _ hT (X'.ends _).1.alike, hcell9, hv, hcl, (X'.ends _).1, (X'.ends _).2.mono hc hs, hf⟩⟩
  rw [X.pushThrowing_eq]
  exact st
/-- a thing of a world lies in the heap -/
theorem vx_lt {D : va_G} {cl : List vw_C} {ws : va_W} {H1 : Heap} (h : va_P D cl ws H1) {k : Nat} {q : Nat × va_E} (hk : ws[k]? = some q) : q.1 < H1.size := (h k q hk).lt
end VXS
/-! ===== END ===== -/
/-! ===== BEGIN methods with a table of their own: called by a name, returning or throwing ===== -/
section VXH
/-! vx_backW, vx_callVX, vx_callSX, vx_callVW, vx_runVW, vx_runVX, vx_runSX, vx_ofWH follow the same proofs as their sisters above (Free/Laws.lean, Shelf42/LK1.lean); vx_outP calls Shelf42/NT130.lean (outThrough). -/
section
variable {l : Launch} {R : Room} {p : Program} {e : Env} {below : List Frame} {s : State} {sargs : Array Value} {y : MethodName} {len W9 : Nat}
theorem vx_backW {ws : List Cond} {rm : Room} {Pc : Array Value → State → Prop} {Qc : Array Value → State → Outcome → State → Prop} {XC : String → State → State → Prop} {mc ms : Nat} {free : Addr → Prop} {bytes : ByteArray} {maxL : Nat} {ret : Option FieldType} {hh : List (Nat × Nat × Nat × Nat)}
    (hM : vx_Met l y ws rm Pc Qc XC mc ms free) (hblind : FrameBlind Pc) (hrc : rm.cells = mc) (hrs : rm.slots = ms)
    (hframes : rm.frames + 1 ≤ R.frames) (hlocals : W9 + (maxL + 11) + rm.locals ≤ R.locals)
    (hws : ∀ w ∈ ws, ∀ a' U, s.WarmedH U.vm → w.before a' U = true) (hcode : Cond.codeWith y bytes maxL ret hh ∈ ws) (hinit : ∀ a' U, s.WarmedH U.vm → (Cond.initialized y.cls).before a' U = true) :
    vx_Back l R p e below s sargs y len W9 (PreOf R mc ms Pc) (PostOf Qc mc ms free) (vx_Post XC mc ms free) := by
  intro m meth c A g ig mk a X hg hsize hdg hW hn hp
  have h1 : (headSpec ws rm).pre.before a A.U = true := atoms_intro fun w hw => hws w hw _ _ X.warmed
  have h2 : (Cond.codeWith y bytes maxL ret hh).before a A.U = true := hws _ hcode _ _ X.warmed
  have h3 : (Cond.initialized y.cls).before a A.U = true := hinit _ _ X.warmed
  have h4 : A.cells + (headSpec ws rm).room.cells ≤ R.cells := by rw [show (headSpec ws rm).room.cells = mc from hrc]; exact hp.1
  have h5 : A.slots + (headSpec ws rm).room.slots ≤ R.slots := by rw [show (headSpec ws rm).room.slots = ms from hrs]; exact hp.2.1
  have hPc : Pc a (A.U.calling g mk a) := hblind _ _ _ _ hp.2.2
  obtain ⟨U, Ls, c0, s0⟩ := A
  dsimp only [Pt.U, Pt.locs, Pt.cells, Pt.slots] at h1 h2 h3 h4 h5 X hn hPc ⊢
  obtain ⟨m9, methY, cY, hn9, hmY, hcY, -, hlY, -⟩ := Cond.codeWith_spec h2
  cases Option.some.inj (hn9.symm.trans hn)
  obtain ⟨kY, hkY, -⟩ := className_of_methodNamed hn
  have hinitY : kY.init = .initialized := Cond.initialized_spec (findClass_of_methodNamed hn) hkY h3
  have h : At U g.method c below := by rw [hg]; exact X.here
  have hlocals9 : W9 + (maxL + 11) + (headSpec ws rm).room.locals ≤ R.locals := hlocals
  have happ : (headSpec ws rm).appliesLoose y e.platform (U.calling g mk a) = true :=
    Spec.appliesLoose_calling (g := g) h hdg hn hkY hinitY
      (X.room_calling (g := g) (R' := (headSpec ws rm).room) hsize hmY hcY hframes (by rw [hlY]; omega) h4 h5) h1
  obtain ⟨mid, hmid⟩ := h.above
  have hfr : (U.setTop g).frames = (.java g :: mid) ++ below := by rw [State.frames_setTop' g h.top, hmid]; rfl
  obtain ⟨o, s₂, hsteps, -, hend, hq⟩ := Steps.callFree hM p X.admits X.cas X.clock (acts := []) hfr happ hPc trivial
  have hq' : vx_Q Qc XC mc ms free a (U.calling g mk a) o s₂ := hq
  rw [State.frames_setTop' g h.top] at hend
  obtain ⟨g₀, hg0⟩ := Option.isSome_iff_exists.mp h.top
  obtain ⟨r, hr⟩ := State.topJava?_eq_some.mp hg0
  have hr' : (({ U with heap := s₂.heap, slotsUsed := s₂.slotsUsed } : State).setVm s₂.vm).frames = .java g₀ :: r := hr
  rcases hq' with ⟨hqc, L, hfe, hL⟩ | ⟨q, rfl, E, ce, L, hx, hce, hcv, hcl, hW₂, hsm, hL⟩
  · obtain ⟨⟨v, rfl⟩, hW₂, e2, q2, q3, q4, q5, q6⟩ := id hfe
    have e3 : s₂ = ({ (U.calling g mk a).setFrames s₂.frames with heap := s₂.heap, slotsUsed := s₂.slotsUsed } : State).setVm s₂.vm := by
      have : s₂ = ({ s₂ with vm := (U.calling g mk a).vm } : State).setVm s₂.vm := rfl
      rw [e2] at this
      exact this
    obtain ⟨c₂, i₂, len₂, hc₂, hd₂, hf₂⟩ := hend
    have hW' : U.WarmedH s₂.vm := hW₂
    have hcc : c₂ = c := by
      have h1 : s₂.code? g.method = U.code? g.method := by
        rw [State.code?_eq, State.code?_eq, hW'.alike.method?]
      exact Option.some.inj (hc₂.symm.trans (h1.trans h.code))
    subst hcc
    have hlen : len₂ = len := by rw [hdg] at hd₂; cases hd₂; rfl
    subst hlen
    have hs₂ : s₂ = (({ U with heap := s₂.heap, slotsUsed := s₂.slotsUsed } : State).setVm s₂.vm).setTop { g with pc := g.pc + len₂, stack := v.toList ++ g.stack } := by
      refine e3.trans ?_
      rw [hf₂, State.calling_eq h.top, State.setFrames_setFrames, State.setTop_of_frames _ hr', hr]
      rfl
    have hsame : U.sameButNew ({ U with heap := s₂.heap, slotsUsed := s₂.slotsUsed } : State) L mc ms := by
      refine ⟨?_, q2, q3, q4, q5, q6⟩
      obtain ⟨t, ht, -⟩ := State.frames_cons hr
      show ({ U with heap := s₂.heap, slotsUsed := s₂.slotsUsed } : State) = { U.setFrames U.frames with heap := s₂.heap, slotsUsed := s₂.slotsUsed }
      rw [State.setFrames_self ht]
    subst hg
    refine Or.inl ⟨v, ⟨(({ U with heap := s₂.heap, slotsUsed := s₂.slotsUsed } : State).setVm s₂.vm), Ls ++ L, c0 + mc, s0 + ms⟩,
      ⟨X.admits, X.cas, X.clock, X.frames, X.room, X.hears, X.method, X.code, (X.here.setHeapUsed s₂.heap s₂.slotsUsed).setVm hW'.alike, X.tail, State.WarmedH.trans X.warmed hW', X.limits, X.bytes, X.same.trans (hsame.setVm s.vm)⟩,
      ⟨g, mk, s₂, L, rfl, rfl, hqc, rfl, hL, rfl, rfl⟩, ?_⟩
    show Steps p.tables e below _ ((({ U with heap := s₂.heap, slotsUsed := s₂.slotsUsed } : State).setVm s₂.vm).setTop { g with pc := g.pc + len₂, stack := v.toList ++ g.stack })
    rw [← hs₂]
    exact hsteps
  · obtain ⟨e2, q2, q3, q4, q5, q6⟩ := id hsm
    have e3 : s₂ = ({ (U.calling g mk a).setFrames s₂.frames with heap := s₂.heap, slotsUsed := s₂.slotsUsed } : State).setVm s₂.vm := by
      have : s₂ = ({ s₂ with vm := (U.calling g mk a).vm } : State).setVm s₂.vm := rfl
      rw [e2] at this
      exact this
    have hf₂ : s₂.frames = .throwing q :: .java g :: U.frames.tail := hend
    have hW' : U.WarmedH s₂.vm := hW₂
    have hs₂ : s₂ = ((({ U with heap := s₂.heap, slotsUsed := s₂.slotsUsed } : State).setVm s₂.vm).setTop g).pushFrame (.throwing q) := by
      refine e3.trans ?_
      rw [hf₂, State.calling_eq h.top, State.setFrames_setFrames, State.pushFrame, State.frames_setTop _ hr', State.setTop_of_frames _ hr', State.setFrames_setFrames, hr]
      rfl
    have hsame : U.sameButNew ({ U with heap := s₂.heap, slotsUsed := s₂.slotsUsed } : State) L mc ms := by
      refine ⟨?_, q2, q3, q4, q5, q6⟩
      obtain ⟨t, ht, -⟩ := State.frames_cons hr
      show ({ U with heap := s₂.heap, slotsUsed := s₂.slotsUsed } : State) = { U.setFrames U.frames with heap := s₂.heap, slotsUsed := s₂.slotsUsed }
      rw [State.setFrames_self ht]
    subst hg
    refine Or.inr ⟨q, ⟨(({ U with heap := s₂.heap, slotsUsed := s₂.slotsUsed } : State).setVm s₂.vm), Ls ++ L, c0 + mc, s0 + ms⟩,
      ⟨X.admits, X.cas, X.clock, X.frames, X.room, X.hears, X.method, X.code, (X.here.setHeapUsed s₂.heap s₂.slotsUsed).setVm hW'.alike, X.tail, State.WarmedH.trans X.warmed hW', X.limits, X.bytes, X.same.trans (hsame.setVm s.vm)⟩,
      ⟨g, mk, s₂, L, E, ce, rfl, rfl, hx, hce, hcv, hcl, rfl, hL, rfl, rfl⟩, ?_⟩
    show Steps p.tables e below _ (((({ U with heap := s₂.heap, slotsUsed := s₂.slotsUsed } : State).setVm s₂.vm).setTop g).pushFrame (.throwing q))
    rw [← hs₂]
    exact hsteps
end
variable {p : Program} {l : Launch} {e : Env} {R : Room} {s : State} {m : MethodId} {args : Array Value} {below : List Frame} {meth : Method} {c : Code} {T : State} {H : Heap} {locs : List Loc} {cells slots : Nat}
theorem vx_callVX (X : Stand p l e R s m args below meth c T locs cells slots) (hexec : p.tables.exec = Jvm.exec) {own C : String} {index : Nat} {y : MethodName} {bytes : ByteArray} {maxL : Nat} {ret : Option FieldType} {hh : List (Nat × Nat × Nat × Nat)}
    (hown : s.vm.findClass own = some m.cls) (hlink : (Cond.methodLink own index y).before args s = true) (hinst : (Cond.instanceMethod y).before args s = true) (hsel : (Cond.selects C y y).before args s = true)
    (hcode : (Cond.codeWith y bytes maxL ret hh).before args s = true) (hy : y.cls ≠ "java/lang/invoke/MethodHandle" ∧ y.cls ≠ "java/lang/invoke/VarHandle")
    {W9 : Nat} {Pre : Pt → Array Value → Prop} {Post : Pt → Array Value → Option Value → Pt → Prop} {PostX : Pt → Array Value → Addr → Pt → Prop} (hK : vx_Back l R p e below s args y 3 W9 Pre Post PostX)
    {b : Addr} {cellB : Cell} (hcell : T.heap[b]? = some cellB) (hobj : cellB.vm.isStatics = false) (hcls : s.vm.findClass C = some cellB.cls)
    {g : JFrame} (hg : g.method = m) (hsize : g.locals.size = c.maxLocals) {argsL rest : List Value} (hlen : ∀ sig, parseMethodDescriptor y.desc = some sig → argsL.length = sig.parameters.length)
    (hstack : g.stack = argsL.reverse ++ .ref b :: rest) (hW : 2 * g.monitorRoom + (rest.map fun v => v.category).sum ≤ W9) (hdg : decode c.code g.pc = .ok (.invokevirtual index, 3))
    (hpre : ∀ vm₁, s.WarmedH vm₁ → Pre ⟨T.setVm vm₁, locs, cells, slots⟩ (Value.ref b :: argsL).toArray) :
    (∃ (v : Option Value) (vm₁ : Vm) (B : Pt), s.WarmedH vm₁ ∧ Stand p l e R s m args below meth c B.U B.locs B.cells B.slots ∧ Post ⟨T.setVm vm₁, locs, cells, slots⟩ (Value.ref b :: argsL).toArray v B ∧
      ∀ target, Steps p.tables e below (B.U.setTop { g with pc := g.pc + 3, stack := v.toList ++ rest }) target → Steps p.tables e below (T.setTop g) target) ∨
    (∃ (q : Addr) (vm₁ : Vm) (B : Pt), s.WarmedH vm₁ ∧ Stand p l e R s m args below meth c B.U B.locs B.cells B.slots ∧ PostX ⟨T.setVm vm₁, locs, cells, slots⟩ (Value.ref b :: argsL).toArray q B ∧
      Steps p.tables e below (T.setTop g) ((B.U.setTop { g with stack := rest }).pushFrame (.throwing q))) := by
  obtain ⟨mk, methM, hnamed, hmethM, hstM, habM⟩ := Cond.instanceMethod_spec hinst
  obtain ⟨m8, methM', cM, hn8, hmethM', -, -, -, -, -, -, hsigM⟩ := Cond.codeWith_spec hcode
  cases Option.some.inj (hn8.symm.trans hnamed)
  cases hmethM.symm.trans hmethM'
  obtain ⟨c2, r2, m2, q1, q2, q3, q4, kP, hkP, hkPi⟩ := Cond.selects_spec hsel
  cases hcls.symm.trans q1
  cases (State.methodFound?_of_named hnamed hy).symm.trans q2
  cases hnamed.symm.trans q3
  have hselP : selectMethod e.platform s.vm cellB.cls mk = .method mk := by rw [Launch.admits_selectMethod X.admits]; exact q4
  obtain ⟨vm₁, X₁, hstep₁⟩ := X.invokevirtual hexec hown hlink hnamed hmethM hstM hkP hkPi hy (a := b) (cell := cellB) hcell
    (fun z h => by rw [h] at hobj; cases hobj) hselP hmethM habM hkP hkPi (g := g) hg (argsL := argsL) (rest := rest) (hlen _ hsigM) hstack hdg
  rcases hK m meth c ⟨T.setVm vm₁, locs, cells, slots⟩ { g with stack := rest } (.invokevirtual index) mk (Value.ref b :: argsL).toArray X₁ hg hsize hdg hW (X₁.named hnamed) (hpre vm₁ X₁.warmed) with ⟨v, B, X', hpost, hsteps⟩ | ⟨q, B, X', hpost, hsteps⟩
  · exact Or.inl ⟨v, vm₁, B, X₁.warmed, X', hpost, fun target h => hstep₁ _ fun acts => by rw [doInvoke_state]; exact hsteps.trans h⟩
  · exact Or.inr ⟨q, vm₁, B, X₁.warmed, X', hpost, hstep₁ _ fun acts => by rw [doInvoke_state]; exact hsteps⟩
theorem vx_callSX (X : Stand p l e R s m args below meth c T locs cells slots) (hexec : p.tables.exec = Jvm.exec) {own : String} {index : Nat} {y : MethodName} {bytes : ByteArray} {maxL : Nat} {ret : Option FieldType} {hh : List (Nat × Nat × Nat × Nat)}
    (hown : s.vm.findClass own = some m.cls) (hlink : (Cond.methodLink own index y).before args s = true) (hstat : (Cond.static y).before args s = true) (hinit : (Cond.initialized y.cls).before args s = true)
    (hcode : (Cond.codeWith y bytes maxL ret hh).before args s = true) (hy : y.cls ≠ "java/lang/invoke/MethodHandle" ∧ y.cls ≠ "java/lang/invoke/VarHandle")
    {W9 : Nat} {Pre : Pt → Array Value → Prop} {Post : Pt → Array Value → Option Value → Pt → Prop} {PostX : Pt → Array Value → Addr → Pt → Prop} (hK : vx_Back l R p e below s args y 3 W9 Pre Post PostX)
    {g : JFrame} (hg : g.method = m) (hsize : g.locals.size = c.maxLocals) {argsL rest : List Value} (hlen : ∀ sig, parseMethodDescriptor y.desc = some sig → argsL.length = sig.parameters.length)
    (hstack : g.stack = argsL.reverse ++ rest) (hW : 2 * g.monitorRoom + (rest.map fun v => v.category).sum ≤ W9) (hdg : decode c.code g.pc = .ok (.invokestatic index, 3))
    (hpre : ∀ vm₁, s.WarmedH vm₁ → Pre ⟨T.setVm vm₁, locs, cells, slots⟩ argsL.toArray) :
    (∃ (v : Option Value) (vm₁ : Vm) (B : Pt), s.WarmedH vm₁ ∧ Stand p l e R s m args below meth c B.U B.locs B.cells B.slots ∧ Post ⟨T.setVm vm₁, locs, cells, slots⟩ argsL.toArray v B ∧
      ∀ target, Steps p.tables e below (B.U.setTop { g with pc := g.pc + 3, stack := v.toList ++ rest }) target → Steps p.tables e below (T.setTop g) target) ∨
    (∃ (q : Addr) (vm₁ : Vm) (B : Pt), s.WarmedH vm₁ ∧ Stand p l e R s m args below meth c B.U B.locs B.cells B.slots ∧ PostX ⟨T.setVm vm₁, locs, cells, slots⟩ argsL.toArray q B ∧
      Steps p.tables e below (T.setTop g) ((B.U.setTop { g with stack := rest }).pushFrame (.throwing q))) := by
  obtain ⟨mk, methM, cM, hnamed, hmethM, -, -, -, -, -, -, hsigM⟩ := Cond.codeWith_spec hcode
  have hstatic : methM.isStatic = true := Cond.static_spec hnamed hmethM hstat
  obtain ⟨kP, hkP, -⟩ := className_of_methodNamed hnamed
  have hinitP : kP.init = .initialized := Cond.initialized_spec (findClass_of_methodNamed hnamed) hkP hinit
  obtain ⟨vm₁, X₁, hstep₁⟩ := X.invokestatic hexec hown hlink hnamed hmethM hstatic hkP hinitP hy (g := g) hg (argsL := argsL) (rest := rest) (hlen _ hsigM) hstack hdg
  rcases hK m meth c ⟨T.setVm vm₁, locs, cells, slots⟩ { g with stack := rest } (.invokestatic index) mk argsL.toArray X₁ hg hsize hdg hW (X₁.named hnamed) (hpre vm₁ X₁.warmed) with ⟨v, B, X', hpost, hsteps⟩ | ⟨q, B, X', hpost, hsteps⟩
  · exact Or.inl ⟨v, vm₁, B, X₁.warmed, X', hpost, fun target h => hstep₁ _ fun acts => by rw [doInvoke_state]; exact hsteps.trans h⟩
  · exact Or.inr ⟨q, vm₁, B, X₁.warmed, X', hpost, hstep₁ _ fun acts => by rw [doInvoke_state]; exact hsteps⟩
theorem vx_callVW (X : Stand p l e R s m args below meth c T locs cells slots) (hexec : p.tables.exec = Jvm.exec) {own C : String} {index : Nat} {y : MethodName} {bytes : ByteArray} {maxL : Nat} {ret : Option FieldType} {hh : List (Nat × Nat × Nat × Nat)}
    (hown : s.vm.findClass own = some m.cls) (hlink : (Cond.methodLink own index y).before args s = true) (hinst : (Cond.instanceMethod y).before args s = true) (hsel : (Cond.selects C y y).before args s = true)
    (hcode : (Cond.codeWith y bytes maxL ret hh).before args s = true) (hy : y.cls ≠ "java/lang/invoke/MethodHandle" ∧ y.cls ≠ "java/lang/invoke/VarHandle")
    {W9 : Nat} {Pre : Pt → Array Value → Prop} {Post : Pt → Array Value → Option Value → Pt → Prop} (hK : Back l R p e below s args y 3 W9 Pre Post)
    {b : Addr} {cellB : Cell} (hcell : T.heap[b]? = some cellB) (hobj : cellB.vm.isStatics = false) (hcls : s.vm.findClass C = some cellB.cls)
    {g : JFrame} (hg : g.method = m) (hsize : g.locals.size = c.maxLocals) {argsL rest : List Value} (hlen : ∀ sig, parseMethodDescriptor y.desc = some sig → argsL.length = sig.parameters.length)
    (hstack : g.stack = argsL.reverse ++ .ref b :: rest) (hW : 2 * g.monitorRoom + (rest.map fun v => v.category).sum ≤ W9) (hdg : decode c.code g.pc = .ok (.invokevirtual index, 3))
    (hpre : ∀ vm₁, s.WarmedH vm₁ → Pre ⟨T.setVm vm₁, locs, cells, slots⟩ (Value.ref b :: argsL).toArray) :
    ∃ (v : Option Value) (vm₁ : Vm) (B : Pt), s.WarmedH vm₁ ∧ Stand p l e R s m args below meth c B.U B.locs B.cells B.slots ∧ Post ⟨T.setVm vm₁, locs, cells, slots⟩ (Value.ref b :: argsL).toArray v B ∧
      ∀ target, Steps p.tables e below (B.U.setTop { g with pc := g.pc + 3, stack := v.toList ++ rest }) target → Steps p.tables e below (T.setTop g) target := by
  obtain ⟨mk, methM, hnamed, hmethM, hstM, habM⟩ := Cond.instanceMethod_spec hinst
  obtain ⟨m8, methM', cM, hn8, hmethM', -, -, -, -, -, -, hsigM⟩ := Cond.codeWith_spec hcode
  cases Option.some.inj (hn8.symm.trans hnamed)
  cases hmethM.symm.trans hmethM'
  obtain ⟨c2, r2, m2, q1, q2, q3, q4, kP, hkP, hkPi⟩ := Cond.selects_spec hsel
  cases hcls.symm.trans q1
  cases (State.methodFound?_of_named hnamed hy).symm.trans q2
  cases hnamed.symm.trans q3
  have hselP : selectMethod e.platform s.vm cellB.cls mk = .method mk := by rw [Launch.admits_selectMethod X.admits]; exact q4
  obtain ⟨vm₁, X₁, hstep₁⟩ := X.invokevirtual hexec hown hlink hnamed hmethM hstM hkP hkPi hy (a := b) (cell := cellB) hcell
    (fun z h => by rw [h] at hobj; cases hobj) hselP hmethM habM hkP hkPi (g := g) hg (argsL := argsL) (rest := rest) (hlen _ hsigM) hstack hdg
  obtain ⟨v, B, X', hpost, hsteps⟩ := hK m meth c ⟨T.setVm vm₁, locs, cells, slots⟩ { g with stack := rest } (.invokevirtual index) mk (Value.ref b :: argsL).toArray X₁ hg hsize hdg hW (X₁.named hnamed) (hpre vm₁ X₁.warmed)
  exact ⟨v, vm₁, B, X₁.warmed, X', hpost, fun target h => hstep₁ _ fun acts => by rw [doInvoke_state]; exact hsteps.trans h⟩
abbrev vx_CVW (R : Room) (s : State) (args : Array Value) (own C : String) (index : Nat) (y : MethodName) (bytes : ByteArray) (maxL : Nat) (ret : Option FieldType) (hh : List (Nat × Nat × Nat × Nat)) (ws : List Cond) (rm : Room) (mc ms n : Nat) : Prop :=
  (rm.cells = mc ∧ rm.slots = ms ∧ rm.frames + 1 ≤ R.frames ∧ 8 + (maxL + 11) + rm.locals ≤ R.locals ∧ (∀ w ∈ ws, ∀ (a' : Array Value) (U : State), s.WarmedH U.vm → w.before a' U = true) ∧ Cond.codeWith y bytes maxL ret hh ∈ ws) ∧
  (Cond.codeWith y bytes maxL ret hh).before args s = true ∧ (Cond.initialized y.cls).before args s = true ∧ (y.cls ≠ "java/lang/invoke/MethodHandle" ∧ y.cls ≠ "java/lang/invoke/VarHandle") ∧
  (∀ sig, parseMethodDescriptor y.desc = some sig → n = sig.parameters.length) ∧ (Cond.methodLink own index y).before args s = true ∧ (Cond.instanceMethod y).before args s = true ∧ (Cond.selects C y y).before args s = true
theorem vx_cwVW {own C : String} {index maxL mc ms : Nat} {y : MethodName} {bytes : ByteArray} {ret : Option FieldType} {hh : List (Nat × Nat × Nat × Nat)} {Ts ws ws' : List Cond} {rm : Room} (n : Nat) (ht : ∀ w ∈ Ts, w.before args s = true) (hT : GoodIn Ts (wsV own index C y ws)) (hw : ws = Cond.codeWith y bytes maxL ret hh :: ws') (hrc : rm.cells = mc) (hrs : rm.slots = ms)
    (hd : y.cls = C ∧ y.cls ≠ "java/lang/invoke/MethodHandle" ∧ y.cls ≠ "java/lang/invoke/VarHandle" ∧ (parseMethodDescriptor y.desc).map (fun d => d.parameters.length) = some n) (hR : rm.frames + 1 ≤ R.frames ∧ 8 + (maxL + 11) + rm.locals ≤ R.locals) :
    vx_CVW R s args own C index y bytes maxL ret hh ws rm mc ms n := by
  obtain ⟨hC, hd⟩ := hd
  subst hC
  have ok : ∀ w ∈ wsV own index y.cls y ws, w.before args s = true := fun w h => ht w (hT w h).1
  have hG : GoodIn Ts ws := fun w h => hT w (by unfold wsV; exact List.mem_append_right _ h)
  have hc : Cond.codeWith y bytes maxL ret hh ∈ ws := by rw [hw]; exact List.mem_cons_self
  refine ⟨⟨hrc, hrs, hR.1, hR.2, pay_in ht hG, hc⟩, ht _ (hG _ hc).1, ok _ (by simp [wsV]), ⟨hd.1, hd.2.1⟩, fun sig h => ?_, ok _ (by simp [wsV]), ok _ (by simp [wsV]), ok _ (by simp [wsV])⟩
  have h2 := hd.2.2
  rw [h] at h2
  exact (Option.some.inj h2).symm
theorem vx_runVW {y : MethodName} {bytes cc : ByteArray} {maxL nL mc ms n index : Nat} {ret : Option FieldType} {hh : List (Nat × Nat × Nat × Nat)} {ws : List Cond} {rm : Room} {Pc : Array Value → State → Prop} {Qc : Array Value → State → Outcome → State → Prop} {free : Addr → Prop} {Ts : List Cond} {own C : String} {b : Addr} {As rest : List Value} {g : JFrame}
    (S : CallFix p m c cc nL s args Ts own) (hM : Met l y ws rm Pc Qc mc ms free) (cw : vx_CVW R s args own C index y bytes maxL ret hh ws rm mc ms n) (hp : PreV s H C b Pc As)
    (hg : g.method = m) (hn : As.length = n) (hsize : g.locals.size = nL) (hstack : g.stack = As.reverse ++ .ref b :: rest) (hW : 2 * g.monitorRoom + (rest.map fun v => v.category).sum ≤ 8) (hdg : decode cc g.pc = .ok (.invokevirtual index, 3)) (hf : cells + mc ≤ R.cells ∧ slots + ms ≤ R.slots) :
    va_Run p l e R s m args below meth c H locs cells slots mc ms g rest (Qc (Value.ref b :: As).toArray) free := by
  obtain ⟨⟨hrc, hrs, hfr, hlo, hws, hcw⟩, hcode, hini, hy, hlen, hl, hin, hse⟩ := cw
  have hK : Back l R p e below s args y 3 8 (PreOf R mc ms Pc) (PostOf Qc mc ms free) := va_backW (hh := hh) (bytes := bytes) (maxL := maxL) (ret := ret) hM hp.1 hrc hrs hfr hlo hws hcw (fun a' U hW => word_at hW (Or.inl (by first | rfl | simp [Cond.onTables, Cond.keeps, Cond.steady])) hini)
  obtain ⟨hx, hb, hml, ho, -⟩ := S
  obtain ⟨-, ⟨cellB, hcB, hoB, hclB⟩, hPc⟩ := hp
  intro T hT X
  obtain ⟨v, vm₁, ⟨U', l2, c2, s2⟩, hW₁, X', ⟨g', mk, t, L, e1, e2, hq, h1, hL, h2, h3⟩, st⟩ := vx_callVW X hx (C := C) (hh := hh) (bytes := bytes) (maxL := maxL) (ret := ret) ho hl hin hse hcode hy hK (by rw [hT]; exact hcB) hoB hclB hg (hsize.trans hml.symm) (argsL := As) (rest := rest) (fun sig h => hn.trans (hlen sig h)) hstack hW (by rw [hb]; exact hdg)
    (fun vm₁ hW₁ => ⟨hf.1, hf.2, hPc (T.setVm vm₁) hT hW₁⟩)
  dsimp only [Pt.U, Pt.locs, Pt.cells, Pt.slots] at X' e1 e2 h1 h2 h3 st
  subst h1; subst h2; subst h3
  exact ⟨v, (T.setVm vm₁).calling g' mk (Value.ref b :: As).toArray, t, U', L, hT, X', hL, e1, e2, hq, st⟩
section
variable {y : MethodName} {bytes cc : ByteArray} {maxL nL mc ms n index : Nat} {ret : Option FieldType} {ws : List Cond} {rm : Room} {Pc : Array Value → State → Prop} {Qc : Array Value → State → Outcome → State → Prop} {XC : String → State → State → Prop} {free : Addr → Prop} {Ts : List Cond} {own C : String} {b : Addr} {As rest : List Value} {g : JFrame}
theorem vx_runVX {hh : List (Nat × Nat × Nat × Nat)} (S : CallFix p m c cc nL s args Ts own) (hM : vx_Met l y ws rm Pc Qc XC mc ms free) (cw : vx_CVW R s args own C index y bytes maxL ret hh ws rm mc ms n) (hp : PreV s H C b Pc As)
    (hg : g.method = m) (hn : As.length = n) (hsize : g.locals.size = nL) (hstack : g.stack = As.reverse ++ .ref b :: rest) (hW : 2 * g.monitorRoom + (rest.map fun v => v.category).sum ≤ 8) (hdg : decode cc g.pc = .ok (.invokevirtual index, 3)) (hf : cells + mc ≤ R.cells ∧ slots + ms ≤ R.slots) :
    vx_Run p l e R s m args below meth c H locs cells slots mc ms g rest (Qc (Value.ref b :: As).toArray) XC free := by
  obtain ⟨⟨hrc, hrs, hfr, hlo, hws, hcw⟩, hcode, hini, hy, hlen, hl, hin, hse⟩ := cw
  have hK : vx_Back l R p e below s args y 3 8 (PreOf R mc ms Pc) (PostOf Qc mc ms free) (vx_Post XC mc ms free) := vx_backW (hh := hh) (bytes := bytes) (maxL := maxL) (ret := ret) hM hp.1 hrc hrs hfr hlo hws hcw (fun a' U hW => word_at hW (Or.inl (by first | rfl | simp [Cond.onTables, Cond.keeps, Cond.steady])) hini)
  obtain ⟨hx, hb, hml, ho, -⟩ := S
  obtain ⟨-, ⟨cellB, hcB, hoB, hclB⟩, hPc⟩ := hp
  intro T hT X
  rcases vx_callVX X hx (C := C) (hh := hh) (bytes := bytes) (maxL := maxL) (ret := ret) ho hl hin hse hcode hy hK (by rw [hT]; exact hcB) hoB hclB hg (hsize.trans hml.symm) (argsL := As) (rest := rest) (fun sig h => hn.trans (hlen sig h)) hstack hW (by rw [hb]; exact hdg)
    (fun vm₁ hW₁ => ⟨hf.1, hf.2, hPc (T.setVm vm₁) hT hW₁⟩) with ⟨v, vm₁, ⟨U', l2, c2, s2⟩, hW₁, X', ⟨g', mk, t, L, e1, e2, hq, h1, hL, h2, h3⟩, st⟩ | ⟨q, vm₁, ⟨U', l2, c2, s2⟩, hW₁, X', ⟨g', mk, t, L, E, ce, e1, e2, hq, hce, hcv, hcl, h1, hL, h2, h3⟩, st⟩
  · dsimp only [Pt.U, Pt.locs, Pt.cells, Pt.slots] at X' e1 e2 h1 h2 h3 st
    subst h1; subst h2; subst h3
    exact Or.inl ⟨v, (T.setVm vm₁).calling g' mk (Value.ref b :: As).toArray, t, U', L, hT, X', hL, e1, e2, hq, st⟩
  · dsimp only [Pt.U, Pt.locs, Pt.cells, Pt.slots] at X' e1 e2 h1 h2 h3 st hcl
    subst h1; subst h2; subst h3
    exact Or.inr ⟨q, (T.setVm vm₁).calling g' mk (Value.ref b :: As).toArray, t, U', L, E, ce, hT, X', hL, e1, e2, hq, hce, hcv, vx_cls hW₁ hcl, st⟩
theorem vx_runSX {hh : List (Nat × Nat × Nat × Nat)} (S : CallFix p m c cc nL s args Ts own) (hM : vx_Met l y ws rm Pc Qc XC mc ms free) (cw : vx_CSW R s args own index y bytes maxL ret hh ws rm mc ms n) (hp : PreS s H Pc As)
    (hg : g.method = m) (hn : As.length = n) (hsize : g.locals.size = nL) (hstack : g.stack = As.reverse ++ rest) (hW : 2 * g.monitorRoom + (rest.map fun v => v.category).sum ≤ 8) (hdg : decode cc g.pc = .ok (.invokestatic index, 3)) (hf : cells + mc ≤ R.cells ∧ slots + ms ≤ R.slots) :
    vx_Run p l e R s m args below meth c H locs cells slots mc ms g rest (Qc As.toArray) XC free := by
  obtain ⟨⟨hrc, hrs, hfr, hlo, hws, hcw⟩, hcode, hini, hy, hlen, hl, hstt⟩ := cw
  have hK : vx_Back l R p e below s args y 3 8 (PreOf R mc ms Pc) (PostOf Qc mc ms free) (vx_Post XC mc ms free) := vx_backW (hh := hh) (bytes := bytes) (maxL := maxL) (ret := ret) hM hp.1 hrc hrs hfr hlo hws hcw (fun a' U hW => word_at hW (Or.inl (by first | rfl | simp [Cond.onTables, Cond.keeps, Cond.steady])) hini)
  obtain ⟨hx, hb, hml, ho, -⟩ := S
  intro T hT X
  rcases vx_callSX X hx (hh := hh) (bytes := bytes) (maxL := maxL) (ret := ret) ho hl hstt hini hcode hy hK hg (hsize.trans hml.symm) (argsL := As) (rest := rest) (fun sig h => hn.trans (hlen sig h)) hstack hW (by rw [hb]; exact hdg)
    (fun vm₁ hW₁ => ⟨hf.1, hf.2, hp.2 (T.setVm vm₁) hT hW₁⟩) with ⟨v, vm₁, ⟨U', l2, c2, s2⟩, hW₁, X', ⟨g', mk, t, L, e1, e2, hq, h1, hL, h2, h3⟩, st⟩ | ⟨q, vm₁, ⟨U', l2, c2, s2⟩, hW₁, X', ⟨g', mk, t, L, E, ce, e1, e2, hq, hce, hcv, hcl, h1, hL, h2, h3⟩, st⟩
  · dsimp only [Pt.U, Pt.locs, Pt.cells, Pt.slots] at X' e1 e2 h1 h2 h3 st
    subst h1; subst h2; subst h3
    exact Or.inl ⟨v, (T.setVm vm₁).calling g' mk As.toArray, t, U', L, hT, X', hL, e1, e2, hq, st⟩
  · dsimp only [Pt.U, Pt.locs, Pt.cells, Pt.slots] at X' e1 e2 h1 h2 h3 st hcl
    subst h1; subst h2; subst h3
    exact Or.inr ⟨q, (T.setVm vm₁).calling g' mk As.toArray, t, U', L, E, ce, hT, X', hL, e1, e2, hq, hce, hcv, vx_cls hW₁ hcl, st⟩
end
end VXH
theorem vx_ofWH {l : Launch} {y : MethodName} {ws ws' : List Cond} {rm : Room} {Pc : Array Value → State → Prop} {Qc : Array Value → State → Outcome → State → Prop} {XC : String → State → State → Prop} {mc ms : Nat} {free : Addr → Prop} {cc : ByteArray} {maxL : Nat} {ret : Option FieldType} {hh : List (Nat × Nat × Nat × Nat)}
    (hy : plainName y.cls = true) (hw : ws = Cond.codeWith y cc maxL ret hh :: ws')
    (body : ∀ p e s m args below meth c s₁, BodyLoose p l y (headSpec ws rm) cc maxL ret e s m args below meth c s₁ → c.maxLocals = maxL → Pc args s →
      W p l e (headSpec ws rm).room s m args below meth c s.heap [] 0 0 (vx_MQ below Qc XC args s mc ms free) (entryFrame m args maxL)) : vx_Met l y ws rm Pc Qc XC mc ms free := by
  refine MetFree.of_bodyS (code := cc) (maxLocals := maxL) (ret := ret) hy ?_ ?_
  · intro args s m h hn
    obtain ⟨m9, meth, c, hn9, h1, h2, h3, h4, -, h5, h6, -⟩ := Cond.codeWith_spec (atoms_spec (ws := ws) h _ (by rw [hw]; exact List.mem_cons_self))
    cases hn.symm.trans hn9
    exact ⟨meth, c, h1, h2, h3, h4, h5, h6⟩
  · intro p e s m args below meth c s₁ B hml hP _
    have hh0 : s₁.heap = s.heap := by rw [B.state]; rfl
    obtain ⟨t, a1, o, b1, b2, b3⟩ := body p e s m args below meth c s₁ B hml hP s₁ hh0 (Stand.of_body B)
    exact ⟨t, o, a1, b1, b2, b3⟩
/-! ===== END ===== -/
end
section
/-! A SMALL MACHINE over lists: what a method's instructions do, as a function of a heap that is a list of objects; later it is shown that the true machine goes the same way. A reference is the place of an object, counted from the outer things (rows that are only read: the first of them) on. -/
/-- a thing of the list: a row (its type's number, its length, what was written: the last first), or an object (its class's number, its fields) -/
abbrev mO : Type := (Nat × Nat × List (Nat × Value)) ⊕ (Nat × List Value)
/-- an outer thing: a row, whatever it holds, or an object -/
abbrev mX : Type := (Nat × vp_A) ⊕ (Nat × List Value)
/-- the outer things: rows and objects that are only read, the first places -/
abbrev mE : Type := List mX
abbrev mIns : Type := Nat × Instr × Nat × Nat × Nat × Nat
abbrev mMth : Type := MethodName × ByteArray × Nat × Option FieldType × String × Nat × Nat
abbrev mLv : Type := List (Nat × Value)
/-- heap, cells and slots made in this call -/
abbrev mH : Type := List mO × Nat × Nat
/-- method, place, locals, stack -/
abbrev mF : Type := Nat × Nat × mLv × List Value
abbrev mS : Type := mF × mH
def mlook (l : List mIns) (pc : Nat) : Option mIns := match l with
  | [] => none
  | e :: r => if e.1 = pc then some e else mlook r pc
def mcode (j : Nat) : List mIns := mCodes.getD j []
def mmeth (j : Nat) : Option mMth := mMeths[j]?
def mlv (l : mLv) (i : Nat) : Option Value := match l with
  | [] => none
  | q :: r => if q.1 = i then some q.2 else mlv r i
def mset1 (l : mLv) (i : Nat) (v : Value) : mLv := (i, v) :: l.filter (fun q => !(q.1 == i) && !(q.1 + 1 == i && q.2.category == 2))
def mset2 (l : mLv) (i : Nat) (v : Value) : mLv := (i, v) :: l.filter (fun q => !(q.1 == i) && (!(q.1 == i + 1) && !(q.1 + 1 == i && q.2.category == 2)))
def mget (X : Nat) (h : List mO) (a : Nat) : Option mO := if a < X then none else h[a - X]?
/-- what was written last at a place -/
def mup (u : List (Nat × Value)) (j : Nat) : Option Value := match u with
  | [] => none
  | q :: r => if q.1 = j then some q.2 else mup r j
def mupI (u : List (Nat × Value)) (j : Nat) : Int32 := match mup u j with
  | some (.int x) => x
  | _ => 0
def mupL (u : List (Nat × Value)) (j : Nat) : Int64 := match mup u j with
  | some (.long x) => x
  | _ => 0
def mupD (u : List (Nat × Value)) (j : Nat) : UInt64 := match mup u j with
  | some (.double x) => x
  | _ => 0
def mupR (u : List (Nat × Value)) (j : Nat) : Option Nat := match mup u j with
  | some (.ref x) => some x
  | _ => none
def mtgt (pc : Nat) (off : Int) : Nat := ((pc : Int) + off).toNat
def mjmp (pc : Nat) (off : Int) : Bool := decide (0 ≤ (pc : Int) + off)
/-- an instruction that stays in the method, and makes, reads or writes nothing of the heap: the next place, the locals, the stack -/
def mpure (nL : Nat) (e : mIns) (lv : mLv) (st : List Value) : Option (Nat × mLv × List Value) := match e.2.1 with
  | .iconst n => some (e.1 + 1, lv, .int (Int32.ofInt n) :: st)
  | .bipush n => some (e.1 + 2, lv, .int (Int8.ofInt n).toInt32 :: st)
  | .sipush n => some (e.1 + 3, lv, .int (Int16.ofInt n).toInt32 :: st)
  | .lconst n => some (e.1 + 1, lv, .long (Int64.ofNat (n : Nat)) :: st)
  | .dconst n => if (n : Nat) = 0 then some (e.1 + 1, lv, .double FP.dconst0 :: st) else none
  | .iload_n k => match mlv lv (k : Nat) with
    | some (.int x) => some (e.1 + 1, lv, .int x :: st)
    | _ => none
  | .iload i => match mlv lv i with
    | some (.int x) => some (e.1 + 2, lv, .int x :: st)
    | _ => none
  | .lload_n k => match mlv lv (k : Nat) with
    | some (.long x) => some (e.1 + 1, lv, .long x :: st)
    | _ => none
  | .lload i => match mlv lv i with
    | some (.long x) => some (e.1 + 2, lv, .long x :: st)
    | _ => none
  | .aload_n k => match mlv lv (k : Nat) with
    | some (.ref x) => some (e.1 + 1, lv, .ref x :: st)
    | _ => none
  | .aload i => match mlv lv i with
    | some (.ref x) => some (e.1 + 2, lv, .ref x :: st)
    | _ => none
  | .istore_n k => match st with
    | .int x :: r => if (k : Nat) < nL then some (e.1 + 1, mset1 lv (k : Nat) (.int x), r) else none
    | _ => none
  | .istore i => match st with
    | .int x :: r => if i < nL then some (e.1 + 2, mset1 lv i (.int x), r) else none
    | _ => none
  | .lstore_n k => match st with
    | .long x :: r => if (k : Nat) + 1 < nL then some (e.1 + 1, mset2 lv (k : Nat) (.long x), r) else none
    | _ => none
  | .lstore i => match st with
    | .long x :: r => if i + 1 < nL then some (e.1 + 2, mset2 lv i (.long x), r) else none
    | _ => none
  | .astore_n k => match st with
    | .ref x :: r => if (k : Nat) < nL then some (e.1 + 1, mset1 lv (k : Nat) (.ref x), r) else none
    | _ => none
  | .astore i => match st with
    | .ref x :: r => if i < nL then some (e.1 + 2, mset1 lv i (.ref x), r) else none
    | _ => none
  | .iinc i n => match mlv lv i with
    | some (.int x) => if i < nL then some (e.1 + 3, mset1 lv i (.int (x + Int32.ofInt n)), st) else none
    | _ => none
  | .iadd => match st with
    | .int y :: .int x :: r => some (e.1 + 1, lv, .int (x + y) :: r)
    | _ => none
  | .isub => match st with
    | .int y :: .int x :: r => some (e.1 + 1, lv, .int (x - y) :: r)
    | _ => none
  | .imul => match st with
    | .int y :: .int x :: r => some (e.1 + 1, lv, .int (x * y) :: r)
    | _ => none
  | .iand => match st with
    | .int y :: .int x :: r => some (e.1 + 1, lv, .int (x &&& y) :: r)
    | _ => none
  | .idiv => match st with
    | .int y :: .int x :: r => if y = 0 then none else some (e.1 + 1, lv, .int (x / y) :: r)
    | _ => none
  | .ineg => match st with
    | .int x :: r => some (e.1 + 1, lv, .int (-x) :: r)
    | _ => none
  | .ladd => match st with
    | .long y :: .long x :: r => some (e.1 + 1, lv, .long (x + y) :: r)
    | _ => none
  | .lmul => match st with
    | .long y :: .long x :: r => some (e.1 + 1, lv, .long (x * y) :: r)
    | _ => none
  | .i2l => match st with
    | .int x :: r => some (e.1 + 1, lv, .long x.toInt64 :: r)
    | _ => none
  | .dup => match st with
    | v :: r => if v.category = 1 then some (e.1 + 1, lv, v :: v :: r) else none
    | _ => none
  | .pop => match st with
    | v :: r => if v.category = 1 then some (e.1 + 1, lv, r) else none
    | _ => none
  | .aconst_null => some (e.1 + 1, lv, .null :: st)
  | .dup_x1 => match st with
    | v :: w :: r => if v.category = 1 ∧ w.category = 1 then some (e.1 + 1, lv, v :: w :: v :: r) else none
    | _ => none
  | .dup2 => match st with
    | v :: w :: r => if v.category = 1 ∧ w.category = 1 then some (e.1 + 1, lv, v :: w :: v :: w :: r) else none
    | _ => none
  | .if_acmp .eq off => match st with
    | .ref x :: .ref y :: r => if x = y ∧ mjmp e.1 off = true then some (mtgt e.1 off, lv, r) else none
    | _ => none
  | .if_acmp .ne off => match st with
    | .ref x :: .ref y :: r => if x = y ∧ mjmp e.1 off = true then some (e.1 + 3, lv, r) else none
    | _ => none
  | .goto off => if mjmp e.1 off then some (mtgt e.1 off, lv, st) else none
  | .ifCond .eq off => match st with
    | .int x :: r => if mjmp e.1 off then some (if x = 0 then mtgt e.1 off else e.1 + 3, lv, r) else none
    | _ => none
  | .ifCond .ne off => match st with
    | .int x :: r => if mjmp e.1 off then some (if x = 0 then e.1 + 3 else mtgt e.1 off, lv, r) else none
    | _ => none
  | .ifCond .lt off => match st with
    | .int x :: r => if mjmp e.1 off then some (if x < 0 then mtgt e.1 off else e.1 + 3, lv, r) else none
    | _ => none
  | .ifCond .ge off => match st with
    | .int x :: r => if mjmp e.1 off then some (if 0 ≤ x then mtgt e.1 off else e.1 + 3, lv, r) else none
    | _ => none
  | .ifCond .gt off => match st with
    | .int x :: r => if mjmp e.1 off then some (if 0 < x then mtgt e.1 off else e.1 + 3, lv, r) else none
    | _ => none
  | .ifCond .le off => match st with
    | .int x :: r => if mjmp e.1 off then some (if x ≤ 0 then mtgt e.1 off else e.1 + 3, lv, r) else none
    | _ => none
  | .if_icmp .eq off => match st with
    | .int y :: .int x :: r => if mjmp e.1 off then some (if x = y then mtgt e.1 off else e.1 + 3, lv, r) else none
    | _ => none
  | .if_icmp .ne off => match st with
    | .int y :: .int x :: r => if mjmp e.1 off then some (if x = y then e.1 + 3 else mtgt e.1 off, lv, r) else none
    | _ => none
  | .if_icmp .lt off => match st with
    | .int y :: .int x :: r => if mjmp e.1 off then some (if x < y then mtgt e.1 off else e.1 + 3, lv, r) else none
    | _ => none
  | .if_icmp .ge off => match st with
    | .int y :: .int x :: r => if mjmp e.1 off then some (if y ≤ x then mtgt e.1 off else e.1 + 3, lv, r) else none
    | _ => none
  | .if_icmp .gt off => match st with
    | .int y :: .int x :: r => if mjmp e.1 off then some (if y < x then mtgt e.1 off else e.1 + 3, lv, r) else none
    | _ => none
  | .if_icmp .le off => match st with
    | .int y :: .int x :: r => if mjmp e.1 off then some (if x ≤ y then mtgt e.1 off else e.1 + 3, lv, r) else none
    | _ => none
  | .irem => match st with
    | .int y :: .int x :: r => if y = 0 then none else some (e.1 + 1, lv, .int (x - x / y * y) :: r)
    | _ => none
  | .ishr => match st with
    | .int y :: .int x :: r => some (e.1 + 1, lv, .int (x >>> (y &&& 31)) :: r)
    | _ => none
  | .lcmp => match st with
    | .long y :: .long x :: r => some (e.1 + 1, lv, .int (lg_cmp x y) :: r)
    | _ => none
  | .i2d => match st with
    | .int x :: r => some (e.1 + 1, lv, .double (FP.i2d x) :: r)
    | _ => none
  | .l2d => match st with
    | .long x :: r => some (e.1 + 1, lv, .double (FP.l2d x) :: r)
    | _ => none
  | .ddiv => match st with
    | .double y :: .double x :: r => if FP.ddiv x y &&& 0x7fffffffffffffff ≤ 0x7ff0000000000000 then some (e.1 + 1, lv, .double (FP.ddiv x y) :: r) else none
    | _ => none
  | .dcmp op => match st with
    | .double y :: .double x :: r => some (e.1 + 1, lv, .int (Op.cmpValue (FP.dcmp x y) op) :: r)
    | _ => none
  | .dload_n k => match mlv lv (k : Nat) with
    | some (.double x) => some (e.1 + 1, lv, .double x :: st)
    | _ => none
  | .dload i => match mlv lv i with
    | some (.double x) => some (e.1 + 2, lv, .double x :: st)
    | _ => none
  | .dstore_n k => match st with
    | .double x :: r => if (k : Nat) + 1 < nL then some (e.1 + 1, mset2 lv (k : Nat) (.double x), r) else none
    | _ => none
  | .dstore i => match st with
    | .double x :: r => if i + 1 < nL then some (e.1 + 2, mset2 lv i (.double x), r) else none
    | _ => none
  | .tableswitch dflt lo hi offs => match st with
    | .int x :: r => if x.toInt < lo ∨ hi < x.toInt then (if mjmp e.1 dflt then some (mtgt e.1 dflt, lv, r) else none) else (match offs[(x.toInt - lo).toNat]? with
      | some off => if mjmp e.1 off then some (mtgt e.1 off, lv, r) else none
      | none => none)
    | _ => none
  | .lookupswitch dflt ps => match st with
    | .int x :: r => if (ps.toList.zip (ps.toList.drop 1)).all (fun (a, next) => a.1 < next.1) = true then (if mjmp e.1 (Op.lookupswitch.offset ps.toList dflt x.toInt) then some (mtgt e.1 (Op.lookupswitch.offset ps.toList dflt x.toInt), lv, r) else none) else none
    | _ => none
  | _ => none
end
section
/-! ===== the true machine's side: a place of the list is an address ===== -/
def trV (ad : Nat → Nat) (v : Value) : Value := match v with
  | .ref a => .ref (ad a)
  | v => v
def trL (ad : Nat → Nat) (l : mLv) : List (Nat × Value) := l.map (fun q => (q.1, trV ad q.2))
theorem trV_cat (ad : Nat → Nat) (v : Value) : (trV ad v).category = v.category := by cases v <;> rfl
theorem mlv_mem {l : mLv} {i : Nat} {v : Value} (h : mlv l i = some v) : (i, v) ∈ l := by
  induction l with
  | nil => cases h
  | cons q r ih =>
    unfold mlv at h
    split at h
    · rename_i hq
      cases h
      rw [← hq]
      exact List.mem_cons_self
    · exact List.mem_cons_of_mem _ (ih h)
theorem trL_mem {ad : Nat → Nat} {l : mLv} {i : Nat} {v : Value} (h : mlv l i = some v) : (i, trV ad v) ∈ trL ad l := List.mem_map.mpr ⟨(i, v), mlv_mem h, rfl⟩
theorem trL_at {ad : Nat → Nat} {ls : Array Slot} {nL : Nat} {l : mLv} {i : Nat} {v : Value} (h : lv_has ls nL (trL ad l)) (hm : mlv l i = some v) : ls[i]? = some (.val (trV ad v)) := h.2.2 (i, trV ad v) (trL_mem hm)
theorem trL_set1 (ad : Nat → Nat) (l : mLv) (i : Nat) (v : Value) : (i, trV ad v) :: (trL ad l).filter (fun q => !(q.1 == i) && !(q.1 + 1 == i && q.2.category == 2)) = trL ad (mset1 l i v) := by
  simp only [trL, mset1, List.map_cons, List.filter_map]
  congr 2
  apply List.filter_congr
  intro q _
  simp [trV_cat]
theorem trL_set2 (ad : Nat → Nat) (l : mLv) (i : Nat) (v : Value) : (i, trV ad v) :: (trL ad l).filter (fun q => !(q.1 == i) && (!(q.1 == i + 1) && !(q.1 + 1 == i && q.2.category == 2))) = trL ad (mset2 l i v) := by
  simp only [trL, mset2, List.map_cons, List.filter_map]
  congr 2
  apply List.filter_congr
  intro q _
  simp [trV_cat]
theorem mtgt_ok {pc : Nat} {off : Int} (h : mjmp pc off = true) : (pc : Int) + off = ((mtgt pc off : Nat) : Int) := by
  have h1 : 0 ≤ (pc : Int) + off := of_decide_eq_true h
  exact (Int.toNat_of_nonneg h1).symm
def mlen (i : Instr) (n : Nat) : Nat := match i with
  | .bipush _ => 2 | .sipush _ => 3 | .iload _ => 2 | .lload _ => 2 | .aload _ => 2 | .istore _ => 2 | .lstore _ => 2 | .astore _ => 2 | .dload _ => 2 | .dstore _ => 2
  | .iinc _ _ => 3 | .goto _ => 3 | .ifCond _ _ => 3 | .if_icmp _ _ => 3 | .ifnull _ => 3 | .ifnonnull _ => 3 | .if_acmp _ _ => 3
  | .getfield _ => 3 | .putfield _ => 3 | .getstatic _ => 3 | .new _ => 3 | .newarray _ => 2 | .anewarray _ => 3 | .checkcast _ => 3
  | .invokevirtual _ => 3 | .invokespecial _ => 3 | .invokestatic _ => 3 | .ldc _ => 2 | .ldc2_w _ => 3
  | .tableswitch _ _ _ _ => n | .lookupswitch _ _ => n | .invokeinterface _ _ => 5
  | _ => 1
section MP
variable {p : Program} {l : Launch} {e : Env} {R : Room} {s : State} {m : MethodId} {args : Array Value} {below : List Frame} {meth : Method} {c : Code} {H : Heap} {locs : List Loc} {cells slots : Nat} {Q : State → Prop}
set_option maxHeartbeats 4000000 in
theorem sd_pure {cc : ByteArray} (hx : p.tables.exec = Jvm.exec) (hb : c.code = cc) {ad : Nat → Nat} {nL : Nat} {i : mIns} {lv lv' : mLv} {st st' : List Value} {pc' : Nat} {ls : Array Slot} (hp : mpure nL i lv st = some (pc', lv', st')) (hd : decode cc i.1 = .ok (i.2.1, mlen i.2.1 i.2.2.1)) (hl : lv_has ls nL (trL ad lv))
    (kk : ∀ ls' : Array Slot, lv_has ls' nL (trL ad lv') → W p l e R s m args below meth c H locs cells slots Q (F0 m pc' ls' (st'.map (trV ad)))) : W p l e R s m args below meth c H locs cells slots Q (F0 m i.1 ls (st.map (trV ad))) := by
  obtain ⟨pc, i, n, a, b, d⟩ := i
  cases i
  case iconst n =>
    simp only [mpure] at hp; cases hp; exact lv_iconst hx hb hd rfl (kk _ hl)
  case bipush n =>
    simp only [mpure] at hp; cases hp; exact lv_bipush hx hb hd rfl (kk _ hl)
  case sipush n =>
    simp only [mpure] at hp; cases hp; exact lv_sipush hx hb hd rfl (kk _ hl)
  case lconst n =>
    simp only [mpure] at hp; cases hp; exact lv_lconst hx hb hd rfl (kk _ hl)
  case dconst n =>
    simp only [mpure] at hp; split at hp
    · rename_i h0; cases hp
      have h1 : n = 0 := Fin.ext h0
      subst h1
      exact lv_dconst0 hx hb hd (kk _ hl)
    · cases hp
  case iload_n k =>
    simp only [mpure] at hp; split at hp
    · rename_i h0; cases hp; exact lv_iload_n hx hb hd rfl (trL_at hl h0) (kk _ hl)
    · cases hp
  case iload k =>
    simp only [mpure] at hp; split at hp
    · rename_i h0; cases hp; exact lv_iload hx hb hd (trL_at hl h0) (kk _ hl)
    · cases hp
  case lload_n k =>
    simp only [mpure] at hp; split at hp
    · rename_i h0; cases hp; exact lv_lload_n hx hb hd rfl (trL_at hl h0) (kk _ hl)
    · cases hp
  case lload k =>
    simp only [mpure] at hp; split at hp
    · rename_i h0; cases hp; exact lv_lload hx hb hd (trL_at hl h0) (kk _ hl)
    · cases hp
  case aload_n k =>
    simp only [mpure] at hp; split at hp
    · rename_i h0; cases hp; exact lv_aload_n hx hb hd rfl (trL_at hl h0) (kk _ hl)
    · cases hp
  case aload k =>
    simp only [mpure] at hp; split at hp
    · rename_i h0; cases hp; exact lv_aload hx hb hd (trL_at hl h0) (kk _ hl)
    · cases hp
  case istore_n k =>
    simp only [mpure] at hp; split at hp
    · split at hp
      · rename_i h0; cases hp; exact lv_istore_n hx hb hd rfl hl h0 (trL_set1 ad lv _ (.int _)) kk
      · cases hp
    · cases hp
  case istore k =>
    simp only [mpure] at hp; split at hp
    · split at hp
      · rename_i h0; cases hp; exact lv_istore hx hb hd hl h0 (trL_set1 ad lv _ (.int _)) kk
      · cases hp
    · cases hp
  case lstore_n k =>
    simp only [mpure] at hp; split at hp
    · split at hp
      · rename_i h0; cases hp; exact lv_lstore_n hx hb hd rfl hl h0 (trL_set2 ad lv _ (.long _)) kk
      · cases hp
    · cases hp
  case lstore k =>
    simp only [mpure] at hp; split at hp
    · split at hp
      · rename_i h0; cases hp; exact lv_lstore hx hb hd hl h0 (trL_set2 ad lv _ (.long _)) kk
      · cases hp
    · cases hp
  case astore_n k =>
    simp only [mpure] at hp; split at hp
    · split at hp
      · rename_i h0; cases hp; exact lv_astore_n hx hb hd rfl hl h0 (trL_set1 ad lv _ (.ref _)) kk
      · cases hp
    · cases hp
  case astore k =>
    simp only [mpure] at hp; split at hp
    · split at hp
      · rename_i h0; cases hp; exact lv_astore hx hb hd hl h0 (trL_set1 ad lv _ (.ref _)) kk
      · cases hp
    · cases hp
  case iinc k n =>
    simp only [mpure] at hp; split at hp
    · rename_i h0; split at hp
      · rename_i h1; cases hp
        obtain ⟨q, hq⟩ := List.getElem?_of_mem (trL_mem (ad := ad) h0)
        exact lv_iinc hx hb hd hl hq rfl h1 (trL_set1 ad lv _ (.int _)) kk
      · cases hp
    · cases hp
  case iadd =>
    simp only [mpure] at hp; split at hp
    · cases hp; exact lv_iadd hx hb hd (kk _ hl)
    · cases hp
  case isub =>
    simp only [mpure] at hp; split at hp
    · cases hp; exact lv_isub hx hb hd (kk _ hl)
    · cases hp
  case imul =>
    simp only [mpure] at hp; split at hp
    · cases hp; exact lv_imul hx hb hd (kk _ hl)
    · cases hp
  case iand =>
    simp only [mpure] at hp; split at hp
    · cases hp; exact lv_iand hx hb hd (kk _ hl)
    · cases hp
  case ineg =>
    simp only [mpure] at hp; split at hp
    · cases hp; exact lv_ineg hx hb hd (kk _ hl)
    · cases hp
  case ladd =>
    simp only [mpure] at hp; split at hp
    · cases hp; exact lv_ladd hx hb hd (kk _ hl)
    · cases hp
  case lmul =>
    simp only [mpure] at hp; split at hp
    · cases hp; exact lv_lmul hx hb hd (kk _ hl)
    · cases hp
  case ishr =>
    simp only [mpure] at hp; split at hp
    · cases hp; exact lv_ishr hx hb hd (kk _ hl)
    · cases hp
  case i2d =>
    simp only [mpure] at hp; split at hp
    · cases hp; exact lv_i2d hx hb hd (kk _ hl)
    · cases hp
  case l2d =>
    simp only [mpure] at hp; split at hp
    · cases hp; exact lv_l2d hx hb hd (kk _ hl)
    · cases hp
  case dcmp op =>
    simp only [mpure] at hp; split at hp
    · cases hp; exact lv_dcmp hx hb hd (kk _ hl)
    · cases hp
  case idiv =>
    simp only [mpure] at hp; split at hp
    · split at hp
      · cases hp
      · rename_i h0; cases hp; exact lv_idiv hx hb hd h0 (kk _ hl)
    · cases hp
  case irem =>
    simp only [mpure] at hp; split at hp
    · split at hp
      · cases hp
      · rename_i h0; cases hp; exact lv_irem hx hb hd h0 (kk _ hl)
    · cases hp
  case lcmp =>
    simp only [mpure] at hp; split at hp
    · cases hp; exact W.lcmp hx hb hd (kk _ hl)
    · cases hp
  case ddiv =>
    simp only [mpure] at hp; split at hp
    · split at hp
      · rename_i h0; cases hp; exact lv_ddiv hx hb hd h0 (kk _ hl)
      · cases hp
    · cases hp
  case dload_n k =>
    simp only [mpure] at hp; split at hp
    · rename_i h0; cases hp; exact lv_dload_n hx hb hd rfl (trL_at hl h0) (kk _ hl)
    · cases hp
  case dload k =>
    simp only [mpure] at hp; split at hp
    · rename_i h0; cases hp; exact lv_dload hx hb hd (trL_at hl h0) (kk _ hl)
    · cases hp
  case dstore_n k =>
    simp only [mpure] at hp; split at hp
    · split at hp
      · rename_i h0; cases hp; exact lv_dstore_n hx hb hd rfl hl h0 (trL_set2 ad lv _ (.double _)) kk
      · cases hp
    · cases hp
  case dstore k =>
    simp only [mpure] at hp; split at hp
    · split at hp
      · rename_i h0; cases hp; exact lv_dstore hx hb hd hl h0 (trL_set2 ad lv _ (.double _)) kk
      · cases hp
    · cases hp
  case tableswitch dflt lo hi offs =>
    simp only [mpure] at hp; split at hp
    · split at hp
      · rename_i h0; split at hp
        · rename_i h1; cases hp; exact lv_tableOut hx hb hd h0 (mtgt_ok h1) (kk _ hl)
        · cases hp
      · rename_i h0; split at hp
        · rename_i h2; split at hp
          · rename_i h1; cases hp; exact lv_tableIn hx hb hd (fun h => h0 (Or.inl h)) (fun h => h0 (Or.inr h)) h2 (mtgt_ok h1) (kk _ hl)
          · cases hp
        · cases hp
    · cases hp
  case lookupswitch dflt ps =>
    simp only [mpure] at hp; split at hp
    · split at hp
      · rename_i h0; split at hp
        · rename_i h1; cases hp; exact lv_lookup hx hb hd h0 rfl (mtgt_ok h1) (kk _ hl)
        · cases hp
      · cases hp
    · cases hp
  case i2l =>
    simp only [mpure] at hp; split at hp
    · cases hp; exact lv_i2l hx hb hd rfl (kk _ hl)
    · cases hp
  case dup =>
    simp only [mpure] at hp; split at hp
    · split at hp
      · rename_i h0; cases hp; exact lv_dup hx hb hd ((trV_cat ad _).trans h0) (kk _ hl)
      · cases hp
    · cases hp
  case pop =>
    simp only [mpure] at hp; split at hp
    · split at hp
      · rename_i h0; cases hp; exact lv_pop hx hb hd ((trV_cat ad _).trans h0) (kk _ hl)
      · cases hp
    · cases hp
  case aconst_null =>
    simp only [mpure] at hp; cases hp; exact lv_null hx hb hd (kk _ hl)
  case dup_x1 =>
    simp only [mpure] at hp; split at hp
    · split at hp
      · rename_i h0; cases hp; exact lv_dup_x1 hx hb hd ((trV_cat ad _).trans h0.1) ((trV_cat ad _).trans h0.2) (kk _ hl)
      · cases hp
    · cases hp
  case dup2 =>
    simp only [mpure] at hp; split at hp
    · split at hp
      · rename_i h0; cases hp; exact lv_dup2_11 hx hb hd ((trV_cat ad _).trans h0.1) ((trV_cat ad _).trans h0.2) (kk _ hl)
      · cases hp
    · cases hp
  case if_acmp cd off =>
    cases cd
    case eq =>
      simp only [mpure] at hp; split at hp
      · split at hp
        · rename_i x y r h0; obtain ⟨h1, h2⟩ := h0; cases hp
          exact lv_acmp_eq (rx := some (ad y)) (ry := some (ad x)) hx hb hd (mtgt_ok h2) (fun _ => kk _ hl) (fun h9 => absurd (by rw [h1]) h9)
        · cases hp
      · cases hp
    case ne =>
      simp only [mpure] at hp; split at hp
      · split at hp
        · rename_i x y r h0; obtain ⟨h1, h2⟩ := h0; cases hp
          exact lv_acmp_ne (rx := some (ad y)) (ry := some (ad x)) hx hb hd (mtgt_ok h2) (fun h9 => absurd (by rw [h1]) h9) (fun _ => kk _ hl)
        · cases hp
      · cases hp
  case goto off =>
    simp only [mpure] at hp; split at hp
    · rename_i h0; cases hp; exact lv_goto hx hb hd (mtgt_ok h0) (kk _ hl)
    · cases hp
  case ifCond cd off =>
    cases cd
    case eq =>
      simp only [mpure] at hp; split at hp
      · split at hp
        · rename_i h0; cases hp; refine lv_if_eq hx hb hd (mtgt_ok h0) (fun h => ?_) (fun h => ?_)
          · have k1 := kk _ hl
            rw [if_pos h] at k1
            exact k1
          · have k1 := kk _ hl
            rw [if_neg h] at k1
            exact k1
        · cases hp
      · cases hp
    case ne =>
      simp only [mpure] at hp; split at hp
      · split at hp
        · rename_i h0; cases hp; refine lv_if_ne hx hb hd (mtgt_ok h0) (fun h => ?_) (fun h => ?_)
          · have k1 := kk _ hl
            rw [if_neg h] at k1
            exact k1
          · have k1 := kk _ hl
            rw [if_pos h] at k1
            exact k1
        · cases hp
      · cases hp
    case lt =>
      simp only [mpure] at hp; split at hp
      · split at hp
        · rename_i h0; cases hp; refine lv_if_lt hx hb hd (mtgt_ok h0) (fun h => ?_) (fun h => ?_)
          · have k1 := kk _ hl
            rw [if_pos h] at k1
            exact k1
          · have k1 := kk _ hl
            rw [if_neg h] at k1
            exact k1
        · cases hp
      · cases hp
    case ge =>
      simp only [mpure] at hp; split at hp
      · split at hp
        · rename_i h0; cases hp; refine lv_if_ge hx hb hd (mtgt_ok h0) (fun h => ?_) (fun h => ?_)
          · have k1 := kk _ hl
            rw [if_pos h] at k1
            exact k1
          · have k1 := kk _ hl
            rw [if_neg h] at k1
            exact k1
        · cases hp
      · cases hp
    case gt =>
      simp only [mpure] at hp; split at hp
      · split at hp
        · rename_i h0; cases hp; refine lv_if_gt hx hb hd (mtgt_ok h0) (fun h => ?_) (fun h => ?_)
          · have k1 := kk _ hl
            rw [if_pos h] at k1
            exact k1
          · have k1 := kk _ hl
            rw [if_neg h] at k1
            exact k1
        · cases hp
      · cases hp
    case le =>
      simp only [mpure] at hp; split at hp
      · split at hp
        · rename_i h0; cases hp; refine lv_if_le hx hb hd (mtgt_ok h0) (fun h => ?_) (fun h => ?_)
          · have k1 := kk _ hl
            rw [if_pos h] at k1
            exact k1
          · have k1 := kk _ hl
            rw [if_neg h] at k1
            exact k1
        · cases hp
      · cases hp
  case if_icmp cd off =>
    cases cd
    case eq =>
      simp only [mpure] at hp; split at hp
      · split at hp
        · rename_i h0; cases hp; refine lv_icmp_eq hx hb hd (mtgt_ok h0) (fun h => ?_) (fun h => ?_)
          · have k1 := kk _ hl
            rw [if_pos h] at k1
            exact k1
          · have k1 := kk _ hl
            rw [if_neg h] at k1
            exact k1
        · cases hp
      · cases hp
    case ne =>
      simp only [mpure] at hp; split at hp
      · split at hp
        · rename_i h0; cases hp; refine lv_icmp_ne hx hb hd (mtgt_ok h0) (fun h => ?_) (fun h => ?_)
          · have k1 := kk _ hl
            rw [if_neg h] at k1
            exact k1
          · have k1 := kk _ hl
            rw [if_pos h] at k1
            exact k1
        · cases hp
      · cases hp
    case lt =>
      simp only [mpure] at hp; split at hp
      · split at hp
        · rename_i h0; cases hp; refine lv_icmp_lt hx hb hd (mtgt_ok h0) (fun h => ?_) (fun h => ?_)
          · have k1 := kk _ hl
            rw [if_pos h] at k1
            exact k1
          · have k1 := kk _ hl
            rw [if_neg h] at k1
            exact k1
        · cases hp
      · cases hp
    case ge =>
      simp only [mpure] at hp; split at hp
      · split at hp
        · rename_i h0; cases hp; refine lv_icmp_ge hx hb hd (mtgt_ok h0) (fun h => ?_) (fun h => ?_)
          · have k1 := kk _ hl
            rw [if_pos h] at k1
            exact k1
          · have k1 := kk _ hl
            rw [if_neg h] at k1
            exact k1
        · cases hp
      · cases hp
    case gt =>
      simp only [mpure] at hp; split at hp
      · split at hp
        · rename_i h0; cases hp; refine lv_icmp_gt hx hb hd (mtgt_ok h0) (fun h => ?_) (fun h => ?_)
          · have k1 := kk _ hl
            rw [if_pos h] at k1
            exact k1
          · have k1 := kk _ hl
            rw [if_neg h] at k1
            exact k1
        · cases hp
      · cases hp
    case le =>
      simp only [mpure] at hp; split at hp
      · split at hp
        · rename_i h0; cases hp; refine lv_icmp_le hx hb hd (mtgt_ok h0) (fun h => ?_) (fun h => ?_)
          · have k1 := kk _ hl
            rw [if_pos h] at k1
            exact k1
          · have k1 := kk _ hl
            rw [if_neg h] at k1
            exact k1
        · cases hp
      · cases hp
  all_goals (simp only [mpure] at hp; cases hp)
end MP
end
section
/-! ===== the heap of the small machine, its instructions ===== -/
def mfty (a b : Nat) : FieldType := match mFT[a]? with
  | some t => t b
  | none => .int
def mdef (a N : Nat) : List Value := (List.range N).map (fun k => defaultValue (mfty a k))
/-- can a thing of the class a be stored in a row of C -/
def mcast (a : Nat) (C : String) : Bool := match mCl[a]? with
  | some c => decide (Cond.castable c.1 C ∈ mXw)
  | none => false
/-- an object's class's number and fields, outer or not -/
def mobjE (E : mE) (h : List mO) (a : Nat) : Option (Nat × List Value) := if a < E.length then (match E[a]? with
    | some (.inr o) => some o
    | _ => none) else (match h[a - E.length]? with
    | some (.inr o) => some o
    | _ => none)
/-- a row of the list, of the type t -/
def mrow (X t : Nat) (h : List mO) (a : Nat) : Option (Nat × List (Nat × Value)) := match mget X h a with
  | some (.inl x) => if x.1 = t then some x.2 else none
  | _ => none
def mwords (st : List Value) : Nat := (st.map fun v => v.category).sum
/-- what a copy of references needs of an element, and what it writes -/
def mcpO (E : mE) (h : List mO) (u : List (Nat × Value)) (sp i : Nat) : Bool := match mupR u (sp + i) with
  | none => true
  | some a => (match mobjE E h a with
    | some o => decide (o.1 = 0)
    | none => false)
def mcpW (u : List (Nat × Value)) (sp dp n : Nat) : List (Nat × Value) := (List.range n).map (fun i => (dp + i, va_rf (mupR u (sp + i))))
/-- an instruction that reads, writes or makes something of the heap: the next place, the stack, the heap -/
def mheap (E : mE) (e : mIns) (st : List Value) (h : mH) : Option (Nat × List Value × mH) := match e.2.1 with
  | .getfield _ => match st with
    | .ref q :: r => match mobjE E h.1 q with
      | some o => if o.1 = e.2.2.2.1 then (match mCl[e.2.2.2.1]? with
        | some _ => (match o.2[e.2.2.2.2.1]? with
          | some v => some (e.1 + 3, v :: r, h)
          | none => none)
        | none => none) else none
      | none => none
    | _ => none
  | .putfield _ => match st with
    | v :: .ref q :: r => match mget E.length h.1 q with
      | some (.inr o) => if o.1 = e.2.2.2.1 then (match mCl[e.2.2.2.1]? with
        | some _ => if e.2.2.2.2.1 < o.2.length ∧ narrow (mfty e.2.2.2.1 e.2.2.2.2.1) v = v ∧ fits (mfty e.2.2.2.1 e.2.2.2.2.1) v = true then some (e.1 + 3, r, (h.1.set (q - E.length) (.inr (o.1, o.2.set e.2.2.2.2.1 v)), h.2)) else none
        | none => none) else none
      | _ => none
    | _ => none
  | .iaload => match st with
    | .int i :: .ref q :: r => if q < E.length then (match E[q]? with
        | some (.inl (0, n, .inl f)) => if i < 0 ∨ n ≤ i.toNatClampNeg then none else some (e.1 + 1, .int (f i.toNatClampNeg) :: r, h)
        | _ => none) else (match mrow E.length 0 h.1 q with
        | some x => if i < 0 ∨ x.1 ≤ i.toNatClampNeg then none else some (e.1 + 1, .int (mupI x.2 i.toNatClampNeg) :: r, h)
        | none => none)
    | _ => none
  | .aaload => match st with
    | .int i :: .ref q :: r => if q < E.length then (match E[q]? with
        | some (.inl (t, n, .inr (.inr (.inr (.inr f))))) => (match (mETys[t]? : Option FieldType) with
          | some (.object _) => if i < 0 ∨ n ≤ i.toNatClampNeg then none else some (e.1 + 1, va_rf (f i.toNatClampNeg) :: r, h)
          | _ => none)
        | _ => none) else (match mrow E.length 3 h.1 q with
        | some x => (match (mTys[3]? : Option FieldType) with
          | some (.object _) => if i < 0 ∨ x.1 ≤ i.toNatClampNeg then none else some (e.1 + 1, va_rf (mupR x.2 i.toNatClampNeg) :: r, h)
          | _ => none)
        | none => none)
    | _ => none
  | .laload => match st with
    | .int i :: .ref q :: r => match mrow E.length 1 h.1 q with
      | some x => if mTys[1]? = some .long then (if i < 0 ∨ x.1 ≤ i.toNatClampNeg then none else some (e.1 + 1, .long (mupL x.2 i.toNatClampNeg) :: r, h)) else none
      | none => none
    | _ => none
  | .daload => match st with
    | .int i :: .ref q :: r => match mrow E.length 2 h.1 q with
      | some x => if mTys[2]? = some .double then (if i < 0 ∨ x.1 ≤ i.toNatClampNeg then none else some (e.1 + 1, .double (mupD x.2 i.toNatClampNeg) :: r, h)) else none
      | none => none
    | _ => none
  | .iastore => match st with
    | .int x :: .int i :: .ref q :: r => match mrow E.length 0 h.1 q with
      | some y => if i < 0 ∨ y.1 ≤ i.toNatClampNeg then none else some (e.1 + 1, r, (h.1.set (q - E.length) (.inl (0, y.1, (i.toNatClampNeg, .int x) :: y.2)), h.2))
      | none => none
    | _ => none
  | .lastore => match st with
    | .long x :: .int i :: .ref q :: r => match mrow E.length 1 h.1 q with
      | some y => if mTys[1]? = some .long then (if i < 0 ∨ y.1 ≤ i.toNatClampNeg then none else some (e.1 + 1, r, (h.1.set (q - E.length) (.inl (1, y.1, (i.toNatClampNeg, .long x) :: y.2)), h.2))) else none
      | none => none
    | _ => none
  | .dastore => match st with
    | .double x :: .int i :: .ref q :: r => match mrow E.length 2 h.1 q with
      | some y => if mTys[2]? = some .double then (if i < 0 ∨ y.1 ≤ i.toNatClampNeg then none else some (e.1 + 1, r, (h.1.set (q - E.length) (.inl (2, y.1, (i.toNatClampNeg, .double x) :: y.2)), h.2))) else none
      | none => none
    | _ => none
  | .aastore => match st with
    | .ref v :: .int i :: .ref q :: r => match mrow E.length 3 h.1 q, mobjE E h.1 v with
      | some y, some o => (match (mTys[3]? : Option FieldType) with
        | some (.object C) => if mcast o.1 C = true then (if i < 0 ∨ y.1 ≤ i.toNatClampNeg then none else some (e.1 + 1, r, (h.1.set (q - E.length) (.inl (3, y.1, (i.toNatClampNeg, .ref v) :: y.2)), h.2))) else none
        | _ => none)
      | _, _ => none
    | _ => none
  | .arraylength => match st with
    | .ref q :: r => if q < E.length then (match E[q]? with
        | some (.inl x) => (match mTys[x.1]? with
          | some _ => some (e.1 + 1, .int (Int32.ofNat x.2.1) :: r, h)
          | none => none)
        | _ => none) else (match mget E.length h.1 q with
        | some (.inl x) => if x.1 ≤ 3 then (match mTys[x.1]? with
          | some _ => some (e.1 + 1, .int (Int32.ofNat x.2.1) :: r, h)
          | none => none) else none
        | _ => none)
    | _ => none
  | .new _ => match mCl[e.2.2.2.1]? with
    | some c => some (e.1 + 3, .ref (E.length + h.1.length) :: st, (h.1 ++ [.inr (e.2.2.2.1, mdef e.2.2.2.1 c.2.2)], h.2.1 + 1, h.2.2 + c.2.2))
    | none => none
  | .newarray ty => match st with
    | .int n :: r => if n < 0 then none else (if n.toNatClampNeg * 8 ≤ 536870912 ∧ e.2.2.2.1 ≤ 2 then (if mTys[e.2.2.2.1]? = some (newarray.typeOf ty) then some (e.1 + 2, .ref (E.length + h.1.length) :: r, (h.1 ++ [.inl (e.2.2.2.1, n.toNatClampNeg, [])], h.2.1 + 1, h.2.2 + n.toNatClampNeg)) else none) else none)
    | _ => none
  | .anewarray _ => match st with
    | .int n :: r => if n < 0 then none else (if n.toNatClampNeg * 8 ≤ 536870912 ∧ e.2.2.2.1 = 3 then (match mTys[e.2.2.2.1]? with
        | some (.object C) => if Cond.arrayOver (.object C) ∈ mXw then some (e.1 + 3, .ref (E.length + h.1.length) :: r, (h.1 ++ [.inl (e.2.2.2.1, n.toNatClampNeg, [])], h.2.1 + 1, h.2.2 + n.toNatClampNeg)) else none
        | _ => none) else none)
    | _ => none
  | .ldc _ => if e.2.2.1 = 0 then some (e.1 + 2, .int (Int32.ofNat e.2.2.2.1) :: st, h) else (if e.2.2.1 = 1 then (match mMir[e.2.2.2.1]? with
    | some z => some (e.1 + 2, .ref z.2 :: st, h)
    | none => none) else none)
  | .invokevirtual _ => if e.2.2.2.1 = 994 then (match st with
    | .ref q :: r => (match mrow E.length 3 h.1 q, mMir[0]? with
      | some _, some z => if mTys[3]? = some (.object "java/lang/Object") ∧ z.1 = "[Ljava/lang/Object;" ∧ mwords r ≤ 8 then some (e.1 + 3, .ref z.2 :: r, h) else none
      | _, _ => none)
    | _ => none) else none
  | .invokestatic _ => if e.2.2.2.1 = 993 then (match st with
    | .int n :: .int dp :: .ref q :: .int sp :: .ref u :: r => (match mrow E.length 3 h.1 u, mrow E.length 3 h.1 q with
      | some x, some y => if (sp < 0 ∨ dp < 0 ∨ n < 0) ∨ (x.1 < sp.toNatClampNeg + n.toNatClampNeg ∨ y.1 < dp.toNatClampNeg + n.toNatClampNeg) ∨ 8 < mwords r then none else (if mTys[3]? = some (.object "java/lang/Object") ∧ mcast 0 "java/lang/Object" = true ∧ (List.range n.toNatClampNeg).all (mcpO E h.1 x.2 sp.toNatClampNeg) = true then some (e.1 + 3, r, (h.1.set (q - E.length) (.inl (3, y.1, mcpW x.2 sp.toNatClampNeg dp.toNatClampNeg n.toNatClampNeg ++ y.2)), h.2)) else none)
      | _, _ => none)
    | _ => none) else none
  | .ldc2_w _ => if e.2.2.1 = 0 then some (e.1 + 3, .long (Int64.ofNat e.2.2.2.1) :: st, h) else none
  | .getstatic _ => match mStat[e.2.2.2.1]? with
    | some z => if e.2.2.1 = 0 then some (e.1 + 3, z.2.2.2 :: st, h) else none
    | none => none
  | _ => none
/-! ===== what the tables say of it ===== -/
def mTBL : List Cond := lw_tbl.filter goodWord
theorem mTBL_of {w : Cond} {k : Nat} (h : lw_tbl[k]? = some w) (hg : goodWord w = true) : w ∈ mTBL := List.mem_filter.mpr ⟨List.mem_of_getElem? h, hg⟩
def mGc : MethodName := ⟨"java/lang/Object", "getClass", "()Ljava/lang/Class;"⟩
/-- how a field's instruction is linked: plainly, as a nest mate's, through a class that inherits it -/
def mlinkF (own : String) (idx n k : Nat) (o f d : String) : Bool := if n = 0 then decide (lw_tbl[k]? = some (.fieldLink own idx o f d)) else (if n = 1 then (match mXw[k]? with
  | some (.fieldLinkNest ow i r f1 d1 _) => decide (ow = own ∧ i = idx ∧ r = o ∧ f1 = f ∧ d1 = d)
  | _ => false) else (match lw_tbl[n]? with
  | some (.sameField r o1 f1 d1) => decide (o1 = o ∧ f1 = f ∧ d1 = d) && decide (lw_tbl[k]? = some (.fieldLink own idx r f d))
  | _ => false))
def mneedR (e : mIns) : Bool := decide (e.2.2.2.1 = 993) || decide (e.2.2.2.1 = 994)
def mchk (own : String) (init : Bool) (e : mIns) : Bool := match e.2.1 with
  | .getfield idx => match mCl[e.2.2.2.1]? with
    | some c => decide (e.2.2.2.2.1 < c.2.2) && mlinkF own idx e.2.2.1 e.2.2.2.2.2 (c.2.1 e.2.2.2.2.1).1 (c.2.1 e.2.2.2.2.1).2.1 (c.2.1 e.2.2.2.2.1).2.2.1
    | none => true
  | .putfield idx => match mCl[e.2.2.2.1]? with
    | some c => decide (e.2.2.2.2.1 < c.2.2) && ((mlinkF own idx e.2.2.1 e.2.2.2.2.2 (c.2.1 e.2.2.2.2.1).1 (c.2.1 e.2.2.2.2.1).2.1 (c.2.1 e.2.2.2.2.1).2.2.1 && decide (e.2.2.1 ≠ 1)) && (decide ((c.2.1 e.2.2.2.2.1).2.2.2 = false) || (decide ((c.2.1 e.2.2.2.2.1).2.2.2 = true) && init && decide ((c.2.1 e.2.2.2.2.1).1 = own))))
    | none => true
  | .new idx => match mCl[e.2.2.2.1]? with
    | some c => decide (lw_tbl[e.2.2.2.2.2]? = some (.classLink own idx c.1))
    | none => true
  | .anewarray idx => match mTys[e.2.2.2.1]? with
    | some (.object C) => decide (lw_tbl[e.2.2.2.2.2]? = some (.classLink own idx C))
    | _ => true
  | .ldc idx => if e.2.2.1 = 0 then decide (lw_tbl[e.2.2.2.2.2]? = some (.constant own idx (Int32.ofNat e.2.2.2.1))) else (if e.2.2.1 = 1 then (match mMir[e.2.2.2.1]? with
    | some z => decide (lw_tbl[e.2.2.2.2.2]? = some (.classLink own idx z.1))
    | none => true) else true)
  | .invokevirtual idx => if e.2.2.2.1 = 994 then decide (lw_tbl[e.2.2.2.2.2]? = some (.methodLink own idx mGc)) else true
  | .invokestatic idx => if e.2.2.2.1 = 993 then decide (lw_tbl[e.2.2.2.2.2]? = some (.methodLink own idx arraycopyName)) else true
  | .ldc2_w idx => if e.2.2.1 = 0 then decide (lw_tbl[e.2.2.2.2.2]? = some (.constantLong own idx (Int64.ofNat e.2.2.2.1))) else true
  | .getstatic idx => match mStat[e.2.2.2.1]? with
    | some z => if e.2.2.1 = 0 then decide (lw_tbl[e.2.2.2.2.2]? = some (.fieldLink own idx z.1 z.2.1 z.2.2.1)) else true
    | none => true
  | _ => true
def mNatOk : Bool := decide (lw_tbl[mNatPos.1]? = some (.selects "[Ljava/lang/Object;" mGc mGc)) && (decide (lw_tbl[mNatPos.2.1]? = some (.instanceMethod mGc)) && (decide (lw_tbl[mNatPos.2.2.1]? = some (.native mGc)) && (decide (lw_tbl[mNatPos.2.2.2.1]? = some (.native arraycopyName)) && (decide (lw_tbl[mNatPos.2.2.2.2.1]? = some (.static arraycopyName)) && (decide (lw_tbl[mNatPos.2.2.2.2.2]? = some (.initialized "java/lang/System")) && decide (Cond.declares mGc ∈ mXw))))))
set_option maxRecDepth 100000 in
theorem mNat_ok : mNatOk = true := by decide +kernel
end
section
/-! ===== each class: its fields' words, their types, that they are apart; that it can be made ===== -/
def mClP (ci : Nat) (r : vw_C) : Prop := (∀ w ∈ u_ws r.1 r.2.1 r.2.2, w ∈ mTBL) ∧ (∀ k, k < r.2.2 → parseFieldDescriptor (r.2.1 k).2.2.1 = some (mfty ci k)) ∧ (∀ a, a < r.2.2 → ∀ b, b < r.2.2 → a ≠ b → (r.2.1 a).2.1 ≠ (r.2.1 b).2.1) ∧ Cond.instantiable r.1 r.2.2 ∈ mTBL ∧ Cond.initialized r.1 ∈ mTBL
theorem mcl_ws {C : String} {T : u_T} {N : Nat} (h : (u_ws C T N).all (fun w => decide (w ∈ lw_tbl) && goodWord w) = true) : ∀ w ∈ u_ws C T N, w ∈ mTBL := by
  intro w hw
  have h1 := List.all_eq_true.mp h w hw
  simp only [Bool.and_eq_true, decide_eq_true_eq] at h1
  exact List.mem_filter.mpr h1
set_option maxRecDepth 100000 in
theorem mcl_0 : mClP 0 (RJ6, TJ6, 1) := ⟨mcl_ws (by decide +kernel), tyJ6_ok, nmJ6, mTBL_of (k := 1026) (by decide +kernel) rfl, mTBL_of (k := 77) (by decide +kernel) rfl⟩
set_option maxRecDepth 100000 in
theorem mcl_1 : mClP 1 (RJx4a65c, TJx4a65c, 3) := ⟨mcl_ws (by decide +kernel), tyJx4a65c_ok, nmJx4a65c, mTBL_of (k := 951) (by decide +kernel) rfl, mTBL_of (k := 70) (by decide +kernel) rfl⟩
set_option maxRecDepth 100000 in
theorem mcl_2 : mClP 2 (RX0, TX0, 4) := ⟨mcl_ws (by decide +kernel), tyX0_ok, nmX0, mTBL_of (k := 225) (by decide +kernel) rfl, mTBL_of (k := 66) (by decide +kernel) rfl⟩
set_option maxRecDepth 100000 in
theorem mcl_3 : mClP 3 (RX2, TX2, 1) := ⟨mcl_ws (by decide +kernel), tyX2_ok, nmX2, mTBL_of (k := 106) (by decide +kernel) rfl, mTBL_of (k := 62) (by decide +kernel) rfl⟩
set_option maxRecDepth 100000 in
theorem mcl_4 : mClP 4 (RX3, TX3, 14) := ⟨mcl_ws (by decide +kernel), tyX3_ok, nmX3, mTBL_of (k := 160) (by decide +kernel) rfl, mTBL_of (k := 65) (by decide +kernel) rfl⟩
set_option maxRecDepth 100000 in
theorem mcl_5 : mClP 5 (RX4, TX4, 13) := ⟨mcl_ws (by decide +kernel), tyX4_ok, nmX4, mTBL_of (k := 154) (by decide +kernel) rfl, mTBL_of (k := 64) (by decide +kernel) rfl⟩
set_option maxRecDepth 100000 in
theorem mcl_6 : mClP 6 (RX5, TX5, 2) := ⟨mcl_ws (by decide +kernel), tyX5_ok, nmX5, mTBL_of (k := 100) (by decide +kernel) rfl, mTBL_of (k := 61) (by decide +kernel) rfl⟩
set_option maxRecDepth 100000 in
theorem mcl_7 : mClP 7 (RX6, TX6, 3) := ⟨mcl_ws (by decide +kernel), tyX6_ok, nmX6, mTBL_of (k := 127) (by decide +kernel) rfl, mTBL_of (k := 63) (by decide +kernel) rfl⟩
set_option maxRecDepth 100000 in
theorem mcl_8 : mClP 8 (RX7, TX7, 7) := ⟨mcl_ws (by decide +kernel), tyX7_ok, nmX7, mTBL_of (k := 92) (by decide +kernel) rfl, mTBL_of (k := 60) (by decide +kernel) rfl⟩
set_option maxRecDepth 100000 in
theorem mcl_9 : mClP 9 (RX8, TX8, 3) := ⟨mcl_ws (by decide +kernel), tyX8_ok, nmX8, mTBL_of (k := 1248) (by decide +kernel) rfl, mTBL_of (k := 90) (by decide +kernel) rfl⟩
set_option maxRecDepth 100000 in
theorem mcl_10 : mClP 10 (RX9, TX9, 3) := ⟨mcl_ws (by decide +kernel), tyX9_ok, nmX9, mTBL_of (k := 1175) (by decide +kernel) rfl, mTBL_of (k := 86) (by decide +kernel) rfl⟩
set_option maxRecDepth 100000 in
theorem mcl_11 : mClP 11 (RX10, TX10, 2) := ⟨mcl_ws (by decide +kernel), tyX10_ok, nmX10, mTBL_of (k := 1202) (by decide +kernel) rfl, mTBL_of (k := 87) (by decide +kernel) rfl⟩
set_option maxRecDepth 100000 in
theorem mcl_12 : mClP 12 (RX11, TX11, 10) := ⟨mcl_ws (by decide +kernel), tyX11_ok, nmX11, mTBL_of (k := 1165) (by decide +kernel) rfl, mTBL_of (k := 85) (by decide +kernel) rfl⟩
set_option maxRecDepth 100000 in
theorem mcl_13 : mClP 13 (RX12, TX12, 5) := ⟨mcl_ws (by decide +kernel), tyX12_ok, nmX12, mTBL_of (k := 945) (by decide +kernel) rfl, mTBL_of (k := 67) (by decide +kernel) rfl⟩
theorem mCl_ok {ci : Nat} {r : vw_C} (h : mCl[ci]? = some r) : mClP ci r := by
  match ci, h with
  | 0, h => cases h; exact mcl_0
  | 1, h => cases h; exact mcl_1
  | 2, h => cases h; exact mcl_2
  | 3, h => cases h; exact mcl_3
  | 4, h => cases h; exact mcl_4
  | 5, h => cases h; exact mcl_5
  | 6, h => cases h; exact mcl_6
  | 7, h => cases h; exact mcl_7
  | 8, h => cases h; exact mcl_8
  | 9, h => cases h; exact mcl_9
  | 10, h => cases h; exact mcl_10
  | 11, h => cases h; exact mcl_11
  | 12, h => cases h; exact mcl_12
  | 13, h => cases h; exact mcl_13
  | k + 14, h => simp [mCl] at h
end
section
/-! ===== the list of objects as a world of the kit ===== -/
/-- a row of the list as the kit has it -/
def mdecA (ad : Nat → Nat) (t n : Nat) (u : List (Nat × Value)) : vp_A := match t with
  | 0 => (n, .inl (mupI u))
  | 1 => (n, .inr (.inl (mupL u)))
  | 2 => (n, .inr (.inr (.inr (.inl (mupD u)))))
  | _ => (n, .inr (.inr (.inr (.inr (fun i => (mupR u i).map ad)))))
def trO (cy : Nat → ClassId) (ad : Nat → Nat) (o : mO) : va_E := match o with
  | .inl x => .inl (cy x.1, mdecA ad x.1 x.2.1 x.2.2)
  | .inr x => .inr (x.1, x.2.map (trV ad))
theorem mdecA_len (ad : Nat → Nat) (t n : Nat) (u : List (Nat × Value)) : (mdecA ad t n u).1 = n := by
  unfold mdecA
  split <;> rfl
theorem mupI_c (u : List (Nat × Value)) (i : Nat) (x : Int32) : mupI ((i, .int x) :: u) = upd (mupI u) i x := by
  funext j
  by_cases h : i = j
  · subst h
    simp [mupI, mup, upd]
  · have h2 : ¬ j = i := fun e => h e.symm
    simp [mupI, mup, upd, h, h2]
theorem mupL_c (u : List (Nat × Value)) (i : Nat) (x : Int64) : mupL ((i, .long x) :: u) = vp_updL (mupL u) i x := by
  funext j
  by_cases h : i = j
  · subst h
    simp [mupL, mup, vp_updL]
  · have h2 : ¬ j = i := fun e => h e.symm
    simp [mupL, mup, vp_updL, h, h2]
theorem mupD_c (u : List (Nat × Value)) (i : Nat) (x : UInt64) : mupD ((i, .double x) :: u) = vf_upd (mupD u) i x := by
  funext j
  by_cases h : i = j
  · subst h
    simp [mupD, mup, vf_upd]
  · have h2 : ¬ j = i := fun e => h e.symm
    simp [mupD, mup, vf_upd, h, h2]
theorem mupR_c (u : List (Nat × Value)) (i x : Nat) (ad : Nat → Nat) : (fun j => (mupR ((i, .ref x) :: u) j).map ad) = va_up (fun j => (mupR u j).map ad) i (some (ad x)) := by
  funext j
  by_cases h : i = j
  · subst h
    simp [mupR, mup, va_up]
  · have h2 : ¬ j = i := fun e => h e.symm
    simp [mupR, mup, va_up, h, h2]
def mW (cy : Nat → ClassId) (ad : Nat → Nat) (X : Nat) (h : List mO) : va_W := h.mapIdx (fun i o => (ad (X + i), trO cy ad o))
def mT (cy : Nat → ClassId) : List (ClassId × FieldType) := mTys.mapIdx (fun i ty => (cy i, ty))
theorem mT_get {cy : Nat → ClassId} {t : Nat} {ty : FieldType} (h : mTys[t]? = some ty) : (mT cy)[t]? = some (cy t, ty) := by simp [mT, List.getElem?_mapIdx, h]
theorem mW_get {cy : Nat → ClassId} {ad : Nat → Nat} {X : Nat} {h : List mO} {i : Nat} {o : mO} (hi : h[i]? = some o) : (mW cy ad X h)[i]? = some (ad (X + i), trO cy ad o) := by simp [mW, List.getElem?_mapIdx, hi]
theorem mW_of {cy : Nat → ClassId} {ad : Nat → Nat} {X : Nat} {h : List mO} {i : Nat} {q : Nat × va_E} (hq : (mW cy ad X h)[i]? = some q) : ∃ o, h[i]? = some o ∧ q = (ad (X + i), trO cy ad o) := by
  simp only [mW, List.getElem?_mapIdx, Option.map_eq_some_iff] at hq
  obtain ⟨o, h1, h2⟩ := hq
  exact ⟨o, h1, h2.symm⟩
theorem mW_len {cy : Nat → ClassId} {ad : Nat → Nat} {X : Nat} {h : List mO} : (mW cy ad X h).length = h.length := by simp [mW]
theorem mW_set {cy : Nat → ClassId} {ad : Nat → Nat} {X : Nat} {h : List mO} {i : Nat} {o : mO} : (mW cy ad X h).set i (ad (X + i), trO cy ad o) = mW cy ad X (h.set i o) := by
  apply List.ext_getElem?
  intro k
  rw [List.getElem?_set]
  simp only [mW, List.getElem?_mapIdx, List.getElem?_set, List.length_mapIdx]
  by_cases hk : i = k
  · subst hk
    simp only [if_true]
    split <;> simp_all
  · simp [hk]
theorem mW_push {cy : Nat → ClassId} {ad : Nat → Nat} {X : Nat} {h : List mO} {o : mO} : mW cy ad X (h ++ [o]) = mW cy ad X h ++ [(ad (X + h.length), trO cy ad o)] := by simp [mW, List.mapIdx_append]
/-! what is not beyond the list's end -/
def wfV (n : Nat) (v : Value) : Prop := match v with
  | .ref a => a < n
  | _ => True
def wfO (n : Nat) (o : mO) : Prop := match o with
  | .inl x => ∀ q ∈ x.2.2, wfV n q.2
  | .inr x => ∀ v ∈ x.2, wfV n v
/-- the same of an outer thing -/
def wfA (n : Nat) (a : vp_A) : Prop := match a.2 with
  | .inr (.inr (.inr (.inr f))) => ∀ i q : Nat, f i = some q → q < n
  | _ => True
def wfX (n : Nat) (o : mX) : Prop := match o with
  | .inl x => wfA n x.2
  | .inr x => ∀ v ∈ x.2, wfV n v
theorem mup_mem {u : List (Nat × Value)} {j : Nat} {v : Value} (h : mup u j = some v) : (j, v) ∈ u := by
  induction u with
  | nil => cases h
  | cons q r ih =>
    unfold mup at h
    split at h
    · rename_i hq
      cases h
      rw [← hq]
      exact List.mem_cons_self
    · exact List.mem_cons_of_mem _ (ih h)
theorem mupR_wf {n : Nat} {u : List (Nat × Value)} (h : ∀ q ∈ u, wfV n q.2) {j q : Nat} (hq : mupR u j = some q) : q < n := by
  unfold mupR at hq
  split at hq
  · rename_i x hx
    cases hq
    exact h _ (mup_mem hx)
  · cases hq
def wfH (X : Nat) (h : List mO) : Prop := ∀ o ∈ h, wfO (X + h.length) o
def wfL (n : Nat) (st : List Value) : Prop := ∀ v ∈ st, wfV n v
def wfLv (n : Nat) (lv : mLv) : Prop := ∀ q ∈ lv, wfV n q.2
def agr (n : Nat) (ad ad' : Nat → Nat) : Prop := ∀ i, i < n → ad' i = ad i
theorem agr.rf {n : Nat} {ad : Nat → Nat} : agr n ad ad := fun _ _ => rfl
theorem agr.tr {n n' : Nat} {ad ad' ad'' : Nat → Nat} (h1 : agr n ad ad') (hn : n ≤ n') (h2 : agr n' ad' ad'') : agr n ad ad'' := fun i hi => (h2 i (Nat.lt_of_lt_of_le hi hn)).trans (h1 i hi)
theorem trV_agr {n : Nat} {ad ad' : Nat → Nat} {v : Value} (h : wfV n v) (ha : agr n ad ad') : trV ad' v = trV ad v := by
  cases v with
  | ref a => exact congrArg Value.ref (ha a h)
  | _ => rfl
theorem map_agr {n : Nat} {ad ad' : Nat → Nat} {st : List Value} (h : wfL n st) (ha : agr n ad ad') : st.map (trV ad') = st.map (trV ad) := List.map_congr_left fun v hv => trV_agr (h v hv) ha
theorem trL_agr {n : Nat} {ad ad' : Nat → Nat} {lv : mLv} (h : wfLv n lv) (ha : agr n ad ad') : trL ad' lv = trL ad lv := List.map_congr_left fun q hq => by rw [trV_agr (h q hq) ha]
theorem trO_agr {n : Nat} {cy : Nat → ClassId} {ad ad' : Nat → Nat} {o : mO} (h : wfO n o) (ha : agr n ad ad') : trO cy ad' o = trO cy ad o := by
  cases o with
  | inl x =>
    obtain ⟨t, k, u⟩ := x
    have h2 : (fun i => (mupR u i).map ad') = (fun i => (mupR u i).map ad) := by
      funext j
      cases hj : mupR u j with
      | none => rfl
      | some q => exact congrArg some (ha q (mupR_wf h hj))
    simp only [trO, mdecA]
    split <;> first | rfl | rw [h2]
  | inr x => exact congrArg (fun z => Sum.inr (x.1, z)) (map_agr h ha)
theorem mW_agr {X : Nat} {cy : Nat → ClassId} {ad ad' : Nat → Nat} {h : List mO} (hw : wfH X h) (ha : agr (X + h.length) ad ad') : mW cy ad' X h = mW cy ad X h := by
  apply List.ext_getElem?
  intro k
  simp only [mW, List.getElem?_mapIdx]
  cases hk : h[k]? with
  | none => rfl
  | some o =>
    have hl : k < h.length := (List.getElem?_eq_some_iff.mp hk).1
    simp only [Option.map_some]
    rw [trO_agr (hw o (List.mem_of_getElem? hk)) ha, ha (X + k) (by omega)]
theorem wfV.up {n n' : Nat} (hn : n ≤ n') {v : Value} (h : wfV n v) : wfV n' v := by
  cases v with
  | ref a => exact Nat.lt_of_lt_of_le h hn
  | _ => trivial
theorem wfL.up {n n' : Nat} (hn : n ≤ n') {st : List Value} (h : wfL n st) : wfL n' st := fun v hv => (h v hv).up hn
theorem wfLv.up {n n' : Nat} (hn : n ≤ n') {lv : mLv} (h : wfLv n lv) : wfLv n' lv := fun q hq => (h q hq).up hn
theorem wfO.up {n n' : Nat} (hn : n ≤ n') {o : mO} (h : wfO n o) : wfO n' o := by
  cases o with
  | inl x => exact fun q hq => (h q hq).up hn
  | inr x => exact fun v hv => (h v hv).up hn
theorem wfH.push {X : Nat} {h : List mO} {o : mO} (hw : wfH X h) (ho : wfO (X + (h.length + 1)) o) : wfH X (h ++ [o]) := by
  intro x hx
  rw [List.length_append, List.length_singleton]
  rcases List.mem_append.mp hx with h1 | h1
  · exact (hw x h1).up (by omega)
  · rw [List.mem_singleton.mp h1]
    exact ho
theorem wfH.set {X : Nat} {h : List mO} {i : Nat} {o : mO} (hw : wfH X h) (ho : wfO (X + h.length) o) : wfH X (h.set i o) := by
  intro x hx
  rw [List.length_set]
  rcases List.mem_or_eq_of_mem_set hx with h1 | h1
  · exact hw x h1
  · rw [h1]
    exact ho
theorem mget_at {X : Nat} {h : List mO} {a : Nat} {o : mO} (hg : mget X h a = some o) : X ≤ a ∧ h[a - X]? = some o := by
  unfold mget at hg
  split at hg
  · cases hg
  · exact ⟨by omega, hg⟩
theorem mget_W {cy : Nat → ClassId} {ad : Nat → Nat} {X : Nat} {h : List mO} {a : Nat} {o : mO} (hg : mget X h a = some o) : (mW cy ad X h)[a - X]? = some (ad a, trO cy ad o) := by
  obtain ⟨h1, h2⟩ := mget_at hg
  have h3 := mW_get (cy := cy) (ad := ad) (X := X) h2
  rwa [show X + (a - X) = a by omega] at h3
theorem mset_W {cy : Nat → ClassId} {ad : Nat → Nat} {X : Nat} {h : List mO} {a : Nat} {o o' : mO} (hg : mget X h a = some o) : (mW cy ad X h).set (a - X) (ad a, trO cy ad o') = mW cy ad X (h.set (a - X) o') := by
  obtain ⟨h1, h2⟩ := mget_at hg
  have h3 := mW_set (cy := cy) (ad := ad) (X := X) (h := h) (i := a - X) (o := o')
  rwa [show X + (a - X) = a by omega] at h3
theorem wf_get {X : Nat} {h : List mO} {a : Nat} {o : mO} (hw : wfH X h) (hg : mget X h a = some o) : wfO (X + h.length) o := hw o (List.mem_of_getElem? (mget_at hg).2)
theorem mdef_v {a N j : Nat} (hj : j < N) : defaultValue (mfty a j) = vp_V (mdef a N) j := by
  simp [vp_V, mdef, List.getD_eq_getElem?_getD, hj]
theorem mdef_wf {n a N : Nat} : wfL n (mdef a N) := by
  intro v hv
  obtain ⟨k, -, rfl⟩ := List.mem_map.mp hv
  cases mfty a k <;> trivial
theorem mdef_tr {ad : Nat → Nat} {a N : Nat} : (mdef a N).map (trV ad) = mdef a N := by
  unfold mdef
  rw [List.map_map]
  apply List.map_congr_left
  intro k _
  cases h : mfty a k <;> simp [Function.comp, h, defaultValue, trV]
theorem narrow_tr {ty : FieldType} {ad : Nat → Nat} {v : Value} (h : narrow ty v = v) : narrow ty (trV ad v) = trV ad v := by
  cases v with
  | ref a => cases ty <;> rfl
  | _ => exact h
theorem fits_tr {ty : FieldType} {ad : Nat → Nat} {v : Value} (h : fits ty v = true) : fits ty (trV ad v) = true := by
  cases v with
  | ref a => cases ty <;> first | exact h | rfl
  | _ => exact h
/-- an outer thing: a row of ints or of references, or an object of a class of ours -/
def mEx1 (D : va_G) (ad : Nat → Nat) (A : Nat → Prop) (U : State) (H : Heap) (q : Nat) (o : mX) : Prop := match o with
  | .inl (t, n, .inl f) => ∀ ty : FieldType, mTys[t]? = some ty → va_T ty (ad q) n (fun j => .int (f j)) A U H
  | .inl (t, n, .inr (.inr (.inr (.inr f)))) => ∀ ty : FieldType, mETys[t]? = some ty → va_T ty (ad q) n (fun j => va_rf ((f j).map ad)) A U H
  | .inl _ => False
  | .inr x => ∀ r : vw_C, mCl[x.1]? = some r → va_at D mCl (ad q, .inr (x.1, x.2.map (trV ad))) H ∧ ¬ A (ad q)
/-- the outer things, and the statics -/
def mEx (D : va_G) (E : mE) (ad : Nat → Nat) (A : Nat → Prop) (U : State) (H : Heap) : Prop :=
  (∀ (q : Nat) (o : mX), E[q]? = some o → mEx1 D ad A U H q o) ∧ (∀ z ∈ mStat, va_Z z.1 z.2.1 z.2.2.1 (trV ad z.2.2.2) A U H) ∧ ∀ z ∈ mMir, va_Mi z.1 (ad z.2) U
/-- the outer things and the statics know outer things alone -/
def mEw (E : mE) : Prop := (∀ o ∈ E, wfX E.length o) ∧ (∀ z ∈ mStat, wfV E.length z.2.2.2) ∧ ∀ z ∈ mMir, z.2 < E.length
theorem mEx1.moved {D : va_G} {ad : Nat → Nat} {A : Nat → Prop} {u U : State} {H : Heap} {q : Nat} {o : mX} (hvm : u.vm.Alike U.vm) (h : mEx1 D ad A u H q o) : mEx1 D ad A U H q o := by
  rcases o with ⟨t, n, f | f | f | f | f⟩ | x
  · exact fun ty hty => va_T.moved hvm (h ty hty)
  · exact h
  · exact h
  · exact h
  · exact fun ty hty => va_T.moved hvm (h ty hty)
  · exact h
theorem mEx1.kept {D : va_G} {ad : Nat → Nat} {A : Nat → Prop} {U : State} {H H1 : Heap} {q : Nat} {o : mX} (h : mEx1 D ad A U H q o) (hq : ∀ a : Nat, a < H.size → ¬ A a → H1[a]? = H[a]?) : mEx1 D ad A U H1 q o := by
  rcases o with ⟨t, n, f | f | f | f | f⟩ | x
  · exact fun ty hty => va_T.kept (h ty hty) hq
  · exact h
  · exact h
  · exact h
  · exact fun ty hty => va_T.kept (h ty hty) hq
  · exact fun r hr => ⟨(h r hr).1.kept (hq _ (h r hr).1.lt (h r hr).2), (h r hr).2⟩
theorem mEx1.narrow {D : va_G} {ad : Nat → Nat} {A B : Nat → Prop} {U : State} {H : Heap} {q : Nat} {o : mX} (h : mEx1 D ad A U H q o) (hAB : ∀ q, B q → A q) : mEx1 D ad B U H q o := by
  rcases o with ⟨t, n, f | f | f | f | f⟩ | x
  · exact fun ty hty => va_T.narrow (h ty hty) hAB
  · exact h
  · exact h
  · exact h
  · exact fun ty hty => va_T.narrow (h ty hty) hAB
  · exact fun r hr => ⟨(h r hr).1, fun z => (h r hr).2 (hAB _ z)⟩
theorem mEx1.agr {D : va_G} {ad ad' : Nat → Nat} {A : Nat → Prop} {U : State} {H : Heap} {q n : Nat} {o : mX} (h : mEx1 D ad A U H q o) (hw : wfX n o) (hq : q < n) (ha : agr n ad ad') : mEx1 D ad' A U H q o := by
  rcases o with ⟨t, k, f | f | f | f | f⟩ | x
  · intro ty hty
    rw [ha q hq]
    exact h ty hty
  · exact h
  · exact h
  · exact h
  · intro ty hty
    have h1 := h ty hty
    have h2 : (fun j => va_rf ((f j).map ad')) = (fun j => va_rf ((f j).map ad)) := by
      funext j
      cases hj : f j with
      | none => rfl
      | some z => exact congrArg (fun y => va_rf (some y)) (ha z (hw j z hj))
    rw [ha q hq, h2]
    exact h1
  · intro r hr
    rw [ha q hq, map_agr hw ha]
    exact h r hr
theorem mEx.moved {D : va_G} {E : mE} {ad : Nat → Nat} {A : Nat → Prop} {u U : State} {H : Heap} (hvm : u.vm.Alike U.vm) (h : mEx D E ad A u H) : mEx D E ad A U H := ⟨fun i x hi => (h.1 i x hi).moved hvm, fun z hz => (h.2.1 z hz).moved hvm, fun z hz => (h.2.2 z hz).moved hvm⟩
theorem mEx.kept {D : va_G} {E : mE} {ad : Nat → Nat} {A : Nat → Prop} {U : State} {H H1 : Heap} (h : mEx D E ad A U H) (hq : ∀ a : Nat, a < H.size → ¬ A a → H1[a]? = H[a]?) : mEx D E ad A U H1 := ⟨fun i x hi => (h.1 i x hi).kept hq, fun z hz => (h.2.1 z hz).kept hq, h.2.2⟩
theorem mEx.narrow {D : va_G} {E : mE} {ad : Nat → Nat} {A B : Nat → Prop} {U : State} {H : Heap} (h : mEx D E ad A U H) (hAB : ∀ q, B q → A q) : mEx D E ad B U H := ⟨fun i x hi => (h.1 i x hi).narrow hAB, fun z hz => (h.2.1 z hz).narrow hAB, h.2.2⟩
theorem mEx.agr {D : va_G} {E : mE} {ad ad' : Nat → Nat} {A : Nat → Prop} {U : State} {H : Heap} (h : mEx D E ad A U H) (hE : mEw E) (ha : agr E.length ad ad') : mEx D E ad' A U H := by
  refine ⟨fun i x hi => (h.1 i x hi).agr (hE.1 x (List.mem_of_getElem? hi)) (List.getElem?_eq_some_iff.mp hi).1 ha, fun z hz => ?_, fun z hz => ?_⟩
  · rw [trV_agr (hE.2.1 z hz) ha]
    exact h.2.1 z hz
  · rw [ha z.2 (hE.2.2 z hz)]
    exact h.2.2 z hz
theorem mobjE_or {E : mE} {h : List mO} {a : Nat} {o : Nat × List Value} (hg : mobjE E h a = some o) : (a < E.length ∧ E[a]? = some (.inr o)) ∨ mget E.length h a = some (.inr o) := by
  unfold mobjE at hg
  split at hg
  · rename_i hl
    split at hg
    · rename_i o2 ho
      cases hg
      exact Or.inl ⟨hl, ho⟩
    · cases hg
  · rename_i hl
    split at hg
    · rename_i o2 ho
      cases hg
      exact Or.inr (by unfold mget; rw [if_neg hl]; exact ho)
    · cases hg
theorem mrow_of {X t a : Nat} {h : List mO} {x : Nat × List (Nat × Value)} (hg : mrow X t h a = some x) : mget X h a = some (.inl (t, x)) := by
  unfold mrow at hg
  split at hg
  · rename_i y hy
    split at hg
    · rename_i ht
      cases hg
      rw [← ht]
      exact hy
    · cases hg
  · cases hg
theorem wf_objE {E : mE} {h : List mO} {a : Nat} {o : Nat × List Value} (hE : mEw E) (hw : wfH E.length h) (hg : mobjE E h a = some o) : ∀ v ∈ o.2, wfV (E.length + h.length) v := by
  rcases mobjE_or hg with ⟨-, h1⟩ | h1
  · exact fun v hv => (hE.1 _ (List.mem_of_getElem? h1) v hv).up (Nat.le_add_right _ _)
  · exact wf_get hw h1
theorem va_P_one {D : va_G} {x : Nat × va_E} {H : Heap} (h : va_at D mCl x H) : va_P D mCl [x] H := by
  intro k q hq
  match k, hq with
  | 0, hq => cases hq; exact h
  | k + 1, hq => simp at hq
/-! words that a call moves by rows of their own -/
def mXk (w : Cond) : Bool := match w with
  | .methodLinkNest _ _ _ _ => true
  | .fieldLinkNest _ _ _ _ _ _ => true
  | .declares _ => true
  | .castable _ _ => true
  | .arrayOver (.object _) => true
  | _ => false
theorem mXw_is : mXw.all mXk = true := by decide +kernel
def mIfk (z : String × MethodName × MethodName) : Bool := decide (z.2.1.cls ≠ "java/lang/invoke/MethodHandle" ∧ z.2.1.cls ≠ "java/lang/invoke/VarHandle")
theorem mIfs_is : mIfs.all mIfk = true := by decide +kernel
/-- words that a call moves by rows of their own, and what calls of an interface's methods need -/
def mNs (U : State) : Prop := (∀ w ∈ mXw, va_Nw w U) ∧ ∀ z ∈ mIfs, va_Fw z.1 z.2.1 z.2.2 U
theorem mNs.warm {s U : State} (hW : s.WarmedH U.vm) (h : mNs s) : mNs U := by
  refine ⟨?_, fun z hz => va_Fw.moved (of_decide_eq_true (List.all_eq_true.mp mIfs_is z hz)) hW.alike (h.2 z hz)⟩
  intro w hw
  have h1 := List.all_eq_true.mp mXw_is w hw
  have h2 := h.1 w hw
  unfold mXk at h1
  split at h1
  · exact va_Nw.warmM hW h2
  · exact va_Nw.warmF hW h2
  · exact va_Nw.warmD hW h2
  · exact va_Nw.warmC hW h2
  · exact va_AO.moved hW.alike h2
  · cases h1
theorem mNs.same {u U : State} (hv : u.vm = U.vm) (h : mNs u) : mNs U := by
  refine ⟨?_, fun z hz => va_Fw.moved (of_decide_eq_true (List.all_eq_true.mp mIfs_is z hz)) (hv ▸ Vm.Alike.refl _) (h.2 z hz)⟩
  intro w hw
  have h1 := List.all_eq_true.mp mXw_is w hw
  have h2 := h.1 w hw
  unfold mXk at h1
  split at h1
  · exact va_Nw.same rfl hv h2
  · exact va_Nw.same rfl hv h2
  · exact va_Nw.same rfl hv h2
  · exact va_Nw.same rfl hv h2
  · exact va_AO.moved (hv ▸ Vm.Alike.refl _) h2
  · cases h1
end
section
/-! ===== a pure instruction keeps what is not beyond the list's end ===== -/
theorem mlv_wf {n : Nat} {lv : mLv} (h : wfLv n lv) {i : Nat} {v : Value} (hm : mlv lv i = some v) : wfV n v := h (i, v) (mlv_mem hm)
theorem set1_wf {n : Nat} {lv : mLv} (h : wfLv n lv) {i : Nat} {v : Value} (hv : wfV n v) : wfLv n (mset1 lv i v) := by
  intro q hq
  rcases List.mem_cons.mp hq with e1 | e1
  · rw [e1]; exact hv
  · exact h q (List.mem_filter.mp e1).1
theorem set2_wf {n : Nat} {lv : mLv} (h : wfLv n lv) {i : Nat} {v : Value} (hv : wfV n v) : wfLv n (mset2 lv i v) := by
  intro q hq
  rcases List.mem_cons.mp hq with e1 | e1
  · rw [e1]; exact hv
  · exact h q (List.mem_filter.mp e1).1
theorem wfL.c {n : Nat} {st : List Value} {v : Value} (hv : wfV n v) (h : wfL n st) : wfL n (v :: st) := by
  intro q hq
  rcases List.mem_cons.mp hq with e1 | e1
  · rw [e1]; exact hv
  · exact h q e1
theorem wfL.t {n : Nat} {st : List Value} {v : Value} (h : wfL n (v :: st)) : wfL n st := fun q hq => h q (List.mem_cons_of_mem _ hq)
theorem wfL.h {n : Nat} {st : List Value} {v : Value} (h : wfL n (v :: st)) : wfV n v := h v List.mem_cons_self
set_option maxHeartbeats 4000000 in
theorem pure_wf {n nL : Nat} {i : mIns} {lv lv' : mLv} {st st' : List Value} {pc' : Nat} (hp : mpure nL i lv st = some (pc', lv', st')) (h1 : wfLv n lv) (h2 : wfL n st) : wfLv n lv' ∧ wfL n st' := by
  obtain ⟨pc, i, n9, a, b, d⟩ := i
  cases i
  case iconst n => simp only [mpure] at hp; cases hp; exact ⟨h1, h2.c trivial⟩
  case bipush n => simp only [mpure] at hp; cases hp; exact ⟨h1, h2.c trivial⟩
  case sipush n => simp only [mpure] at hp; cases hp; exact ⟨h1, h2.c trivial⟩
  case lconst n => simp only [mpure] at hp; cases hp; exact ⟨h1, h2.c trivial⟩
  case dconst n =>
    simp only [mpure] at hp; split at hp
    · cases hp; exact ⟨h1, h2.c trivial⟩
    · cases hp
  case iload_n k =>
    simp only [mpure] at hp; split at hp
    · rename_i h0; cases hp; exact ⟨h1, h2.c (mlv_wf h1 h0)⟩
    · cases hp
  case iload k =>
    simp only [mpure] at hp; split at hp
    · rename_i h0; cases hp; exact ⟨h1, h2.c (mlv_wf h1 h0)⟩
    · cases hp
  case istore_n k =>
    simp only [mpure] at hp; split at hp
    · split at hp
      · cases hp; exact ⟨set1_wf h1 h2.h, h2.t⟩
      · cases hp
    · cases hp
  case istore k =>
    simp only [mpure] at hp; split at hp
    · split at hp
      · cases hp; exact ⟨set1_wf h1 h2.h, h2.t⟩
      · cases hp
    · cases hp
  case lload_n k =>
    simp only [mpure] at hp; split at hp
    · rename_i h0; cases hp; exact ⟨h1, h2.c (mlv_wf h1 h0)⟩
    · cases hp
  case lload k =>
    simp only [mpure] at hp; split at hp
    · rename_i h0; cases hp; exact ⟨h1, h2.c (mlv_wf h1 h0)⟩
    · cases hp
  case lstore_n k =>
    simp only [mpure] at hp; split at hp
    · split at hp
      · cases hp; exact ⟨set2_wf h1 h2.h, h2.t⟩
      · cases hp
    · cases hp
  case lstore k =>
    simp only [mpure] at hp; split at hp
    · split at hp
      · cases hp; exact ⟨set2_wf h1 h2.h, h2.t⟩
      · cases hp
    · cases hp
  case aload_n k =>
    simp only [mpure] at hp; split at hp
    · rename_i h0; cases hp; exact ⟨h1, h2.c (mlv_wf h1 h0)⟩
    · cases hp
  case aload k =>
    simp only [mpure] at hp; split at hp
    · rename_i h0; cases hp; exact ⟨h1, h2.c (mlv_wf h1 h0)⟩
    · cases hp
  case astore_n k =>
    simp only [mpure] at hp; split at hp
    · split at hp
      · cases hp; exact ⟨set1_wf h1 h2.h, h2.t⟩
      · cases hp
    · cases hp
  case astore k =>
    simp only [mpure] at hp; split at hp
    · split at hp
      · cases hp; exact ⟨set1_wf h1 h2.h, h2.t⟩
      · cases hp
    · cases hp
  case dload_n k =>
    simp only [mpure] at hp; split at hp
    · rename_i h0; cases hp; exact ⟨h1, h2.c (mlv_wf h1 h0)⟩
    · cases hp
  case dload k =>
    simp only [mpure] at hp; split at hp
    · rename_i h0; cases hp; exact ⟨h1, h2.c (mlv_wf h1 h0)⟩
    · cases hp
  case dstore_n k =>
    simp only [mpure] at hp; split at hp
    · split at hp
      · cases hp; exact ⟨set2_wf h1 h2.h, h2.t⟩
      · cases hp
    · cases hp
  case dstore k =>
    simp only [mpure] at hp; split at hp
    · split at hp
      · cases hp; exact ⟨set2_wf h1 h2.h, h2.t⟩
      · cases hp
    · cases hp
  case iinc k n =>
    simp only [mpure] at hp; split at hp
    · split at hp
      · cases hp; exact ⟨set1_wf h1 trivial, h2⟩
      · cases hp
    · cases hp
  case iadd =>
    simp only [mpure] at hp; split at hp
    · cases hp; exact ⟨h1, h2.t.t.c trivial⟩
    · cases hp
  case isub =>
    simp only [mpure] at hp; split at hp
    · cases hp; exact ⟨h1, h2.t.t.c trivial⟩
    · cases hp
  case imul =>
    simp only [mpure] at hp; split at hp
    · cases hp; exact ⟨h1, h2.t.t.c trivial⟩
    · cases hp
  case iand =>
    simp only [mpure] at hp; split at hp
    · cases hp; exact ⟨h1, h2.t.t.c trivial⟩
    · cases hp
  case ladd =>
    simp only [mpure] at hp; split at hp
    · cases hp; exact ⟨h1, h2.t.t.c trivial⟩
    · cases hp
  case lmul =>
    simp only [mpure] at hp; split at hp
    · cases hp; exact ⟨h1, h2.t.t.c trivial⟩
    · cases hp
  case ishr =>
    simp only [mpure] at hp; split at hp
    · cases hp; exact ⟨h1, h2.t.t.c trivial⟩
    · cases hp
  case dcmp op =>
    simp only [mpure] at hp; split at hp
    · cases hp; exact ⟨h1, h2.t.t.c trivial⟩
    · cases hp
  case lcmp =>
    simp only [mpure] at hp; split at hp
    · cases hp; exact ⟨h1, h2.t.t.c trivial⟩
    · cases hp
  case ineg =>
    simp only [mpure] at hp; split at hp
    · cases hp; exact ⟨h1, h2.t.c trivial⟩
    · cases hp
  case i2d =>
    simp only [mpure] at hp; split at hp
    · cases hp; exact ⟨h1, h2.t.c trivial⟩
    · cases hp
  case l2d =>
    simp only [mpure] at hp; split at hp
    · cases hp; exact ⟨h1, h2.t.c trivial⟩
    · cases hp
  case i2l =>
    simp only [mpure] at hp; split at hp
    · cases hp; exact ⟨h1, h2.t.c trivial⟩
    · cases hp
  case idiv =>
    simp only [mpure] at hp; split at hp
    · split at hp
      · cases hp
      · cases hp; exact ⟨h1, h2.t.t.c trivial⟩
    · cases hp
  case irem =>
    simp only [mpure] at hp; split at hp
    · split at hp
      · cases hp
      · cases hp; exact ⟨h1, h2.t.t.c trivial⟩
    · cases hp
  case ddiv =>
    simp only [mpure] at hp; split at hp
    · split at hp
      · cases hp; exact ⟨h1, h2.t.t.c trivial⟩
      · cases hp
    · cases hp
  case dup =>
    simp only [mpure] at hp; split at hp
    · split at hp
      · cases hp; exact ⟨h1, h2.c h2.h⟩
      · cases hp
    · cases hp
  case pop =>
    simp only [mpure] at hp; split at hp
    · split at hp
      · cases hp; exact ⟨h1, h2.t⟩
      · cases hp
    · cases hp
  case aconst_null => simp only [mpure] at hp; cases hp; exact ⟨h1, h2.c trivial⟩
  case dup_x1 =>
    simp only [mpure] at hp; split at hp
    · split at hp
      · cases hp; exact ⟨h1, ((h2.t.t.c h2.h).c h2.t.h).c h2.h⟩
      · cases hp
    · cases hp
  case dup2 =>
    simp only [mpure] at hp; split at hp
    · split at hp
      · cases hp; exact ⟨h1, (h2.c h2.t.h).c h2.h⟩
      · cases hp
    · cases hp
  case if_acmp cd off => cases cd <;> (simp only [mpure] at hp; split at hp; (· split at hp; (· cases hp; exact ⟨h1, h2.t.t⟩); (· cases hp)); (· cases hp))
  case goto off =>
    simp only [mpure] at hp; split at hp
    · cases hp; exact ⟨h1, h2⟩
    · cases hp
  case ifCond cd off => cases cd <;> (simp only [mpure] at hp; split at hp; (· split at hp; (· cases hp; exact ⟨h1, h2.t⟩); (· cases hp)); (· cases hp))
  case if_icmp cd off => cases cd <;> (simp only [mpure] at hp; split at hp; (· split at hp; (· cases hp; exact ⟨h1, h2.t.t⟩); (· cases hp)); (· cases hp))
  case tableswitch dflt lo hi offs =>
    simp only [mpure] at hp; split at hp
    · split at hp
      · split at hp
        · cases hp; exact ⟨h1, h2.t⟩
        · cases hp
      · split at hp
        · split at hp
          · cases hp; exact ⟨h1, h2.t⟩
          · cases hp
        · cases hp
    · cases hp
  case lookupswitch dflt ps =>
    simp only [mpure] at hp; split at hp
    · split at hp
      · split at hp
        · cases hp; exact ⟨h1, h2.t⟩
        · cases hp
      · cases hp
    · cases hp
  all_goals (simp only [mpure] at hp; cases hp)
end
section
/-! ===== the heap's instructions are the true machine's ===== -/
theorem hfalse {P : Prop} {α : Type} {x : α} (h : (none : Option α) = some x) : P := by cases h
theorem mup_app (a b : List (Nat × Value)) (j : Nat) : mup (a ++ b) j = match mup a j with
  | some v => some v
  | none => mup b j := by
  induction a with
  | nil => rfl
  | cons q r ih =>
    rw [List.cons_append]
    simp only [mup]
    by_cases h : q.1 = j
    · rw [if_pos h, if_pos h]
    · rw [if_neg h, if_neg h]
      exact ih
theorem mup_rng (dp : Nat) (v : Nat → Value) (j : Nat) : ∀ n : Nat, mup ((List.range n).map (fun i => (dp + i, v i))) j = if dp ≤ j ∧ j < dp + n then some (v (j - dp)) else none := by
  intro n
  induction n with
  | zero => rw [if_neg (by omega)]; rfl
  | succ n ih =>
    rw [List.range_succ, List.map_append, mup_app, ih]
    by_cases h : dp ≤ j ∧ j < dp + n
    · rw [if_pos h, if_pos (by omega)]
    · rw [if_neg h]
      by_cases h2 : dp + n = j
      · have h3 : dp ≤ j ∧ j < dp + (n + 1) := by omega
        rw [if_pos h3]
        have h4 : j - dp = n := by omega
        simp [mup, h2, h4]
      · rw [if_neg (by omega)]
        simp [mup, h2]
theorem mcpW_up (u y : List (Nat × Value)) (sp dp n : Nat) (ad : Nat → Nat) : (fun j => (mupR (mcpW u sp dp n ++ y) j).map ad) = va_cpy (fun j => (mupR u j).map ad) (fun j => (mupR y j).map ad) sp dp n := by
  funext j
  unfold va_cpy mupR mcpW
  rw [mup_app, mup_rng dp (fun i => va_rf (mupR u (sp + i)))]
  by_cases h : dp ≤ j ∧ j < dp + n
  · rw [if_pos h, if_pos h]
    dsimp only
    show _ = (mupR u (sp + (j - dp))).map ad
    cases mupR u (sp + (j - dp)) <;> rfl
  · rw [if_neg h, if_neg h]
theorem mwords_tr0 (ad : Nat → Nat) (st : List Value) : ((st.map (trV ad)).map fun v => v.category).sum = mwords st := by
  unfold mwords
  rw [List.map_map]
  congr 1
  apply List.map_congr_left
  intro v _
  exact trV_cat ad v
theorem mETys_of {t : Nat} {ty : FieldType} (h : mTys[t]? = some ty) : mETys[t]? = some ty := by
  unfold mETys
  rw [List.getElem?_append_left (List.getElem?_eq_some_iff.mp h).1]
  exact h
section MH
variable {p : Program} {l : Launch} {e : Env} {R : Room} {s : State} {m : MethodId} {args : Array Value} {below : List Frame} {meth : Method} {c : Code} {H : Heap} {locs : List Loc} {Q : State → Prop}
theorem m_link (hts : ∀ w ∈ mTBL, w.before args s = true) {own o f d : String} {idx n k : Nat} (hn : n ≠ 1) (hlk : mlinkF own idx n k o f d = true) : ∃ ref : String, (Cond.fieldLink own idx ref f d).before args s = true ∧ ∀ x, s.fieldFound? o f d = some x → s.fieldFound? ref f d = some x := by
  unfold mlinkF at hlk
  split at hlk
  · exact ⟨o, hts _ (mTBL_of (of_decide_eq_true hlk) rfl), fun _ h9 => h9⟩
  · try rw [if_neg hn] at hlk
    split at hlk
    · rename_i r o1 f1 d1 h1
      simp only [Bool.and_eq_true, decide_eq_true_eq] at hlk
      obtain ⟨⟨e1, e2, e3⟩, h2⟩ := hlk
      subst e1
      subst e2
      subst e3
      exact ⟨r, hts _ (mTBL_of h2 rfl), u_same (hts _ (mTBL_of h1 rfl))⟩
    · cases hlk
theorem m_getf {cc : ByteArray} (hx : p.tables.exec = Jvm.exec) (hb : c.code = cc) (hts : ∀ w ∈ mTBL, w.before args s = true) {own : String} (hown : s.vm.findClass own = some m.cls) {D : va_G} {tys : List (ClassId × FieldType)} {cl : List vw_C} {C : String} {T : u_T} {N a q0 ci k idx n kk pc cells slots : Nat} {fs rest : List Value} {ls : Array Slot} {v : Value} {ws : va_W} (h1 : ∀ w ∈ u_ws C T N, w ∈ mTBL) (hK : va_K D cl tys s) (hN : mNs s) (hP : va_P D cl ws H) (he : ws[q0]? = some (a, .inr (ci, fs))) (hc : cl[ci]? = some (C, T, N)) (hk : k < N) (hlk : mlinkF own idx n kk (T k).1 (T k).2.1 (T k).2.2.1 = true) (hv : fs[k]? = some v) (hd : decode cc pc = .ok (.getfield idx, 3))
    (K : W p l e R s m args below meth c H locs cells slots Q (F0 m (pc + 3) ls (v :: rest))) : W p l e R s m args below meth c H locs cells slots Q (F0 m pc ls (.ref a :: rest)) := by
  by_cases hn : n = 1
  · subst hn
    unfold mlinkF at hlk
    rw [if_neg (by decide), if_pos rfl] at hlk
    split at hlk
    · rename_i ow i r f1 d1 host hw9
      obtain ⟨e1, e2, e3, e4, e5⟩ := of_decide_eq_true hlk
      subst e1
      subst e2
      subst e3
      subst e4
      subst e5
      exact va_getN hx hb hts h1 hown hK hP q0 he hc k hk (va_Nw.use rfl (hN.1 _ (List.mem_of_getElem? hw9))) (fun _ h9 => h9) hv hd K
    · cases hlk
  · obtain ⟨ref, g1, g2⟩ := m_link hts hn hlk
    exact va_get hx hb hts h1 hown hK hP q0 he hc k hk g1 g2 hv hd K
set_option maxHeartbeats 4000000 in
theorem sd_heap {cc : ByteArray} (hx : p.tables.exec = Jvm.exec) (hb : c.code = cc) (hts : ∀ w ∈ mTBL, w.before args s = true) {own : String} (hown : s.vm.findClass own = some m.cls) {init : Bool} (hini : init = true → meth.name = "<init>") {E : mE} (hEw : mEw E)
    {D : va_G} {cy : Nat → ClassId} {A : Nat → Prop} {ad : Nat → Nat} {i : mIns} {st st' : List Value} {h h' : mH} {pc' : Nat} {ls : Array Slot} (hck : mchk own init i = true) (hd : decode cc i.1 = .ok (i.2.1, mlen i.2.1 i.2.2.1))
    (hK : va_K D mCl (mT cy) s) (hP : va_P D mCl (mW cy ad E.length h.1) H) (hD : va_D A (mW cy ad E.length h.1)) (hS : va_S A s.heap H locs) (hA : ∀ q, s.heap.size ≤ q → A q) (hE : mEx D E ad A s s.heap) (hw : wfH E.length h.1) (hws : wfL (E.length + h.1.length) st)
    (hs : mheap E i st h = some (pc', st', h')) (hR : h'.2.1 ≤ R.cells ∧ h'.2.2 ≤ R.slots)
    (harr : ∀ (t : Nat) (ty : FieldType), t ≤ 2 → mTys[t]? = some ty → (Cond.arrayClass ty).before args s = true) (hN : mNs s) (hml : c.maxLocals = ls.size) (hRm : mneedR i = true → 1 ≤ R.frames ∧ 40 ≤ R.locals)
    (kk : ∀ (ad' : Nat → Nat) (H' : Heap) (locs' : List Loc), agr (E.length + h.1.length) ad ad' → va_P D mCl (mW cy ad' E.length h'.1) H' → va_D A (mW cy ad' E.length h'.1) → va_S A s.heap H' locs' → wfH E.length h'.1 → wfL (E.length + h'.1.length) st' → h.1.length ≤ h'.1.length → W p l e R s m args below meth c H' locs' h'.2.1 h'.2.2 Q (F0 m pc' ls (st'.map (trV ad')))) :
    W p l e R s m args below meth c H locs h.2.1 h.2.2 Q (F0 m i.1 ls (st.map (trV ad))) := by
  obtain ⟨pc, i, n, a, b, k⟩ := i
  obtain ⟨h, nc, ns⟩ := h
  dsimp only at *
  cases i
  case getfield idx =>
    simp only [mheap] at hs; split at hs
    · rename_i q r; split at hs
      · rename_i o ho; split at hs
        · rename_i hoa; split at hs
          · rename_i cl hcl; split at hs
            · rename_i v hv; cases hs
              obtain ⟨C, T, N⟩ := cl
              obtain ⟨h1, h2, h3, h4, h5⟩ := mCl_ok hcl
              simp only [mchk, hcl, Bool.and_eq_true, decide_eq_true_eq] at hck
              have hv' : (o.2.map (trV ad))[b]? = some (trV ad v) := by rw [List.getElem?_map, hv]; rfl
              have hwr : wfL (E.length + h.length) (v :: r) := by
                intro v' hv9
                rcases List.mem_cons.mp hv9 with e1 | e1
                · rw [e1]; exact wf_objE hEw hw ho v (List.mem_of_getElem? hv)
                · exact hws v' (List.mem_cons_of_mem _ e1)
              rcases mobjE_or ho with ⟨hl9, hoE⟩ | hoW
              · obtain ⟨g1, g2⟩ := hE.1 q _ hoE _ (by rw [hoa]; exact hcl)
                exact m_getf (q0 := 0) hx hb hts hown h1 hK hN (va_P_one (g1.kept (hS.2.1 _ g1.lt g2))) rfl (by rw [hoa]; exact hcl) hck.1 hck.2 hv' hd (kk ad H locs agr.rf hP hD hS hw hwr (Nat.le_refl _))
              · exact m_getf hx hb hts hown h1 hK hN hP (mget_W (cy := cy) (ad := ad) hoW) (by rw [hoa]; exact hcl) hck.1 hck.2 hv' hd (kk ad H locs agr.rf hP hD hS hw hwr (Nat.le_refl _))
            · exact hfalse hs
          · exact hfalse hs
        · exact hfalse hs
      · exact hfalse hs
    · exact hfalse hs
  case putfield idx =>
    simp only [mheap] at hs; split at hs
    · rename_i v q r; split at hs
      · rename_i o ho; split at hs
        · rename_i hoa; split at hs
          · rename_i cl hcl; split at hs
            · rename_i hcond; obtain ⟨hlen, hnar, hfit⟩ := hcond
              cases hs
              obtain ⟨C, T, N⟩ := cl
              obtain ⟨h1, h2, h3, h4, h5⟩ := mCl_ok hcl
              simp only [mchk, hcl, Bool.and_eq_true, Bool.or_eq_true, decide_eq_true_eq] at hck
              obtain ⟨hbN, ⟨hlk0, hn1⟩, hfin⟩ := hck
              obtain ⟨ref9, hlk, hsm9⟩ := m_link hts hn1 hlk0
              have hgo := mget_W (cy := cy) (ad := ad) ho
              have hwv : wfV (E.length + h.length) v := hws v List.mem_cons_self
              have hwr : wfL (E.length + h.length) st' := fun x hx9 => hws x (List.mem_cons_of_mem _ (List.mem_cons_of_mem _ hx9))
              have hw2 : wfH E.length (h.set (q - E.length) (.inr (o.1, o.2.set b v))) := wfH.set hw (by
                intro x hx9
                rcases List.mem_or_eq_of_mem_set hx9 with e1 | e1
                · exact wf_get hw ho x e1
                · rw [e1]; exact hwv)
              have he : (mW cy ad E.length h).set (q - E.length) (ad q, .inr (o.1, (o.2.map (trV ad)).set b (trV ad v))) = mW cy ad E.length (h.set (q - E.length) (.inr (o.1, o.2.set b v))) := by
                rw [← mset_W ho]
                simp only [trO, List.map_set]
              have kk' : ∀ (H1 : Heap) (locs1 : List Loc), va_P D mCl ((mW cy ad E.length h).set (q - E.length) (ad q, .inr (o.1, (o.2.map (trV ad)).set b (trV ad v)))) H1 → va_D A ((mW cy ad E.length h).set (q - E.length) (ad q, .inr (o.1, (o.2.map (trV ad)).set b (trV ad v)))) → va_S A s.heap H1 locs1 → W p l e R s m args below meth c H1 locs1 nc ns Q (F0 m (pc + 3) ls (st'.map (trV ad))) := by
                intro H1 locs1 hP1 hD1 hS1
                rw [he] at hP1 hD1
                exact kk ad H1 locs1 agr.rf hP1 hD1 hS1 hw2 (by rw [List.length_set]; exact hwr) (by rw [List.length_set]; exact Nat.le_refl _)
              rcases hfin with hfin | hfin
              · exact va_put hx hb hts h1 (mfty a) h2 h3 hown hK hP hD hS _ hgo (by rw [hoa]; exact hcl) b hbN hlk hsm9 hfin (h2 b hbN) (narrow_tr hnar) (fits_tr hfit) (by rw [List.length_map]; exact hlen) hd kk'
              · exact va_putF hx hb hts h1 (mfty a) h2 h3 hown hK hP hD hS _ hgo (by rw [hoa]; exact hcl) b hbN hlk hsm9 hfin.1.1 (hini hfin.1.2) hfin.2 (h2 b hbN) (narrow_tr hnar) (fits_tr hfit) (by rw [List.length_map]; exact hlen) hd kk'
            · exact hfalse hs
          · exact hfalse hs
        · exact hfalse hs
      · exact hfalse hs
    · exact hfalse hs
  case iaload =>
    simp only [mheap] at hs; split at hs
    · rename_i i q r
      have hwr : ∀ z : Int32, wfL (E.length + h.length) (.int z :: r) := fun z => hws.t.t.c trivial
      split at hs
      · split at hs
        · rename_i N f hoE; split at hs
          · exact hfalse hs
          · rename_i hin; cases hs
            exact va_ti hx hb (hE.1 q _ hoE .int rfl) hS hin rfl hd (kk ad H locs agr.rf hP hD hS hw (hwr _) (Nat.le_refl _))
        · exact hfalse hs
      · split at hs
        · rename_i x hg; split at hs
          · exact hfalse hs
          · rename_i hin; cases hs
            exact va_iald hx hb hK hP _ 0 (mget_W (cy := cy) (ad := ad) (mrow_of hg)) (mT_get rfl) hin hd (kk ad H locs agr.rf hP hD hS hw (hwr _) (Nat.le_refl _))
        · exact hfalse hs
    · exact hfalse hs
  case aaload =>
    simp only [mheap] at hs; split at hs
    · rename_i i q r
      split at hs
      · split at hs
        · rename_i t9 N f hoE; split at hs
          · rename_i C hty; split at hs
            · exact hfalse hs
            · rename_i hin; cases hs
              have hwv : wfV (E.length + h.length) (va_rf (f i.toNatClampNeg)) := by
                have h9 := hEw.1 _ (List.mem_of_getElem? hoE)
                cases hf : f i.toNatClampNeg with
                | none => trivial
                | some z => exact Nat.lt_of_lt_of_le (h9 _ z hf) (Nat.le_add_right _ _)
              have htr : trV ad (va_rf (f i.toNatClampNeg)) = va_rf ((f i.toNatClampNeg).map ad) := by cases f i.toNatClampNeg <;> rfl
              have k9 := kk ad H locs agr.rf hP hD hS hw (hws.t.t.c hwv) (Nat.le_refl _)
              rw [List.map_cons, htr] at k9
              obtain ⟨cell, g1, g2, g3, g4, g5, g6, g7⟩ := hE.1 q _ hoE (.object C) hty
              have hlt : i.toNatClampNeg < N := Nat.not_le.mp fun q9 => hin (Or.inr q9)
              exact W.aald (v := va_rf ((f i.toNatClampNeg).map ad)) (ty := .object C) hx hb (by rw [hS.2.1 _ (Array.getElem?_eq_some_iff.mp g1).1 g7]; exact g1) g2 rfl g3 (fun q9 => q9.elim (fun z => hin (Or.inl z)) (fun z => by omega)) (g6 _ hlt) rfl rfl hd k9
          · exact hfalse hs
        · exact hfalse hs
      · split at hs
        · rename_i x hg; split at hs
          · rename_i C hty; split at hs
            · exact hfalse hs
            · rename_i hin; cases hs
              have hg2 := mrow_of hg
              have hwv : wfV (E.length + h.length) (va_rf (mupR x.2 i.toNatClampNeg)) := by
                have h9 := wf_get hw hg2
                cases hf : mupR x.2 i.toNatClampNeg with
                | none => trivial
                | some z => exact mupR_wf h9 hf
              have htr : trV ad (va_rf (mupR x.2 i.toNatClampNeg)) = va_rf ((mupR x.2 i.toNatClampNeg).map ad) := by cases mupR x.2 i.toNatClampNeg <;> rfl
              have k9 := kk ad H locs agr.rf hP hD hS hw (hws.t.t.c hwv) (Nat.le_refl _)
              rw [List.map_cons, htr] at k9
              exact va_aldq (f := fun j => (mupR x.2 j).map ad) hx hb hK hP _ 3 (mget_W (cy := cy) (ad := ad) hg2) (mT_get hty) hin hd k9
          · exact hfalse hs
        · exact hfalse hs
    · exact hfalse hs
  case laload =>
    simp only [mheap] at hs; split at hs
    · rename_i i q r
      split at hs
      · rename_i x hg; split at hs
        · rename_i hty; split at hs
          · exact hfalse hs
          · rename_i hin; cases hs
            exact va_lald hx hb hK hP _ 1 (mget_W (cy := cy) (ad := ad) (mrow_of hg)) (mT_get hty) hin hd (kk ad H locs agr.rf hP hD hS hw (hws.t.t.c trivial) (Nat.le_refl _))
        · exact hfalse hs
      · exact hfalse hs
    · exact hfalse hs
  case daload =>
    simp only [mheap] at hs; split at hs
    · rename_i i q r
      split at hs
      · rename_i x hg; split at hs
        · rename_i hty; split at hs
          · exact hfalse hs
          · rename_i hin; cases hs
            exact va_dald hx hb hK hP _ 2 (mget_W (cy := cy) (ad := ad) (mrow_of hg)) (mT_get hty) hin hd (kk ad H locs agr.rf hP hD hS hw (hws.t.t.c trivial) (Nat.le_refl _))
        · exact hfalse hs
      · exact hfalse hs
    · exact hfalse hs
  case iastore =>
    simp only [mheap] at hs; split at hs
    · rename_i x i q r; split at hs
      · rename_i y hg; split at hs
        · exact hfalse hs
        · rename_i hin; cases hs
          have hg2 := mrow_of hg
          refine va_iast hx hb hK hP hD hS _ 0 (mget_W (cy := cy) (ad := ad) hg2) (mT_get rfl) hin hd (fun H1 locs1 hP1 hD1 hS1 => ?_)
          have he : (mW cy ad E.length h).set (q - E.length) (ad q, .inl (cy 0, y.1, .inl (upd (mupI y.2) i.toNatClampNeg x))) = mW cy ad E.length (h.set (q - E.length) (.inl (0, y.1, (i.toNatClampNeg, .int x) :: y.2))) := by
            rw [← mset_W hg2]
            simp only [trO, mdecA, mupI_c]
          rw [he] at hP1 hD1
          have hwx : wfO (E.length + h.length) (.inl (0, y.1, (i.toNatClampNeg, .int x) :: y.2)) := by
            intro z hz
            rcases List.mem_cons.mp hz with e1 | e1
            · rw [e1]; trivial
            · exact wf_get hw hg2 z e1
          exact kk ad H1 locs1 agr.rf hP1 hD1 hS1 (wfH.set hw hwx) (by rw [List.length_set]; exact hws.t.t.t) (by rw [List.length_set]; exact Nat.le_refl _)
      · exact hfalse hs
    · exact hfalse hs
  case lastore =>
    simp only [mheap] at hs; split at hs
    · rename_i x i q r; split at hs
      · rename_i y hg; split at hs
        · rename_i hty; split at hs
          · exact hfalse hs
          · rename_i hin; cases hs
            have hg2 := mrow_of hg
            refine va_last hx hb hK hP hD hS _ 1 (mget_W (cy := cy) (ad := ad) hg2) (mT_get hty) hin hd (fun H1 locs1 hP1 hD1 hS1 => ?_)
            have he : (mW cy ad E.length h).set (q - E.length) (ad q, .inl (cy 1, y.1, .inr (.inl (vp_updL (mupL y.2) i.toNatClampNeg x)))) = mW cy ad E.length (h.set (q - E.length) (.inl (1, y.1, (i.toNatClampNeg, .long x) :: y.2))) := by
              rw [← mset_W hg2]
              simp only [trO, mdecA, mupL_c]
            rw [he] at hP1 hD1
            have hwx : wfO (E.length + h.length) (.inl (1, y.1, (i.toNatClampNeg, .long x) :: y.2)) := by
              intro z hz
              rcases List.mem_cons.mp hz with e1 | e1
              · rw [e1]; trivial
              · exact wf_get hw hg2 z e1
            exact kk ad H1 locs1 agr.rf hP1 hD1 hS1 (wfH.set hw hwx) (by rw [List.length_set]; exact hws.t.t.t) (by rw [List.length_set]; exact Nat.le_refl _)
        · exact hfalse hs
      · exact hfalse hs
    · exact hfalse hs
  case dastore =>
    simp only [mheap] at hs; split at hs
    · rename_i x i q r; split at hs
      · rename_i y hg; split at hs
        · rename_i hty; split at hs
          · exact hfalse hs
          · rename_i hin; cases hs
            have hg2 := mrow_of hg
            refine va_dast hx hb hK hP hD hS _ 2 (mget_W (cy := cy) (ad := ad) hg2) (mT_get hty) hin hd (fun H1 locs1 hP1 hD1 hS1 => ?_)
            have he : (mW cy ad E.length h).set (q - E.length) (ad q, .inl (cy 2, y.1, .inr (.inr (.inr (.inl (vf_upd (mupD y.2) i.toNatClampNeg x)))))) = mW cy ad E.length (h.set (q - E.length) (.inl (2, y.1, (i.toNatClampNeg, .double x) :: y.2))) := by
              rw [← mset_W hg2]
              simp only [trO, mdecA, mupD_c]
            rw [he] at hP1 hD1
            have hwx : wfO (E.length + h.length) (.inl (2, y.1, (i.toNatClampNeg, .double x) :: y.2)) := by
              intro z hz
              rcases List.mem_cons.mp hz with e1 | e1
              · rw [e1]; trivial
              · exact wf_get hw hg2 z e1
            exact kk ad H1 locs1 agr.rf hP1 hD1 hS1 (wfH.set hw hwx) (by rw [List.length_set]; exact hws.t.t.t) (by rw [List.length_set]; exact Nat.le_refl _)
        · exact hfalse hs
      · exact hfalse hs
    · exact hfalse hs
  case aastore =>
    simp only [mheap] at hs; split at hs
    · rename_i v i q r; split at hs
      · rename_i y o hg hv; split at hs
        · rename_i C hty; split at hs
          · rename_i hca; split at hs
            · exact hfalse hs
            · rename_i hin; cases hs
              have hg2 := mrow_of hg
              unfold mcast at hca
              split at hca
              · rename_i cl hcl
                have hcb := of_decide_eq_true hca
                have hwv : v < E.length + h.length := hws.h
                have hwx : wfO (E.length + h.length) (.inl (3, y.1, (i.toNatClampNeg, .ref v) :: y.2)) := by
                  intro z hz
                  rcases List.mem_cons.mp hz with e1 | e1
                  · rw [e1]; exact hwv
                  · exact wf_get hw hg2 z e1
                have he : (mW cy ad E.length h).set (q - E.length) (ad q, .inl (cy 3, y.1, .inr (.inr (.inr (.inr (va_up (fun j => (mupR y.2 j).map ad) i.toNatClampNeg (some (ad v)))))))) = mW cy ad E.length (h.set (q - E.length) (.inl (3, y.1, (i.toNatClampNeg, .ref v) :: y.2))) := by
                  rw [← mset_W hg2]
                  simp only [trO, mdecA, mupR_c]
                have kk' : ∀ (H1 : Heap) (locs1 : List Loc), va_P D mCl ((mW cy ad E.length h).set (q - E.length) (ad q, .inl (cy 3, y.1, .inr (.inr (.inr (.inr (va_up (fun j => (mupR y.2 j).map ad) i.toNatClampNeg (some (ad v))))))))) H1 → va_D A ((mW cy ad E.length h).set (q - E.length) (ad q, .inl (cy 3, y.1, .inr (.inr (.inr (.inr (va_up (fun j => (mupR y.2 j).map ad) i.toNatClampNeg (some (ad v))))))))) → va_S A s.heap H1 locs1 → W p l e R s m args below meth c H1 locs1 nc ns Q (F0 m (pc + 1) ls (st'.map (trV ad))) := by
                  intro H1 locs1 hP1 hD1 hS1
                  rw [he] at hP1 hD1
                  exact kk ad H1 locs1 agr.rf hP1 hD1 hS1 (wfH.set hw hwx) (by rw [List.length_set]; exact hws.t.t.t) (by rw [List.length_set]; exact Nat.le_refl _)
                have hcell : ∃ fs : List Value, va_at D mCl (ad v, .inr (o.1, fs)) H := by
                  rcases mobjE_or hv with ⟨hl9, hoE⟩ | hoW
                  · obtain ⟨g1, g2⟩ := hE.1 v _ hoE _ hcl
                    exact ⟨_, g1.kept (hS.2.1 _ g1.lt g2)⟩
                  · exact ⟨_, hP _ _ (mget_W (cy := cy) (ad := ad) hoW)⟩
                obtain ⟨fs, r9, hr9, cellV, g1, g2, g3, -⟩ := hcell
                have hlt : i.toNatClampNeg < y.1 := Nat.not_le.mp fun q9 => hin (Or.inr q9)
                have h0 : ¬ i < 0 := fun q9 => hin (Or.inl q9)
                have hgW : (mW cy ad E.length h)[q - E.length]? = some (ad q, .inl (cy 3, y.1, .inr (.inr (.inr (.inr (fun j => (mupR y.2 j).map ad)))))) := mget_W (cy := cy) (ad := ad) hg2
                have hcls := (hK.1 o.1 cl hcl).2
                obtain ⟨kA, comp, k1, k2, k3, -⟩ := (hK.2 3 _ (mT_get (cy := cy) hty)).2
                obtain ⟨kE, hkE, -⟩ := Vm.findClass_spec k3
                obtain ⟨c0, t1, f1, f2, f3⟩ := Cond.castable_spec (va_Nw.use (A := args) rfl (hN.1 _ hcb))
                cases hcls.1.symm.trans f1
                cases k3.symm.trans f2
                obtain ⟨kC, hkC, -⟩ := hcls.2
                refine W.aast hx hb (hP _ _ hgW) (fun q9 h9 => by cases h9) (fun h9 => by cases h9) k1 k2 rfl hkE ⟨h0, by show _ < (arrV _ _ _).slots.size; rw [arrV_size]; exact hlt⟩ g1 (fun q9 h9 => by rw [g3] at h9; cases h9) (by rw [g2]; exact hkC) (by rw [g2]; exact f3) rfl rfl hd fun H1 e9 z9 oq => ?_
                refine kk' H1 _ (hP.set hD hgW ?_ oq) (hD.set hgW) (hS.put z9 oq (hD.2 _ _ hgW))
                show H1[ad q]? = some (vp_cell _ _)
                rw [e9]
                rw [vp_cell_q, vp_cell_q, arrV_store]
                congr 2
                funext j
                by_cases hj : j = i.toNatClampNeg
                · subst hj
                  simp [updV, va_up, va_rf]
                · simp [updV, va_up, hj]
              · cases hca
          · exact hfalse hs
        · exact hfalse hs
      · exact hfalse hs
    · exact hfalse hs
  case arraylength =>
    simp only [mheap] at hs; split at hs
    · rename_i q r
      have hwr : ∀ z : Int32, wfL (E.length + h.length) (.int z :: r) := fun z => hws.t.c trivial
      split at hs
      · split at hs
        · rename_i x hoE; split at hs
          · rename_i ty hty; cases hs
            have h9 := hE.1 q _ hoE
            obtain ⟨t, N, f | f | f | f | f⟩ := x
            · exact va_tlen hx hb (h9 ty hty) hS rfl hd (kk ad H locs agr.rf hP hD hS hw (hwr _) (Nat.le_refl _))
            · exact h9.elim
            · exact h9.elim
            · exact h9.elim
            · exact va_tlen hx hb (h9 ty (mETys_of hty)) hS rfl hd (kk ad H locs agr.rf hP hD hS hw (hwr _) (Nat.le_refl _))
          · exact hfalse hs
        · exact hfalse hs
      · split at hs
        · rename_i x hoW; split at hs
          · split at hs
            · rename_i ty hty; cases hs
              exact va_alen hx hb hK hP _ x.1 (x := mdecA ad x.1 x.2.1 x.2.2) (mget_W (cy := cy) (ad := ad) hoW) (mT_get hty) (by rw [mdecA_len]) hd (kk ad H locs agr.rf hP hD hS hw (hwr _) (Nat.le_refl _))
            · exact hfalse hs
          · exact hfalse hs
        · exact hfalse hs
    · exact hfalse hs
  case new idx =>
    simp only [mheap] at hs; split at hs
    · rename_i cl hcl; cases hs
      obtain ⟨C, T, N⟩ := cl
      obtain ⟨h1, h2, h3, h4, h5⟩ := mCl_ok hcl
      simp only [mchk, hcl, decide_eq_true_eq] at hck
      refine va_new (ci := a) hx hb hts h1 (mfty a) h2 hown (hts _ (mTBL_of hck rfl)) (hts _ h4) (hts _ h5) hK hP hD hS hA hcl (fs := mdef a N) (fun j hj => mdef_v hj) hR.1 hR.2 hd (fun q H1 hP1 hD1 hS1 => ?_)
      have hag : agr (E.length + h.length) ad (fun j => if j = E.length + h.length then q else ad j) := fun j hj => if_neg (by omega)
      have he : mW cy ad E.length h ++ [(q, .inr (a, mdef a N))] = mW cy (fun j => if j = E.length + h.length then q else ad j) E.length (h ++ [.inr (a, mdef a N)]) := by
        rw [mW_push, mW_agr hw hag]
        simp only [trO, mdef_tr, if_true]
      rw [he] at hP1 hD1
      have hk := kk _ H1 locs hag hP1 hD1 hS1 (wfH.push hw mdef_wf) (by
        rw [List.length_append, List.length_singleton]
        intro y hy
        rcases List.mem_cons.mp hy with e1 | e1
        · rw [e1]; show E.length + h.length < E.length + (h.length + 1); omega
        · exact (hws y e1).up (by omega)) (by rw [List.length_append]; exact Nat.le_add_right _ _)
      rw [List.map_cons, map_agr hws hag] at hk
      simpa only [trV, if_true] using hk
    · exact hfalse hs
  case newarray ty =>
    simp only [mheap] at hs; split at hs
    · rename_i z r; split at hs
      · exact hfalse hs
      · rename_i hz; split at hs
        · rename_i hz8; obtain ⟨hz8, ha2⟩ := hz8
          split at hs
          · rename_i hty; cases hs
            have hN9 : ∀ cA : ClassId, vp_cell cA (mdecA ad a z.toNatClampNeg []) = arrV cA z.toNatClampNeg (fun _ => defaultValue (newarray.typeOf ty)) := by
              intro cA
              match a, ha2, hty with
              | 0, _, hty => rw [← Option.some.inj hty]; rfl
              | 1, _, hty => rw [← Option.some.inj hty]; rfl
              | 2, _, hty => rw [← Option.some.inj hty]; rfl
            have htr : ∀ ad' : Nat → Nat, mdecA ad' a z.toNatClampNeg [] = mdecA ad a z.toNatClampNeg [] := by
              intro ad'
              match a, ha2 with
              | 0, _ => rfl
              | 1, _ => rfl
              | 2, _ => rfl
            have hwr : wfL (E.length + h.length) r := hws.t
            refine va_newa hx hb (harr a _ ha2 hty) rfl hK hP hD hS hA hN9 hz rfl ?_ hR.1 hR.2 hd (fun q cA H1 hK1 hP1 hD1 hS1 => ?_)
            · have hcb : componentBytes (newarray.typeOf ty) ≤ 8 := by cases ty <;> decide
              exact Nat.le_trans (Nat.mul_le_mul_left _ hcb) hz8
            · have hcA : cA = cy a := by
                have e1 := (hK1.2 (mT cy).length (cA, newarray.typeOf ty) (by rw [List.getElem?_append_right (Nat.le_refl _), Nat.sub_self]; rfl)).2
                have e2 := (hK.2 a _ (mT_get (cy := cy) hty)).2
                cases ty <;> exact Option.some.inj ((show s.vm.findClass _ = some cA from e1).symm.trans e2)
              subst hcA
              have hag : agr (E.length + h.length) ad (fun j => if j = E.length + h.length then q else ad j) := fun j hj => if_neg (by omega)
              have he : mW cy ad E.length h ++ [(q, .inl (cy a, mdecA ad a z.toNatClampNeg []))] = mW cy (fun j => if j = E.length + h.length then q else ad j) E.length (h ++ [.inl (a, z.toNatClampNeg, [])]) := by
                rw [mW_push, mW_agr hw hag]
                simp only [trO, htr, if_true]
              rw [he] at hP1 hD1
              have hk := kk _ H1 locs hag hP1 hD1 hS1 (wfH.push hw (fun q9 h9 => by cases h9)) (by
                rw [List.length_append, List.length_singleton]
                intro y hy
                rcases List.mem_cons.mp hy with e1 | e1
                · rw [e1]; show E.length + h.length < E.length + (h.length + 1); omega
                · exact (hwr y e1).up (by omega)) (by rw [List.length_append]; exact Nat.le_add_right _ _)
              rw [List.map_cons, map_agr hwr hag] at hk
              simpa only [trV, if_true] using hk
          · exact hfalse hs
        · exact hfalse hs
    · exact hfalse hs
  case ldc idx =>
    simp only [mheap] at hs; split at hs
    · rename_i h0; cases hs
      simp only [mchk, h0, if_true, decide_eq_true_eq] at hck
      exact lv_ldc hx hb hown (hts _ (mTBL_of hck rfl)) hd (kk ad H locs agr.rf hP hD hS hw (fun y hy => by
        rcases List.mem_cons.mp hy with e1 | e1
        · rw [e1]; trivial
        · exact hws y e1) (Nat.le_refl _))
    · rename_i h0; split at hs
      · rename_i h1; split at hs
        · rename_i z hz; cases hs
          simp only [mchk, h1, if_true, hz, decide_eq_true_eq, if_neg (show ¬ (1 : Nat) = 0 by decide)] at hck
          have hzm := List.mem_of_getElem? hz
          exact va_ldcM hx hb hown (hts _ (mTBL_of hck rfl)) (hE.2.2 z hzm) hd (kk ad H locs agr.rf hP hD hS hw (fun y hy => by
            rcases List.mem_cons.mp hy with e1 | e1
            · rw [e1]; exact Nat.lt_of_lt_of_le (hEw.2.2 z hzm) (Nat.le_add_right _ _)
            · exact hws y e1) (Nat.le_refl _))
        · exact hfalse hs
      · exact hfalse hs
  case invokevirtual idx =>
    simp only [mheap] at hs; split at hs
    · rename_i h0; split at hs
      · rename_i q r; split at hs
        · rename_i x z hg hz; split at hs
          · rename_i hcond; obtain ⟨hty, hz1, hmw⟩ := hcond
            cases hs
            have hNt := mNat_ok
            simp only [mNatOk, Bool.and_eq_true, decide_eq_true_eq] at hNt
            obtain ⟨n1, n2, n3, n4, n5, n6, n7⟩ := hNt
            simp only [mchk, h0, if_true, decide_eq_true_eq] at hck
            have hzm := List.mem_of_getElem? hz
            have hM := hE.2.2 z hzm
            rw [hz1] at hM
            obtain ⟨hr1, hr2⟩ := hRm (by simp [mneedR, h0])
            have hgW := mget_W (cy := cy) (ad := ad) (mrow_of hg)
            have hcy := va_nmO (hK.2 3 _ (mT_get (cy := cy) hty)).2 (nm := "[Ljava/lang/Object;") rfl
            have hmw2 := mwords_tr0 ad r
            refine va_getC hx hb hml hown (hts _ (mTBL_of hck rfl)) (va_Nw.use rfl (hN.1 _ n7)) (hts _ (mTBL_of n1 rfl)) (hts _ (mTBL_of n2 rfl)) (hts _ (mTBL_of n3 rfl)) hM ⟨_, hP _ _ hgW, rfl, hcy⟩ hr1 (by omega) hd ?_
            exact kk ad H locs agr.rf hP hD hS hw (fun y hy => by
              rcases List.mem_cons.mp hy with e1 | e1
              · rw [e1]; exact Nat.lt_of_lt_of_le (hEw.2.2 z hzm) (Nat.le_add_right _ _)
              · exact hws.t y e1) (Nat.le_refl _)
          · exact hfalse hs
        · exact hfalse hs
      · exact hfalse hs
    · exact hfalse hs
  case invokestatic idx =>
    simp only [mheap] at hs; split at hs
    · rename_i h0; split at hs
      · rename_i nn dp q sp u r; split at hs
        · rename_i x y hgx hgy; split at hs
          · exact hfalse hs
          · rename_i hin; split at hs
            · rename_i hcond; obtain ⟨hty, hca, hall⟩ := hcond
              cases hs
              have hNt := mNat_ok
              simp only [mNatOk, Bool.and_eq_true, decide_eq_true_eq] at hNt
              obtain ⟨n1, n2, n3, n4, n5, n6, n7⟩ := hNt
              simp only [mchk, h0, if_true, decide_eq_true_eq] at hck
              obtain ⟨hr1, hr2⟩ := hRm (by simp [mneedR, h0])
              have hg2 := mrow_of hgy
              have hgW := mget_W (cy := cy) (ad := ad) (mrow_of hgx)
              have hgW2 := mget_W (cy := cy) (ad := ad) hg2
              have hmw2 := mwords_tr0 ad st'
              unfold mcast at hca
              split at hca
              · rename_i cl hcl
                have hcb := of_decide_eq_true hca
                have hwx : wfO (E.length + h.length) (.inl (3, y.1, mcpW x.2 sp.toNatClampNeg dp.toNatClampNeg nn.toNatClampNeg ++ y.2)) := by
                  intro z hz
                  rcases List.mem_append.mp hz with e1 | e1
                  · obtain ⟨i9, -, rfl⟩ := List.mem_map.mp e1
                    show wfV _ (va_rf (mupR x.2 (sp.toNatClampNeg + i9)))
                    cases hf : mupR x.2 (sp.toNatClampNeg + i9) with
                    | none => trivial
                    | some z9 => exact mupR_wf (wf_get hw (mrow_of hgx)) hf
                  · exact wf_get hw hg2 z e1
                have he : (mW cy ad E.length h).set (q - E.length) (ad q, .inl (cy 3, y.1, .inr (.inr (.inr (.inr (va_cpy (fun j => (mupR x.2 j).map ad) (fun j => (mupR y.2 j).map ad) sp.toNatClampNeg dp.toNatClampNeg nn.toNatClampNeg)))))) = mW cy ad E.length (h.set (q - E.length) (.inl (3, y.1, mcpW x.2 sp.toNatClampNeg dp.toNatClampNeg nn.toNatClampNeg ++ y.2))) := by
                  rw [← mset_W hg2, ← mcpW_up]
                  rfl
                refine va_copyq (C := cl.1) hx hb hml hown (hts _ (mTBL_of hck rfl)) (hts _ (mTBL_of n4 rfl)) (hts _ (mTBL_of n5 rfl)) (hts _ (mTBL_of n6 rfl)) hK hP hD hS _ _ 3 3 (f := fun j => (mupR x.2 j).map ad) (g := fun j => (mupR y.2 j).map ad) hgW hgW2 (mT_get (cy := cy) hty) (mT_get (cy := cy) hty) (fun z => hin (Or.inl (Or.inl z))) (fun z => hin (Or.inl (Or.inr (Or.inl z)))) (fun z => hin (Or.inl (Or.inr (Or.inr z)))) (Nat.not_lt.mp fun z => hin (Or.inr (Or.inl (Or.inl z)))) (Nat.not_lt.mp fun z => hin (Or.inr (Or.inl (Or.inr z)))) ?_ ?_ hr1 (by
                  have h9 : nativeFrameWords "java/lang/System" "arraycopy" 5 = 7 := by decide
                  have h8 : ¬ 8 < mwords st' := fun z => hin (Or.inr (Or.inr z))
                  omega) hd (fun H1 locs1 hP1 hD1 hS1 => ?_)
                · intro i9 hi9 y9 hy9
                  have h9 := List.all_eq_true.mp hall i9 (List.mem_range.mpr hi9)
                  obtain ⟨z9, hz9, rfl⟩ := Option.map_eq_some_iff.mp hy9
                  simp only [mcpO, hz9] at h9
                  split at h9
                  · rename_i o ho
                    have h0c := of_decide_eq_true h9
                    rcases mobjE_or ho with ⟨-, hoE⟩ | hoW
                    · obtain ⟨g1, g2⟩ := hE.1 z9 _ hoE cl (by rw [h0c]; exact hcl)
                      exact va_recv (q0 := 0) hK (va_P_one (g1.kept (hS.2.1 _ g1.lt g2))) (by rw [h0c]; exact hcl) rfl
                    · exact va_recv hK hP (by rw [h0c]; exact hcl) (mget_W (cy := cy) (ad := ad) hoW)
                  · cases h9
                · intro comp c0 f2 f1
                  obtain ⟨c0', t1, f1', f2', f3⟩ := Cond.castable_spec (va_Nw.use (A := args) rfl (hN.1 _ hcb))
                  cases f1.symm.trans f1'
                  cases f2.symm.trans f2'
                  exact f3
                · rw [he] at hP1 hD1
                  exact kk ad H1 locs1 agr.rf hP1 hD1 hS1 (wfH.set hw hwx) (by rw [List.length_set]; exact hws.t.t.t.t.t) (by rw [List.length_set]; exact Nat.le_refl _)
              · cases hca
            · exact hfalse hs
        · exact hfalse hs
      · exact hfalse hs
    · exact hfalse hs
  case ldc2_w idx =>
    simp only [mheap] at hs; split at hs
    · rename_i h0; cases hs
      simp only [mchk, h0, if_true, decide_eq_true_eq] at hck
      exact lv_ldc2 hx hb hown (hts _ (mTBL_of hck rfl)) hd (kk ad H locs agr.rf hP hD hS hw (fun y hy => by
        rcases List.mem_cons.mp hy with e1 | e1
        · rw [e1]; trivial
        · exact hws y e1) (Nat.le_refl _))
    · exact hfalse hs
  case anewarray idx =>
    simp only [mheap] at hs; split at hs
    · rename_i z r; split at hs
      · exact hfalse hs
      · rename_i hz; split at hs
        · rename_i hz8; obtain ⟨hz8, ha3⟩ := hz8
          subst ha3
          split at hs
          · rename_i C hty; split at hs
            · rename_i hao; cases hs
              simp only [mchk, hty, decide_eq_true_eq] at hck
              have hwr : wfL (E.length + h.length) r := hws.t
              refine va_newq hx hb hown (hts _ (mTBL_of hck rfl)) (hN.1 _ hao) hK hP hD hS hA hz rfl (by omega) hR.1 hR.2 hd (fun q cA H1 hK1 hP1 hD1 hS1 => ?_)
              have hcA : cA = cy 3 := by
                obtain ⟨-, -, -, -, -, e1⟩ := (hK1.2 (mT cy).length (cA, .object C) (by rw [List.getElem?_append_right (Nat.le_refl _), Nat.sub_self]; rfl)).2
                obtain ⟨-, -, -, -, -, e2⟩ := (hK.2 3 _ (mT_get (cy := cy) hty)).2
                exact Option.some.inj (e1.symm.trans e2)
              subst hcA
              have hag : agr (E.length + h.length) ad (fun j => if j = E.length + h.length then q else ad j) := fun j hj => if_neg (by omega)
              have he : mW cy ad E.length h ++ [(q, .inl (cy 3, z.toNatClampNeg, .inr (.inr (.inr (.inr (fun _ => none))))))] = mW cy (fun j => if j = E.length + h.length then q else ad j) E.length (h ++ [.inl (3, z.toNatClampNeg, [])]) := by
                rw [mW_push, mW_agr hw hag]
                simp only [trO, if_true]
                rfl
              rw [he] at hP1 hD1
              have hk := kk _ H1 locs hag hP1 hD1 hS1 (wfH.push hw (fun q9 h9 => by cases h9)) (by
                rw [List.length_append, List.length_singleton]
                intro y hy
                rcases List.mem_cons.mp hy with e1 | e1
                · rw [e1]; show E.length + h.length < E.length + (h.length + 1); omega
                · exact (hwr y e1).up (by omega)) (by rw [List.length_append]; exact Nat.le_add_right _ _)
              rw [List.map_cons, map_agr hwr hag] at hk
              simpa only [trV, if_true] using hk
            · exact hfalse hs
          · exact hfalse hs
        · exact hfalse hs
    · exact hfalse hs
  case getstatic idx =>
    simp only [mheap] at hs; split at hs
    · rename_i z hz; split at hs
      · rename_i h0; cases hs
        simp only [mchk, hz, h0, if_true, decide_eq_true_eq] at hck
        have hzm := List.mem_of_getElem? hz
        exact va_gets hx hb (hE.2.1 z hzm) hS hown (hts _ (mTBL_of hck rfl)) (fun _ h9 => h9) hd (kk ad H locs agr.rf hP hD hS hw (hws.c ((hEw.2.1 z hzm).up (Nat.le_add_right _ _))) (Nat.le_refl _))
      · exact hfalse hs
    · exact hfalse hs
  all_goals (simp only [mheap] at hs; exact hfalse hs)
end MH
end
section
/-! ===== the small machine runs: instructions, calls, returns ===== -/
/-- an end: a return, or where an exception is made and thrown -/
def mterm (e : mIns) : Bool := match e.2.1 with
  | .ireturn | .lreturn | .dreturn | .areturn | .return_ => true
  | .new _ => decide (e.2.2.2.1 = 995)
  | _ => false
def minv (e : mIns) : Bool := match e.2.1 with
  | .invokevirtual _ => decide (e.2.2.2.1 ≠ 994)
  | .invokestatic _ => decide (e.2.2.2.1 ≠ 993)
  | .invokespecial _ => true
  | _ => false
/-- what a place at a return answers -/
def mretv (S : mS) : Option (Option Value) := match mlook (mcode S.1.1) S.1.2.1, mmeth S.1.1 with
  | some e, some y => match e.2.1, S.1.2.2.2, y.2.2.2.1 with
    | .ireturn, [.int x], some ty => if narrow ty (.int x) = .int x then some (some (.int x)) else none
    | .lreturn, [.long x], some .long => some (some (.long x))
    | .dreturn, [.double x], some .double => some (some (.double x))
    | .areturn, [.ref x], some (.object _) => some (some (.ref x))
    | .areturn, [.ref x], some (.array _) => some (some (.ref x))
    | .return_, [], none => some none
    | _, _, _ => none
  | _, _ => none
/-- what is thrown at a place -/
def mthrown (S : mS) : Option Nat := match mlook (mcode S.1.1) S.1.2.1 with
  | some e => (match e.2.1 with
    | .new _ => if e.2.2.2.1 = 995 then some e.2.2.2.2.1 else none
    | _ => none)
  | none => none
/-- a call: the called method, what it takes, what stays on the stack -/
def mcallee (E : mE) (e : mIns) (st : List Value) (h : List mO) : Option (Nat × List Value × List Value) := match mPos[e.2.2.2.1]?, mmeth e.2.2.2.1 with
  | some q, some y => if q.1 = 99999 then none else (if st.length < q.2.2.2.2.2 then none else (match e.2.1 with
    | .invokestatic _ => if q.2.2.2.2.1 = true ∧ e.2.2.1 ≤ 1 ∧ mwords (st.drop q.2.2.2.2.2) ≤ 8 ∧ (lg_sl (st.take q.2.2.2.2.2).reverse).length ≤ y.2.2.1 then some (e.2.2.2.1, (st.take q.2.2.2.2.2).reverse, st.drop q.2.2.2.2.2) else none
    | .invokespecial _ => (match st.drop q.2.2.2.2.2 with
      | .ref a :: r => if q.2.2.2.2.1 = false ∧ y.1.name = "<init>" ∧ y.2.2.2.1 = none ∧ mwords r ≤ 8 ∧ (lg_sl (.ref a :: (st.take q.2.2.2.2.2).reverse)).length ≤ y.2.2.1 then some (e.2.2.2.1, .ref a :: (st.take q.2.2.2.2.2).reverse, r) else none
      | _ => none)
    | .invokevirtual _ => (match st.drop q.2.2.2.2.2 with
      | .ref a :: r => (match mobjE E h a with
        | some o => (match mCl[o.1]? with
          | some cl => if q.2.2.2.2.1 = false ∧ q.2.2.1 ≠ 99999 ∧ e.2.2.1 = 0 ∧ cl.1 = y.1.cls ∧ mwords r ≤ 8 ∧ (lg_sl (.ref a :: (st.take q.2.2.2.2.2).reverse)).length ≤ y.2.2.1 then some (e.2.2.2.1, .ref a :: (st.take q.2.2.2.2.2).reverse, r) else none
          | none => none)
        | none => none)
      | _ => none)
    | _ => none))
  | _, _ => none
/-- Object.<init>, Math.min, Math.max -/
def mspec (j : Nat) (e : mIns) (st : List Value) : Option (Nat × List Value) := match mmeth j with
  | some y => (match e.2.1, st with
    | .invokespecial _, .ref _ :: r => if e.2.2.2.1 = 998 ∧ 1 ≤ y.2.2.2.2.2.1 ∧ mwords r + 12 ≤ y.2.2.2.2.2.2 then some (e.1 + 3, r) else none
    | .invokestatic _, .int b :: .int a :: r => if 1 ≤ y.2.2.2.2.2.1 ∧ mwords r + 13 ≤ y.2.2.2.2.2.2 then (if e.2.2.2.1 = 997 ∧ mMathPos.2.2.1 ≠ 99999 then some (e.1 + 3, .int (if b < a then b else a) :: r) else (if e.2.2.2.1 = 996 ∧ mMathPos.1 ≠ 99999 then some (e.1 + 3, .int (if a < b then b else a) :: r) else none)) else none
    | _, _ => none)
  | none => none
def mstep (E : mE) (e : mIns) (S : mS) : Option mS := match mmeth S.1.1 with
  | some y => match mpure y.2.2.1 e S.1.2.2.1 S.1.2.2.2 with
    | some r => some ((S.1.1, r.1, r.2.1, r.2.2), S.2)
    | none => match mheap E e S.1.2.2.2 S.2 with
      | some r => some ((S.1.1, r.1, S.1.2.2.1, r.2.1), r.2.2)
      | none => none
  | none => none
/-- room: what the called one nests and itself, within what the caller nests -/
def mfits (j k : Nat) : Bool := match mmeth j, mmeth k with
  | some x, some y => decide (y.2.2.2.2.2.1 + 1 ≤ x.2.2.2.2.2.1) && decide (8 + (y.2.2.1 + 11) + y.2.2.2.2.2.2 ≤ x.2.2.2.2.2.2)
  | _, _ => false
def ment (k : Nat) (as : List Value) (h : List mO) : mS := ((k, 0, lv_args 0 as, []), (h, 0, 0))
def mrunF (E : mE) (call : Nat → mS → Option mS) : Nat → mS → Option mS
  | 0, _ => none
  | n + 1, S => match mlook (mcode S.1.1) S.1.2.1 with
    | none => none
    | some e => if mterm e = true then some S else (if minv e = true then (if 990 < e.2.2.2.1 then (match mspec S.1.1 e S.1.2.2.2 with
        | none => none
        | some r => mrunF E call n ((S.1.1, r.1, S.1.2.2.1, r.2), S.2)) else (match mcallee E e S.1.2.2.2 S.2.1 with
        | none => none
        | some r => if mfits S.1.1 r.1 = true then (match call n (ment r.1 r.2.1 S.2.1) with
          | none => none
          | some S1 => (match mretv S1 with
            | none => none
            | some v => mrunF E call n ((S.1.1, e.1 + 3, S.1.2.2.1, v.toList ++ r.2.2), (S1.2.1, S.2.2.1 + S1.2.2.1, S.2.2.2 + S1.2.2.2)))) else none)) else (match mstep E e S with
        | none => none
        | some S1 => mrunF E call n S1))
def mexec (E : mE) : Nat → Nat → mS → Option mS
  | 0 => fun _ _ => none
  | d + 1 => mrunF E (mexec E d)
/-! what the tables say of the methods -/
def mMP (k : Nat) (y : mMth) (q : Nat × Nat × Nat × Nat × Bool × Nat) : Prop :=
  Cond.code y.1 y.2.1 y.2.2.1 y.2.2.2.1 ∈ mTBL ∧ (if q.2.2.2.2.1 = true then Cond.static y.1 ∈ mTBL else Cond.instanceMethod y.1 ∈ mTBL) ∧ (q.2.2.1 ≠ 99999 → Cond.selects y.1.cls y.1 y.1 ∈ mTBL) ∧ Cond.initialized y.1.cls ∈ mTBL ∧ plainName y.1.cls = true ∧
    (y.1.cls ≠ "java/lang/invoke/MethodHandle" ∧ y.1.cls ≠ "java/lang/invoke/VarHandle" ∧ (parseMethodDescriptor y.1.desc).map (fun d => d.parameters.length) = some q.2.2.2.2.2) ∧ y.2.2.2.2.1 = y.1.cls
def mchkP (k : Nat) : Bool := match mmeth k, mPos[k]? with
  | some y, some q => if q.1 = 99999 then true else decide (lw_tbl[q.1]? = some (.code y.1 y.2.1 y.2.2.1 y.2.2.2.1)) && ((if q.2.2.2.2.1 = true then decide (lw_tbl[q.2.1]? = some (.static y.1)) else decide (lw_tbl[q.2.1]? = some (.instanceMethod y.1))) && ((decide (q.2.2.1 = 99999) || decide (lw_tbl[q.2.2.1]? = some (.selects y.1.cls y.1 y.1))) && (decide (lw_tbl[q.2.2.2.1]? = some (.initialized y.1.cls)) && (plainName y.1.cls && (decide (y.1.cls ≠ "java/lang/invoke/MethodHandle" ∧ y.1.cls ≠ "java/lang/invoke/VarHandle" ∧ (parseMethodDescriptor y.1.desc).map (fun d => d.parameters.length) = some q.2.2.2.2.2) && decide (y.2.2.2.2.1 = y.1.cls))))))
  | _, _ => true
/-- what a call's instruction links -/
def mchkI (own : String) (e : mIns) : Bool := match e.2.1 with
  | .invokevirtual idx => match mmeth e.2.2.2.1 with
    | some y => if e.2.2.1 = 0 then decide (lw_tbl[e.2.2.2.2.2]? = some (.methodLink own idx y.1)) else true
    | none => true
  | .invokestatic idx => if e.2.2.2.1 = 997 then decide (lw_tbl[e.2.2.2.2.2]? = some (.methodLink own idx Lib.Math.min.name)) else (if e.2.2.2.1 = 996 then decide (lw_tbl[e.2.2.2.2.2]? = some (.methodLink own idx Lib.Math.max.name)) else (match mmeth e.2.2.2.1 with
    | some y => if e.2.2.1 = 0 then decide (lw_tbl[e.2.2.2.2.2]? = some (.methodLink own idx y.1)) else (match mXw[e.2.2.2.2.2]? with
      | some (.methodLinkNest o i z _) => decide (o = own ∧ i = idx ∧ z = y.1)
      | _ => false)
    | none => true))
  | .invokespecial idx => if e.2.2.2.1 = 998 then decide (lw_tbl[e.2.2.2.2.2]? = some (.methodLink own idx objectInit)) else (match mmeth e.2.2.2.1 with
    | some y => if e.2.2.1 = 0 then decide (lw_tbl[e.2.2.2.2.2]? = some (.methodLink own idx y.1)) else (match mXw[e.2.2.2.2.2]? with
      | some (.methodLinkNest o i z _) => decide (o = own ∧ i = idx ∧ z = y.1)
      | _ => false)
    | none => true)
  | _ => true
def mchkMI (j : Nat) : Bool := match mmeth j with
  | some y => (mcode j).all (fun e => mchkI y.2.2.2.2.1 e && (mchk y.2.2.2.2.1 (decide (y.1.name = "<init>")) e && (!(mneedR e) || (decide (1 ≤ y.2.2.2.2.2.1) && decide (40 ≤ y.2.2.2.2.2.2)))))
  | none => true
def mchkD (j : Nat) : Bool := match mmeth j with
  | some y => (mcode j).all (fun e => decide (decode y.2.1 e.1 = .ok (e.2.1, mlen e.2.1 e.2.2.1)))
  | none => true
end
section
/-! ===== the checks of the tables, method by method ===== -/
set_option maxRecDepth 100000 in
theorem mkP_0 : mchkP 0 = true := by decide +kernel
set_option maxRecDepth 100000 in
theorem mkI_0 : mchkMI 0 = true := by decide +kernel
set_option maxRecDepth 100000 in
theorem mkD_0 : mchkD 0 = true := by decide +kernel
set_option maxRecDepth 100000 in
theorem mkP_1 : mchkP 1 = true := by decide +kernel
set_option maxRecDepth 100000 in
theorem mkI_1 : mchkMI 1 = true := by decide +kernel
set_option maxRecDepth 100000 in
theorem mkD_1 : mchkD 1 = true := by decide +kernel
set_option maxRecDepth 100000 in
theorem mkP_2 : mchkP 2 = true := by decide +kernel
set_option maxRecDepth 100000 in
theorem mkI_2 : mchkMI 2 = true := by decide +kernel
set_option maxRecDepth 100000 in
theorem mkD_2 : mchkD 2 = true := by decide +kernel
set_option maxRecDepth 100000 in
theorem mkP_3 : mchkP 3 = true := by decide +kernel
set_option maxRecDepth 100000 in
theorem mkI_3 : mchkMI 3 = true := by decide +kernel
set_option maxRecDepth 100000 in
theorem mkD_3 : mchkD 3 = true := by decide +kernel
set_option maxRecDepth 100000 in
theorem mkP_4 : mchkP 4 = true := by decide +kernel
set_option maxRecDepth 100000 in
theorem mkI_4 : mchkMI 4 = true := by decide +kernel
set_option maxRecDepth 100000 in
theorem mkD_4 : mchkD 4 = true := by decide +kernel
set_option maxRecDepth 100000 in
theorem mkP_5 : mchkP 5 = true := by decide +kernel
set_option maxRecDepth 100000 in
theorem mkI_5 : mchkMI 5 = true := by decide +kernel
set_option maxRecDepth 100000 in
theorem mkD_5 : mchkD 5 = true := by decide +kernel
set_option maxRecDepth 100000 in
theorem mkP_6 : mchkP 6 = true := by decide +kernel
set_option maxRecDepth 100000 in
theorem mkI_6 : mchkMI 6 = true := by decide +kernel
set_option maxRecDepth 100000 in
theorem mkD_6 : mchkD 6 = true := by decide +kernel
set_option maxRecDepth 100000 in
theorem mkP_7 : mchkP 7 = true := by decide +kernel
set_option maxRecDepth 100000 in
theorem mkI_7 : mchkMI 7 = true := by decide +kernel
set_option maxRecDepth 100000 in
theorem mkD_7 : mchkD 7 = true := by decide +kernel
set_option maxRecDepth 100000 in
theorem mkP_8 : mchkP 8 = true := by decide +kernel
set_option maxRecDepth 100000 in
theorem mkI_8 : mchkMI 8 = true := by decide +kernel
set_option maxRecDepth 100000 in
theorem mkD_8 : mchkD 8 = true := by decide +kernel
set_option maxRecDepth 100000 in
theorem mkP_9 : mchkP 9 = true := by decide +kernel
set_option maxRecDepth 100000 in
theorem mkI_9 : mchkMI 9 = true := by decide +kernel
set_option maxRecDepth 100000 in
theorem mkD_9 : mchkD 9 = true := by decide +kernel
set_option maxRecDepth 100000 in
theorem mkP_10 : mchkP 10 = true := by decide +kernel
set_option maxRecDepth 100000 in
theorem mkI_10 : mchkMI 10 = true := by decide +kernel
set_option maxRecDepth 100000 in
theorem mkD_10 : mchkD 10 = true := by decide +kernel
set_option maxRecDepth 100000 in
theorem mkP_11 : mchkP 11 = true := by decide +kernel
set_option maxRecDepth 100000 in
theorem mkI_11 : mchkMI 11 = true := by decide +kernel
set_option maxRecDepth 100000 in
theorem mkD_11 : mchkD 11 = true := by decide +kernel
set_option maxRecDepth 100000 in
theorem mkP_12 : mchkP 12 = true := by decide +kernel
set_option maxRecDepth 100000 in
theorem mkI_12 : mchkMI 12 = true := by decide +kernel
set_option maxRecDepth 100000 in
theorem mkD_12 : mchkD 12 = true := by decide +kernel
set_option maxRecDepth 100000 in
theorem mkP_13 : mchkP 13 = true := by decide +kernel
set_option maxRecDepth 100000 in
theorem mkI_13 : mchkMI 13 = true := by decide +kernel
set_option maxRecDepth 100000 in
theorem mkD_13 : mchkD 13 = true := by decide +kernel
set_option maxRecDepth 100000 in
theorem mkP_14 : mchkP 14 = true := by decide +kernel
set_option maxRecDepth 100000 in
theorem mkI_14 : mchkMI 14 = true := by decide +kernel
set_option maxRecDepth 100000 in
theorem mkD_14 : mchkD 14 = true := by decide +kernel
set_option maxRecDepth 100000 in
theorem mkP_15 : mchkP 15 = true := by decide +kernel
set_option maxRecDepth 100000 in
theorem mkI_15 : mchkMI 15 = true := by decide +kernel
set_option maxRecDepth 100000 in
theorem mkD_15 : mchkD 15 = true := by decide +kernel
set_option maxRecDepth 100000 in
theorem mkP_16 : mchkP 16 = true := by decide +kernel
set_option maxRecDepth 100000 in
theorem mkI_16 : mchkMI 16 = true := by decide +kernel
set_option maxRecDepth 100000 in
theorem mkD_16 : mchkD 16 = true := by decide +kernel
set_option maxRecDepth 100000 in
theorem mkP_17 : mchkP 17 = true := by decide +kernel
set_option maxRecDepth 100000 in
theorem mkI_17 : mchkMI 17 = true := by decide +kernel
set_option maxRecDepth 100000 in
theorem mkD_17 : mchkD 17 = true := by decide +kernel
set_option maxRecDepth 100000 in
theorem mkP_18 : mchkP 18 = true := by decide +kernel
set_option maxRecDepth 100000 in
theorem mkI_18 : mchkMI 18 = true := by decide +kernel
set_option maxRecDepth 100000 in
theorem mkD_18 : mchkD 18 = true := by decide +kernel
set_option maxRecDepth 100000 in
theorem mkP_19 : mchkP 19 = true := by decide +kernel
set_option maxRecDepth 100000 in
theorem mkI_19 : mchkMI 19 = true := by decide +kernel
set_option maxRecDepth 100000 in
theorem mkD_19 : mchkD 19 = true := by decide +kernel
set_option maxRecDepth 100000 in
theorem mkP_20 : mchkP 20 = true := by decide +kernel
set_option maxRecDepth 100000 in
theorem mkI_20 : mchkMI 20 = true := by decide +kernel
set_option maxRecDepth 100000 in
theorem mkD_20 : mchkD 20 = true := by decide +kernel
set_option maxRecDepth 100000 in
theorem mkP_21 : mchkP 21 = true := by decide +kernel
set_option maxRecDepth 100000 in
theorem mkI_21 : mchkMI 21 = true := by decide +kernel
set_option maxRecDepth 100000 in
theorem mkD_21 : mchkD 21 = true := by decide +kernel
set_option maxRecDepth 100000 in
theorem mkP_22 : mchkP 22 = true := by decide +kernel
set_option maxRecDepth 100000 in
theorem mkI_22 : mchkMI 22 = true := by decide +kernel
set_option maxRecDepth 100000 in
theorem mkD_22 : mchkD 22 = true := by decide +kernel
set_option maxRecDepth 100000 in
theorem mkP_23 : mchkP 23 = true := by decide +kernel
set_option maxRecDepth 100000 in
theorem mkI_23 : mchkMI 23 = true := by decide +kernel
set_option maxRecDepth 100000 in
theorem mkD_23 : mchkD 23 = true := by decide +kernel
set_option maxRecDepth 100000 in
theorem mkP_24 : mchkP 24 = true := by decide +kernel
set_option maxRecDepth 100000 in
theorem mkI_24 : mchkMI 24 = true := by decide +kernel
set_option maxRecDepth 100000 in
theorem mkD_24 : mchkD 24 = true := by decide +kernel
set_option maxRecDepth 100000 in
theorem mkP_25 : mchkP 25 = true := by decide +kernel
set_option maxRecDepth 100000 in
theorem mkI_25 : mchkMI 25 = true := by decide +kernel
set_option maxRecDepth 100000 in
theorem mkD_25 : mchkD 25 = true := by decide +kernel
set_option maxRecDepth 100000 in
theorem mkP_26 : mchkP 26 = true := by decide +kernel
set_option maxRecDepth 100000 in
theorem mkI_26 : mchkMI 26 = true := by decide +kernel
set_option maxRecDepth 100000 in
theorem mkD_26 : mchkD 26 = true := by decide +kernel
set_option maxRecDepth 100000 in
theorem mkP_27 : mchkP 27 = true := by decide +kernel
set_option maxRecDepth 100000 in
theorem mkI_27 : mchkMI 27 = true := by decide +kernel
set_option maxRecDepth 100000 in
theorem mkD_27 : mchkD 27 = true := by decide +kernel
set_option maxRecDepth 100000 in
theorem mkP_28 : mchkP 28 = true := by decide +kernel
set_option maxRecDepth 100000 in
theorem mkI_28 : mchkMI 28 = true := by decide +kernel
set_option maxRecDepth 100000 in
theorem mkD_28 : mchkD 28 = true := by decide +kernel
set_option maxRecDepth 100000 in
theorem mkP_29 : mchkP 29 = true := by decide +kernel
set_option maxRecDepth 100000 in
theorem mkI_29 : mchkMI 29 = true := by decide +kernel
set_option maxRecDepth 100000 in
theorem mkD_29 : mchkD 29 = true := by decide +kernel
set_option maxRecDepth 100000 in
theorem mkP_30 : mchkP 30 = true := by decide +kernel
set_option maxRecDepth 100000 in
theorem mkI_30 : mchkMI 30 = true := by decide +kernel
set_option maxRecDepth 100000 in
theorem mkD_30 : mchkD 30 = true := by decide +kernel
set_option maxRecDepth 100000 in
theorem mkP_31 : mchkP 31 = true := by decide +kernel
set_option maxRecDepth 100000 in
theorem mkI_31 : mchkMI 31 = true := by decide +kernel
set_option maxRecDepth 100000 in
theorem mkD_31 : mchkD 31 = true := by decide +kernel
set_option maxRecDepth 100000 in
theorem mkP_32 : mchkP 32 = true := by decide +kernel
set_option maxRecDepth 100000 in
theorem mkI_32 : mchkMI 32 = true := by decide +kernel
set_option maxRecDepth 100000 in
theorem mkD_32 : mchkD 32 = true := by decide +kernel
set_option maxRecDepth 100000 in
theorem mkP_33 : mchkP 33 = true := by decide +kernel
set_option maxRecDepth 100000 in
theorem mkI_33 : mchkMI 33 = true := by decide +kernel
set_option maxRecDepth 100000 in
theorem mkD_33 : mchkD 33 = true := by decide +kernel
set_option maxRecDepth 100000 in
theorem mkP_34 : mchkP 34 = true := by decide +kernel
set_option maxRecDepth 100000 in
theorem mkI_34 : mchkMI 34 = true := by decide +kernel
set_option maxRecDepth 100000 in
theorem mkD_34 : mchkD 34 = true := by decide +kernel
set_option maxRecDepth 100000 in
theorem mkP_35 : mchkP 35 = true := by decide +kernel
set_option maxRecDepth 100000 in
theorem mkI_35 : mchkMI 35 = true := by decide +kernel
set_option maxRecDepth 100000 in
theorem mkD_35 : mchkD 35 = true := by decide +kernel
set_option maxRecDepth 100000 in
theorem mkP_36 : mchkP 36 = true := by decide +kernel
set_option maxRecDepth 100000 in
theorem mkI_36 : mchkMI 36 = true := by decide +kernel
set_option maxRecDepth 100000 in
theorem mkD_36 : mchkD 36 = true := by decide +kernel
set_option maxRecDepth 100000 in
theorem mkP_37 : mchkP 37 = true := by decide +kernel
set_option maxRecDepth 100000 in
theorem mkI_37 : mchkMI 37 = true := by decide +kernel
set_option maxRecDepth 100000 in
theorem mkD_37 : mchkD 37 = true := by decide +kernel
set_option maxRecDepth 100000 in
theorem mkP_38 : mchkP 38 = true := by decide +kernel
set_option maxRecDepth 100000 in
theorem mkI_38 : mchkMI 38 = true := by decide +kernel
set_option maxRecDepth 100000 in
theorem mkD_38 : mchkD 38 = true := by decide +kernel
set_option maxRecDepth 100000 in
theorem mkP_39 : mchkP 39 = true := by decide +kernel
set_option maxRecDepth 100000 in
theorem mkI_39 : mchkMI 39 = true := by decide +kernel
set_option maxRecDepth 100000 in
theorem mkD_39 : mchkD 39 = true := by decide +kernel
set_option maxRecDepth 100000 in
theorem mkP_40 : mchkP 40 = true := by decide +kernel
set_option maxRecDepth 100000 in
theorem mkI_40 : mchkMI 40 = true := by decide +kernel
set_option maxRecDepth 100000 in
theorem mkD_40 : mchkD 40 = true := by decide +kernel
set_option maxRecDepth 100000 in
theorem mkP_41 : mchkP 41 = true := by decide +kernel
set_option maxRecDepth 100000 in
theorem mkI_41 : mchkMI 41 = true := by decide +kernel
set_option maxRecDepth 100000 in
theorem mkD_41 : mchkD 41 = true := by decide +kernel
set_option maxRecDepth 100000 in
theorem mkP_42 : mchkP 42 = true := by decide +kernel
set_option maxRecDepth 100000 in
theorem mkI_42 : mchkMI 42 = true := by decide +kernel
set_option maxRecDepth 100000 in
theorem mkD_42 : mchkD 42 = true := by decide +kernel
set_option maxRecDepth 100000 in
theorem mkP_43 : mchkP 43 = true := by decide +kernel
set_option maxRecDepth 100000 in
theorem mkI_43 : mchkMI 43 = true := by decide +kernel
set_option maxRecDepth 100000 in
theorem mkD_43 : mchkD 43 = true := by decide +kernel
set_option maxRecDepth 100000 in
theorem mkP_44 : mchkP 44 = true := by decide +kernel
set_option maxRecDepth 100000 in
theorem mkI_44 : mchkMI 44 = true := by decide +kernel
set_option maxRecDepth 100000 in
theorem mkD_44 : mchkD 44 = true := by decide +kernel
set_option maxRecDepth 100000 in
theorem mkP_45 : mchkP 45 = true := by decide +kernel
set_option maxRecDepth 100000 in
theorem mkI_45 : mchkMI 45 = true := by decide +kernel
set_option maxRecDepth 100000 in
theorem mkD_45 : mchkD 45 = true := by decide +kernel
set_option maxRecDepth 100000 in
theorem mkP_46 : mchkP 46 = true := by decide +kernel
set_option maxRecDepth 100000 in
theorem mkI_46 : mchkMI 46 = true := by decide +kernel
set_option maxRecDepth 100000 in
theorem mkD_46 : mchkD 46 = true := by decide +kernel
set_option maxRecDepth 100000 in
theorem mkP_47 : mchkP 47 = true := by decide +kernel
set_option maxRecDepth 100000 in
theorem mkI_47 : mchkMI 47 = true := by decide +kernel
set_option maxRecDepth 100000 in
theorem mkD_47 : mchkD 47 = true := by decide +kernel
set_option maxRecDepth 100000 in
theorem mkP_48 : mchkP 48 = true := by decide +kernel
set_option maxRecDepth 100000 in
theorem mkI_48 : mchkMI 48 = true := by decide +kernel
set_option maxRecDepth 100000 in
theorem mkD_48 : mchkD 48 = true := by decide +kernel
set_option maxRecDepth 100000 in
theorem mkP_49 : mchkP 49 = true := by decide +kernel
set_option maxRecDepth 100000 in
theorem mkI_49 : mchkMI 49 = true := by decide +kernel
set_option maxRecDepth 100000 in
theorem mkD_49 : mchkD 49 = true := by decide +kernel
set_option maxRecDepth 100000 in
theorem mkP_50 : mchkP 50 = true := by decide +kernel
set_option maxRecDepth 100000 in
theorem mkI_50 : mchkMI 50 = true := by decide +kernel
set_option maxRecDepth 100000 in
theorem mkD_50 : mchkD 50 = true := by decide +kernel
set_option maxRecDepth 100000 in
theorem mkP_51 : mchkP 51 = true := by decide +kernel
set_option maxRecDepth 100000 in
theorem mkI_51 : mchkMI 51 = true := by decide +kernel
set_option maxRecDepth 100000 in
theorem mkD_51 : mchkD 51 = true := by decide +kernel
set_option maxRecDepth 100000 in
theorem mkP_52 : mchkP 52 = true := by decide +kernel
set_option maxRecDepth 100000 in
theorem mkI_52 : mchkMI 52 = true := by decide +kernel
set_option maxRecDepth 100000 in
theorem mkD_52 : mchkD 52 = true := by decide +kernel
set_option maxRecDepth 100000 in
theorem mkP_53 : mchkP 53 = true := by decide +kernel
set_option maxRecDepth 100000 in
theorem mkI_53 : mchkMI 53 = true := by decide +kernel
set_option maxRecDepth 100000 in
theorem mkD_53 : mchkD 53 = true := by decide +kernel
set_option maxRecDepth 100000 in
theorem mkP_54 : mchkP 54 = true := by decide +kernel
set_option maxRecDepth 100000 in
theorem mkI_54 : mchkMI 54 = true := by decide +kernel
set_option maxRecDepth 100000 in
theorem mkD_54 : mchkD 54 = true := by decide +kernel
set_option maxRecDepth 100000 in
theorem mkP_55 : mchkP 55 = true := by decide +kernel
set_option maxRecDepth 100000 in
theorem mkI_55 : mchkMI 55 = true := by decide +kernel
set_option maxRecDepth 100000 in
theorem mkD_55 : mchkD 55 = true := by decide +kernel
set_option maxRecDepth 100000 in
theorem mkP_56 : mchkP 56 = true := by decide +kernel
set_option maxRecDepth 100000 in
theorem mkI_56 : mchkMI 56 = true := by decide +kernel
set_option maxRecDepth 100000 in
theorem mkD_56 : mchkD 56 = true := by decide +kernel
set_option maxRecDepth 100000 in
theorem mkP_57 : mchkP 57 = true := by decide +kernel
set_option maxRecDepth 100000 in
theorem mkI_57 : mchkMI 57 = true := by decide +kernel
set_option maxRecDepth 100000 in
theorem mkD_57 : mchkD 57 = true := by decide +kernel
set_option maxRecDepth 100000 in
theorem mkP_58 : mchkP 58 = true := by decide +kernel
set_option maxRecDepth 100000 in
theorem mkI_58 : mchkMI 58 = true := by decide +kernel
set_option maxRecDepth 100000 in
theorem mkD_58 : mchkD 58 = true := by decide +kernel
set_option maxRecDepth 100000 in
theorem mkP_59 : mchkP 59 = true := by decide +kernel
set_option maxRecDepth 100000 in
theorem mkI_59 : mchkMI 59 = true := by decide +kernel
set_option maxRecDepth 100000 in
theorem mkD_59 : mchkD 59 = true := by decide +kernel
end
section
/-! ===== the checks of the tables, method by method ===== -/
set_option maxRecDepth 100000 in
theorem mkP_60 : mchkP 60 = true := by decide +kernel
set_option maxRecDepth 100000 in
theorem mkI_60 : mchkMI 60 = true := by decide +kernel
set_option maxRecDepth 100000 in
theorem mkD_60 : mchkD 60 = true := by decide +kernel
set_option maxRecDepth 100000 in
theorem mkP_61 : mchkP 61 = true := by decide +kernel
set_option maxRecDepth 100000 in
theorem mkI_61 : mchkMI 61 = true := by decide +kernel
set_option maxRecDepth 100000 in
theorem mkD_61 : mchkD 61 = true := by decide +kernel
set_option maxRecDepth 100000 in
theorem mkP_62 : mchkP 62 = true := by decide +kernel
set_option maxRecDepth 100000 in
theorem mkI_62 : mchkMI 62 = true := by decide +kernel
set_option maxRecDepth 100000 in
theorem mkD_62 : mchkD 62 = true := by decide +kernel
set_option maxRecDepth 100000 in
theorem mkP_63 : mchkP 63 = true := by decide +kernel
set_option maxRecDepth 100000 in
theorem mkI_63 : mchkMI 63 = true := by decide +kernel
set_option maxRecDepth 100000 in
theorem mkD_63 : mchkD 63 = true := by decide +kernel
set_option maxRecDepth 100000 in
theorem mkP_64 : mchkP 64 = true := by decide +kernel
set_option maxRecDepth 100000 in
theorem mkI_64 : mchkMI 64 = true := by decide +kernel
set_option maxRecDepth 100000 in
theorem mkD_64 : mchkD 64 = true := by decide +kernel
set_option maxRecDepth 100000 in
theorem mkP_65 : mchkP 65 = true := by decide +kernel
set_option maxRecDepth 100000 in
theorem mkI_65 : mchkMI 65 = true := by decide +kernel
set_option maxRecDepth 100000 in
theorem mkD_65 : mchkD 65 = true := by decide +kernel
set_option maxRecDepth 100000 in
theorem mkP_66 : mchkP 66 = true := by decide +kernel
set_option maxRecDepth 100000 in
theorem mkI_66 : mchkMI 66 = true := by decide +kernel
set_option maxRecDepth 100000 in
theorem mkD_66 : mchkD 66 = true := by decide +kernel
set_option maxRecDepth 100000 in
theorem mkP_67 : mchkP 67 = true := by decide +kernel
set_option maxRecDepth 100000 in
theorem mkI_67 : mchkMI 67 = true := by decide +kernel
set_option maxRecDepth 100000 in
theorem mkD_67 : mchkD 67 = true := by decide +kernel
set_option maxRecDepth 100000 in
theorem mkP_68 : mchkP 68 = true := by decide +kernel
set_option maxRecDepth 100000 in
theorem mkI_68 : mchkMI 68 = true := by decide +kernel
set_option maxRecDepth 100000 in
theorem mkD_68 : mchkD 68 = true := by decide +kernel
set_option maxRecDepth 100000 in
theorem mkP_69 : mchkP 69 = true := by decide +kernel
set_option maxRecDepth 100000 in
theorem mkI_69 : mchkMI 69 = true := by decide +kernel
set_option maxRecDepth 100000 in
theorem mkD_69 : mchkD 69 = true := by decide +kernel
set_option maxRecDepth 100000 in
theorem mkP_70 : mchkP 70 = true := by decide +kernel
set_option maxRecDepth 100000 in
theorem mkI_70 : mchkMI 70 = true := by decide +kernel
set_option maxRecDepth 100000 in
theorem mkD_70 : mchkD 70 = true := by decide +kernel
set_option maxRecDepth 100000 in
theorem mkP_71 : mchkP 71 = true := by decide +kernel
set_option maxRecDepth 100000 in
theorem mkI_71 : mchkMI 71 = true := by decide +kernel
set_option maxRecDepth 100000 in
theorem mkD_71 : mchkD 71 = true := by decide +kernel
set_option maxRecDepth 100000 in
theorem mkP_72 : mchkP 72 = true := by decide +kernel
set_option maxRecDepth 100000 in
theorem mkI_72 : mchkMI 72 = true := by decide +kernel
set_option maxRecDepth 100000 in
theorem mkD_72 : mchkD 72 = true := by decide +kernel
set_option maxRecDepth 100000 in
theorem mkP_73 : mchkP 73 = true := by decide +kernel
set_option maxRecDepth 100000 in
theorem mkI_73 : mchkMI 73 = true := by decide +kernel
set_option maxRecDepth 100000 in
theorem mkD_73 : mchkD 73 = true := by decide +kernel
set_option maxRecDepth 100000 in
theorem mkP_74 : mchkP 74 = true := by decide +kernel
set_option maxRecDepth 100000 in
theorem mkI_74 : mchkMI 74 = true := by decide +kernel
set_option maxRecDepth 100000 in
theorem mkD_74 : mchkD 74 = true := by decide +kernel
set_option maxRecDepth 100000 in
theorem mkP_75 : mchkP 75 = true := by decide +kernel
set_option maxRecDepth 100000 in
theorem mkI_75 : mchkMI 75 = true := by decide +kernel
set_option maxRecDepth 100000 in
theorem mkD_75 : mchkD 75 = true := by decide +kernel
set_option maxRecDepth 100000 in
theorem mkP_76 : mchkP 76 = true := by decide +kernel
set_option maxRecDepth 100000 in
theorem mkI_76 : mchkMI 76 = true := by decide +kernel
set_option maxRecDepth 100000 in
theorem mkD_76 : mchkD 76 = true := by decide +kernel
set_option maxRecDepth 100000 in
theorem mkP_77 : mchkP 77 = true := by decide +kernel
set_option maxRecDepth 100000 in
theorem mkI_77 : mchkMI 77 = true := by decide +kernel
set_option maxRecDepth 100000 in
theorem mkD_77 : mchkD 77 = true := by decide +kernel
set_option maxRecDepth 100000 in
theorem mkP_78 : mchkP 78 = true := by decide +kernel
set_option maxRecDepth 100000 in
theorem mkI_78 : mchkMI 78 = true := by decide +kernel
set_option maxRecDepth 100000 in
theorem mkD_78 : mchkD 78 = true := by decide +kernel
set_option maxRecDepth 100000 in
theorem mkP_79 : mchkP 79 = true := by decide +kernel
set_option maxRecDepth 100000 in
theorem mkI_79 : mchkMI 79 = true := by decide +kernel
set_option maxRecDepth 100000 in
theorem mkD_79 : mchkD 79 = true := by decide +kernel
set_option maxRecDepth 100000 in
theorem mkP_80 : mchkP 80 = true := by decide +kernel
set_option maxRecDepth 100000 in
theorem mkI_80 : mchkMI 80 = true := by decide +kernel
set_option maxRecDepth 100000 in
theorem mkD_80 : mchkD 80 = true := by decide +kernel
set_option maxRecDepth 100000 in
theorem mkP_81 : mchkP 81 = true := by decide +kernel
set_option maxRecDepth 100000 in
theorem mkI_81 : mchkMI 81 = true := by decide +kernel
set_option maxRecDepth 100000 in
theorem mkD_81 : mchkD 81 = true := by decide +kernel
set_option maxRecDepth 100000 in
theorem mkP_82 : mchkP 82 = true := by decide +kernel
set_option maxRecDepth 100000 in
theorem mkI_82 : mchkMI 82 = true := by decide +kernel
set_option maxRecDepth 100000 in
theorem mkD_82 : mchkD 82 = true := by decide +kernel
set_option maxRecDepth 100000 in
theorem mkP_83 : mchkP 83 = true := by decide +kernel
set_option maxRecDepth 100000 in
theorem mkI_83 : mchkMI 83 = true := by decide +kernel
set_option maxRecDepth 100000 in
theorem mkD_83 : mchkD 83 = true := by decide +kernel
set_option maxRecDepth 100000 in
theorem mkP_84 : mchkP 84 = true := by decide +kernel
set_option maxRecDepth 100000 in
theorem mkI_84 : mchkMI 84 = true := by decide +kernel
set_option maxRecDepth 100000 in
theorem mkD_84 : mchkD 84 = true := by decide +kernel
set_option maxRecDepth 100000 in
theorem mkP_85 : mchkP 85 = true := by decide +kernel
set_option maxRecDepth 100000 in
theorem mkI_85 : mchkMI 85 = true := by decide +kernel
set_option maxRecDepth 100000 in
theorem mkD_85 : mchkD 85 = true := by decide +kernel
set_option maxRecDepth 100000 in
theorem mkP_86 : mchkP 86 = true := by decide +kernel
set_option maxRecDepth 100000 in
theorem mkI_86 : mchkMI 86 = true := by decide +kernel
set_option maxRecDepth 100000 in
theorem mkD_86 : mchkD 86 = true := by decide +kernel
set_option maxRecDepth 100000 in
theorem mkP_87 : mchkP 87 = true := by decide +kernel
set_option maxRecDepth 100000 in
theorem mkI_87 : mchkMI 87 = true := by decide +kernel
set_option maxRecDepth 100000 in
theorem mkD_87 : mchkD 87 = true := by decide +kernel
set_option maxRecDepth 100000 in
theorem mkP_88 : mchkP 88 = true := by decide +kernel
set_option maxRecDepth 100000 in
theorem mkI_88 : mchkMI 88 = true := by decide +kernel
set_option maxRecDepth 100000 in
theorem mkD_88 : mchkD 88 = true := by decide +kernel
set_option maxRecDepth 100000 in
theorem mkP_89 : mchkP 89 = true := by decide +kernel
set_option maxRecDepth 100000 in
theorem mkI_89 : mchkMI 89 = true := by decide +kernel
set_option maxRecDepth 100000 in
theorem mkD_89 : mchkD 89 = true := by decide +kernel
set_option maxRecDepth 100000 in
theorem mkP_90 : mchkP 90 = true := by decide +kernel
set_option maxRecDepth 100000 in
theorem mkI_90 : mchkMI 90 = true := by decide +kernel
set_option maxRecDepth 100000 in
theorem mkD_90 : mchkD 90 = true := by decide +kernel
set_option maxRecDepth 100000 in
theorem mkP_91 : mchkP 91 = true := by decide +kernel
set_option maxRecDepth 100000 in
theorem mkI_91 : mchkMI 91 = true := by decide +kernel
set_option maxRecDepth 100000 in
theorem mkD_91 : mchkD 91 = true := by decide +kernel
set_option maxRecDepth 100000 in
theorem mkP_92 : mchkP 92 = true := by decide +kernel
set_option maxRecDepth 100000 in
theorem mkI_92 : mchkMI 92 = true := by decide +kernel
set_option maxRecDepth 100000 in
theorem mkD_92 : mchkD 92 = true := by decide +kernel
set_option maxRecDepth 100000 in
theorem mkP_93 : mchkP 93 = true := by decide +kernel
set_option maxRecDepth 100000 in
theorem mkI_93 : mchkMI 93 = true := by decide +kernel
set_option maxRecDepth 100000 in
theorem mkD_93 : mchkD 93 = true := by decide +kernel
set_option maxRecDepth 100000 in
theorem mkP_94 : mchkP 94 = true := by decide +kernel
set_option maxRecDepth 100000 in
theorem mkI_94 : mchkMI 94 = true := by decide +kernel
set_option maxRecDepth 100000 in
theorem mkD_94 : mchkD 94 = true := by decide +kernel
set_option maxRecDepth 100000 in
theorem mkP_95 : mchkP 95 = true := by decide +kernel
set_option maxRecDepth 100000 in
theorem mkI_95 : mchkMI 95 = true := by decide +kernel
set_option maxRecDepth 100000 in
theorem mkD_95 : mchkD 95 = true := by decide +kernel
set_option maxRecDepth 100000 in
theorem mkP_96 : mchkP 96 = true := by decide +kernel
set_option maxRecDepth 100000 in
theorem mkI_96 : mchkMI 96 = true := by decide +kernel
set_option maxRecDepth 100000 in
theorem mkD_96 : mchkD 96 = true := by decide +kernel
set_option maxRecDepth 100000 in
theorem mkP_97 : mchkP 97 = true := by decide +kernel
set_option maxRecDepth 100000 in
theorem mkI_97 : mchkMI 97 = true := by decide +kernel
set_option maxRecDepth 100000 in
theorem mkD_97 : mchkD 97 = true := by decide +kernel
set_option maxRecDepth 100000 in
theorem mkP_98 : mchkP 98 = true := by decide +kernel
set_option maxRecDepth 100000 in
theorem mkI_98 : mchkMI 98 = true := by decide +kernel
set_option maxRecDepth 100000 in
theorem mkD_98 : mchkD 98 = true := by decide +kernel
set_option maxRecDepth 100000 in
theorem mkP_99 : mchkP 99 = true := by decide +kernel
set_option maxRecDepth 100000 in
theorem mkI_99 : mchkMI 99 = true := by decide +kernel
set_option maxRecDepth 100000 in
theorem mkD_99 : mchkD 99 = true := by decide +kernel
set_option maxRecDepth 100000 in
theorem mkP_100 : mchkP 100 = true := by decide +kernel
set_option maxRecDepth 100000 in
theorem mkI_100 : mchkMI 100 = true := by decide +kernel
set_option maxRecDepth 100000 in
theorem mkD_100 : mchkD 100 = true := by decide +kernel
set_option maxRecDepth 100000 in
theorem mkP_101 : mchkP 101 = true := by decide +kernel
set_option maxRecDepth 100000 in
theorem mkI_101 : mchkMI 101 = true := by decide +kernel
set_option maxRecDepth 100000 in
theorem mkD_101 : mchkD 101 = true := by decide +kernel
set_option maxRecDepth 100000 in
theorem mkP_102 : mchkP 102 = true := by decide +kernel
set_option maxRecDepth 100000 in
theorem mkI_102 : mchkMI 102 = true := by decide +kernel
set_option maxRecDepth 100000 in
theorem mkD_102 : mchkD 102 = true := by decide +kernel
set_option maxRecDepth 100000 in
theorem mkP_103 : mchkP 103 = true := by decide +kernel
set_option maxRecDepth 100000 in
theorem mkI_103 : mchkMI 103 = true := by decide +kernel
set_option maxRecDepth 100000 in
theorem mkD_103 : mchkD 103 = true := by decide +kernel
set_option maxRecDepth 100000 in
theorem mkP_104 : mchkP 104 = true := by decide +kernel
set_option maxRecDepth 100000 in
theorem mkI_104 : mchkMI 104 = true := by decide +kernel
set_option maxRecDepth 100000 in
theorem mkD_104 : mchkD 104 = true := by decide +kernel
set_option maxRecDepth 100000 in
theorem mkP_105 : mchkP 105 = true := by decide +kernel
set_option maxRecDepth 100000 in
theorem mkI_105 : mchkMI 105 = true := by decide +kernel
set_option maxRecDepth 100000 in
theorem mkD_105 : mchkD 105 = true := by decide +kernel
set_option maxRecDepth 100000 in
theorem mkP_106 : mchkP 106 = true := by decide +kernel
set_option maxRecDepth 100000 in
theorem mkI_106 : mchkMI 106 = true := by decide +kernel
set_option maxRecDepth 100000 in
theorem mkD_106 : mchkD 106 = true := by decide +kernel
set_option maxRecDepth 100000 in
theorem mkP_107 : mchkP 107 = true := by decide +kernel
set_option maxRecDepth 100000 in
theorem mkI_107 : mchkMI 107 = true := by decide +kernel
set_option maxRecDepth 100000 in
theorem mkD_107 : mchkD 107 = true := by decide +kernel
set_option maxRecDepth 100000 in
theorem mkP_108 : mchkP 108 = true := by decide +kernel
set_option maxRecDepth 100000 in
theorem mkI_108 : mchkMI 108 = true := by decide +kernel
set_option maxRecDepth 100000 in
theorem mkD_108 : mchkD 108 = true := by decide +kernel
set_option maxRecDepth 100000 in
theorem mkP_109 : mchkP 109 = true := by decide +kernel
set_option maxRecDepth 100000 in
theorem mkI_109 : mchkMI 109 = true := by decide +kernel
set_option maxRecDepth 100000 in
theorem mkD_109 : mchkD 109 = true := by decide +kernel
set_option maxRecDepth 100000 in
theorem mkP_110 : mchkP 110 = true := by decide +kernel
set_option maxRecDepth 100000 in
theorem mkI_110 : mchkMI 110 = true := by decide +kernel
set_option maxRecDepth 100000 in
theorem mkD_110 : mchkD 110 = true := by decide +kernel
set_option maxRecDepth 100000 in
theorem mkP_111 : mchkP 111 = true := by decide +kernel
set_option maxRecDepth 100000 in
theorem mkI_111 : mchkMI 111 = true := by decide +kernel
set_option maxRecDepth 100000 in
theorem mkD_111 : mchkD 111 = true := by decide +kernel
set_option maxRecDepth 100000 in
theorem mkP_112 : mchkP 112 = true := by decide +kernel
set_option maxRecDepth 100000 in
theorem mkI_112 : mchkMI 112 = true := by decide +kernel
set_option maxRecDepth 100000 in
theorem mkD_112 : mchkD 112 = true := by decide +kernel
set_option maxRecDepth 100000 in
theorem mkP_113 : mchkP 113 = true := by decide +kernel
set_option maxRecDepth 100000 in
theorem mkI_113 : mchkMI 113 = true := by decide +kernel
set_option maxRecDepth 100000 in
theorem mkD_113 : mchkD 113 = true := by decide +kernel
set_option maxRecDepth 100000 in
theorem mkP_114 : mchkP 114 = true := by decide +kernel
set_option maxRecDepth 100000 in
theorem mkI_114 : mchkMI 114 = true := by decide +kernel
set_option maxRecDepth 100000 in
theorem mkD_114 : mchkD 114 = true := by decide +kernel
end
section
/-! ===== the checks of the tables, method by method ===== -/
theorem mk_chunks {α : Type} (f : α → Bool) (l : List α) : ∀ n : Nat, (∀ k, k < n → ((l.drop (64 * k)).take 64).all f = true) → (l.take (64 * n)).all f = true := by
  intro n
  induction n with
  | zero => intro _; rfl
  | succ n ih =>
    intro h
    have e : 64 * (n + 1) = 64 * n + 64 := by omega
    rw [e, List.take_add, List.all_append, ih (fun k hk => h k (by omega)), h n (by omega)]
    rfl
def mdecO (y : mMth) (e : mIns) : Bool := decide (decode y.2.1 e.1 = .ok (e.2.1, mlen e.2.1 e.2.2.1))
set_option maxRecDepth 100000 in
theorem mkP_115 : mchkP 115 = true := by decide +kernel
set_option maxRecDepth 100000 in
theorem mkI_115 : mchkMI 115 = true := by decide +kernel
set_option maxRecDepth 100000 in
theorem mkD_115 : mchkD 115 = true := by decide +kernel
set_option maxRecDepth 100000 in
theorem mkP_116 : mchkP 116 = true := by decide +kernel
set_option maxRecDepth 100000 in
theorem mkI_116 : mchkMI 116 = true := by decide +kernel
set_option maxRecDepth 100000 in
theorem mkD_116 : mchkD 116 = true := by decide +kernel
set_option maxRecDepth 100000 in
theorem mkP_117 : mchkP 117 = true := by decide +kernel
set_option maxRecDepth 100000 in
theorem mkI_117 : mchkMI 117 = true := by decide +kernel
set_option maxRecDepth 100000 in
theorem mkD_117 : mchkD 117 = true := by decide +kernel
set_option maxRecDepth 100000 in
theorem mkP_118 : mchkP 118 = true := by decide +kernel
set_option maxRecDepth 100000 in
theorem mkI_118 : mchkMI 118 = true := by decide +kernel
set_option maxRecDepth 100000 in
theorem mkD_118 : mchkD 118 = true := by decide +kernel
set_option maxRecDepth 100000 in
theorem mkP_119 : mchkP 119 = true := by decide +kernel
set_option maxRecDepth 100000 in
theorem mkI_119 : mchkMI 119 = true := by decide +kernel
set_option maxRecDepth 100000 in
theorem mkD_119 : mchkD 119 = true := by decide +kernel
set_option maxRecDepth 100000 in
theorem mkP_120 : mchkP 120 = true := by decide +kernel
set_option maxRecDepth 100000 in
theorem mkI_120 : mchkMI 120 = true := by decide +kernel
set_option maxRecDepth 100000 in
theorem mkD_120 : mchkD 120 = true := by decide +kernel
set_option maxRecDepth 100000 in
theorem mkP_121 : mchkP 121 = true := by decide +kernel
set_option maxRecDepth 100000 in
theorem mkI_121 : mchkMI 121 = true := by decide +kernel
set_option maxRecDepth 100000 in
theorem mkD_121 : mchkD 121 = true := by decide +kernel
set_option maxRecDepth 100000 in
theorem mkP_122 : mchkP 122 = true := by decide +kernel
set_option maxRecDepth 100000 in
theorem mkI_122 : mchkMI 122 = true := by decide +kernel
set_option maxRecDepth 100000 in
theorem mkD_122 : mchkD 122 = true := by decide +kernel
set_option maxRecDepth 100000 in
theorem mkP_123 : mchkP 123 = true := by decide +kernel
set_option maxRecDepth 100000 in
theorem mkI_123 : mchkMI 123 = true := by decide +kernel
set_option maxRecDepth 100000 in
theorem mkD_123 : mchkD 123 = true := by decide +kernel
set_option maxRecDepth 100000 in
theorem mkP_124 : mchkP 124 = true := by decide +kernel
set_option maxRecDepth 100000 in
theorem mkI_124 : mchkMI 124 = true := by decide +kernel
set_option maxRecDepth 100000 in
theorem mkD_124 : mchkD 124 = true := by decide +kernel
set_option maxRecDepth 100000 in
theorem mkP_125 : mchkP 125 = true := by decide +kernel
set_option maxRecDepth 100000 in
theorem mkI_125 : mchkMI 125 = true := by decide +kernel
set_option maxRecDepth 100000 in
theorem mkD_125 : mchkD 125 = true := by decide +kernel
set_option maxRecDepth 100000 in
theorem mkP_126 : mchkP 126 = true := by decide +kernel
set_option maxRecDepth 100000 in
theorem mkI_126 : mchkMI 126 = true := by decide +kernel
set_option maxRecDepth 100000 in
theorem mkD_126 : mchkD 126 = true := by decide +kernel
set_option maxRecDepth 100000 in
theorem mkP_127 : mchkP 127 = true := by decide +kernel
set_option maxRecDepth 100000 in
theorem mkI_127 : mchkMI 127 = true := by decide +kernel
set_option maxRecDepth 100000 in
theorem mkD_127 : mchkD 127 = true := by decide +kernel
set_option maxRecDepth 100000 in
theorem mkP_128 : mchkP 128 = true := by decide +kernel
set_option maxRecDepth 100000 in
theorem mkI_128 : mchkMI 128 = true := by decide +kernel
set_option maxRecDepth 100000 in
theorem mkD_128 : mchkD 128 = true := by decide +kernel
set_option maxRecDepth 100000 in
theorem mkP_129 : mchkP 129 = true := by decide +kernel
set_option maxRecDepth 100000 in
theorem mkI_129 : mchkMI 129 = true := by decide +kernel
set_option maxRecDepth 100000 in
theorem mkD_129 : mchkD 129 = true := by decide +kernel
set_option maxRecDepth 100000 in
theorem mkP_130 : mchkP 130 = true := by decide +kernel
set_option maxRecDepth 100000 in
theorem mkI_130 : mchkMI 130 = true := by decide +kernel
set_option maxRecDepth 100000 in
theorem mkD_130 : mchkD 130 = true := by decide +kernel
set_option maxRecDepth 100000 in
theorem mkP_131 : mchkP 131 = true := by decide +kernel
set_option maxRecDepth 100000 in
theorem mkI_131 : mchkMI 131 = true := by decide +kernel
set_option maxRecDepth 100000 in
theorem mkD_131 : mchkD 131 = true := by decide +kernel
set_option maxRecDepth 100000 in
theorem mkP_132 : mchkP 132 = true := by decide +kernel
set_option maxRecDepth 100000 in
theorem mkI_132 : mchkMI 132 = true := by decide +kernel
set_option maxRecDepth 100000 in
theorem mkD_132 : mchkD 132 = true := by decide +kernel
set_option maxRecDepth 100000 in
theorem mkP_133 : mchkP 133 = true := by decide +kernel
set_option maxRecDepth 100000 in
theorem mkI_133 : mchkMI 133 = true := by decide +kernel
set_option maxRecDepth 100000 in
theorem mkD_133 : mchkD 133 = true := by decide +kernel
set_option maxRecDepth 100000 in
theorem mkP_134 : mchkP 134 = true := by decide +kernel
set_option maxRecDepth 100000 in
theorem mkI_134 : mchkMI 134 = true := by decide +kernel
set_option maxRecDepth 100000 in
theorem mkD_134 : mchkD 134 = true := by decide +kernel
set_option maxRecDepth 100000 in
theorem mkP_135 : mchkP 135 = true := by decide +kernel
set_option maxRecDepth 100000 in
theorem mkI_135 : mchkMI 135 = true := by decide +kernel
set_option maxRecDepth 100000 in
theorem mkD_135 : mchkD 135 = true := by decide +kernel
set_option maxRecDepth 100000 in
theorem mkP_136 : mchkP 136 = true := by decide +kernel
set_option maxRecDepth 100000 in
theorem mkI_136 : mchkMI 136 = true := by decide +kernel
set_option maxRecDepth 100000 in
theorem mkD_136 : mchkD 136 = true := by decide +kernel
set_option maxRecDepth 100000 in
theorem mkP_137 : mchkP 137 = true := by decide +kernel
set_option maxRecDepth 100000 in
theorem mkI_137 : mchkMI 137 = true := by decide +kernel
set_option maxRecDepth 100000 in
theorem mkD_137 : mchkD 137 = true := by decide +kernel
set_option maxRecDepth 100000 in
theorem mkP_138 : mchkP 138 = true := by decide +kernel
set_option maxRecDepth 100000 in
theorem mkI_138 : mchkMI 138 = true := by decide +kernel
set_option maxRecDepth 100000 in
theorem mkD_138 : mchkD 138 = true := by decide +kernel
set_option maxRecDepth 100000 in
theorem mkP_139 : mchkP 139 = true := by decide +kernel
set_option maxRecDepth 100000 in
theorem mkI_139 : mchkMI 139 = true := by decide +kernel
set_option maxRecDepth 100000 in
theorem mkD_139 : mchkD 139 = true := by decide +kernel
set_option maxRecDepth 100000 in
theorem mkP_140 : mchkP 140 = true := by decide +kernel
set_option maxRecDepth 100000 in
theorem mkI_140 : mchkMI 140 = true := by decide +kernel
set_option maxRecDepth 100000 in
theorem mkD_140 : mchkD 140 = true := by decide +kernel
set_option maxRecDepth 100000 in
theorem mkP_141 : mchkP 141 = true := by decide +kernel
set_option maxRecDepth 100000 in
theorem mkI_141 : mchkMI 141 = true := by decide +kernel
set_option maxRecDepth 100000 in
theorem mkD_141 : mchkD 141 = true := by decide +kernel
set_option maxRecDepth 100000 in
theorem mkP_142 : mchkP 142 = true := by decide +kernel
set_option maxRecDepth 100000 in
theorem mkI_142 : mchkMI 142 = true := by decide +kernel
set_option maxRecDepth 100000 in
theorem mkD_142 : mchkD 142 = true := by decide +kernel
set_option maxRecDepth 100000 in
theorem mkP_143 : mchkP 143 = true := by decide +kernel
set_option maxRecDepth 100000 in
theorem mkI_143 : mchkMI 143 = true := by decide +kernel
set_option maxRecDepth 100000 in
theorem mkD_143 : mchkD 143 = true := by decide +kernel
set_option maxRecDepth 100000 in
theorem mkP_144 : mchkP 144 = true := by decide +kernel
set_option maxRecDepth 100000 in
theorem mkI_144 : mchkMI 144 = true := by decide +kernel
set_option maxRecDepth 100000 in
theorem mkD_144 : mchkD 144 = true := by decide +kernel
set_option maxRecDepth 100000 in
theorem mkP_145 : mchkP 145 = true := by decide +kernel
set_option maxRecDepth 100000 in
theorem mkI_145 : mchkMI 145 = true := by decide +kernel
set_option maxRecDepth 100000 in
theorem mkD_145 : mchkD 145 = true := by decide +kernel
set_option maxRecDepth 100000 in
theorem mkP_146 : mchkP 146 = true := by decide +kernel
set_option maxRecDepth 100000 in
theorem mkI_146 : mchkMI 146 = true := by decide +kernel
set_option maxRecDepth 100000 in
theorem mkD_146 : mchkD 146 = true := by decide +kernel
set_option maxRecDepth 100000 in
theorem mkP_147 : mchkP 147 = true := by decide +kernel
set_option maxRecDepth 100000 in
theorem mkI_147 : mchkMI 147 = true := by decide +kernel
set_option maxRecDepth 100000 in
theorem mkD_147 : mchkD 147 = true := by decide +kernel
set_option maxRecDepth 100000 in
theorem mkP_148 : mchkP 148 = true := by decide +kernel
set_option maxRecDepth 100000 in
theorem mkI_148 : mchkMI 148 = true := by decide +kernel
set_option maxRecDepth 100000 in
theorem mkD_148 : mchkD 148 = true := by decide +kernel
set_option maxRecDepth 100000 in
theorem mkP_149 : mchkP 149 = true := by decide +kernel
set_option maxRecDepth 100000 in
theorem mkI_149 : mchkMI 149 = true := by decide +kernel
set_option maxRecDepth 100000 in
theorem mkD_149 : mchkD 149 = true := by decide +kernel
set_option maxRecDepth 100000 in
theorem mkP_150 : mchkP 150 = true := by decide +kernel
set_option maxRecDepth 100000 in
theorem mkI_150 : mchkMI 150 = true := by decide +kernel
set_option maxRecDepth 100000 in
theorem mkD_150 : mchkD 150 = true := by decide +kernel
set_option maxRecDepth 100000 in
theorem mkP_151 : mchkP 151 = true := by decide +kernel
set_option maxRecDepth 100000 in
theorem mkI_151 : mchkMI 151 = true := by decide +kernel
set_option maxRecDepth 100000 in
theorem mkD_151 : mchkD 151 = true := by decide +kernel
set_option maxRecDepth 100000 in
theorem mkP_152 : mchkP 152 = true := by decide +kernel
set_option maxRecDepth 100000 in
theorem mkI_152 : mchkMI 152 = true := by decide +kernel
set_option maxRecDepth 100000 in
theorem mkD_152 : mchkD 152 = true := by decide +kernel
set_option maxRecDepth 100000 in
theorem mkP_153 : mchkP 153 = true := by decide +kernel
set_option maxRecDepth 100000 in
theorem mkI_153 : mchkMI 153 = true := by decide +kernel
def mLrow : mMth := (yL_law, cL_law, 9, (some .boolean), RL, 18, 406)
theorem mL_row : mmeth 153 = some mLrow := by rfl
set_option maxRecDepth 100000 in
theorem mkD_153_0 : (((mcode 153).drop (64 * 0)).take 64).all (mdecO mLrow) = true := by decide +kernel
set_option maxRecDepth 100000 in
theorem mkD_153_1 : (((mcode 153).drop (64 * 1)).take 64).all (mdecO mLrow) = true := by decide +kernel
set_option maxRecDepth 100000 in
theorem mkD_153_2 : (((mcode 153).drop (64 * 2)).take 64).all (mdecO mLrow) = true := by decide +kernel
set_option maxRecDepth 100000 in
theorem mkD_153_3 : (((mcode 153).drop (64 * 3)).take 64).all (mdecO mLrow) = true := by decide +kernel
set_option maxRecDepth 100000 in
theorem mkD_153_4 : (((mcode 153).drop (64 * 4)).take 64).all (mdecO mLrow) = true := by decide +kernel
set_option maxRecDepth 100000 in
theorem mkD_153_5 : (((mcode 153).drop (64 * 5)).take 64).all (mdecO mLrow) = true := by decide +kernel
set_option maxRecDepth 100000 in
theorem mkD_153_6 : (((mcode 153).drop (64 * 6)).take 64).all (mdecO mLrow) = true := by decide +kernel
set_option maxRecDepth 100000 in
theorem mkD_153_7 : (((mcode 153).drop (64 * 7)).take 64).all (mdecO mLrow) = true := by decide +kernel
set_option maxRecDepth 100000 in
theorem mkD_153_8 : (((mcode 153).drop (64 * 8)).take 64).all (mdecO mLrow) = true := by decide +kernel
set_option maxRecDepth 100000 in
theorem mkD_153_9 : (((mcode 153).drop (64 * 9)).take 64).all (mdecO mLrow) = true := by decide +kernel
set_option maxRecDepth 100000 in
theorem mkD_153_10 : (((mcode 153).drop (64 * 10)).take 64).all (mdecO mLrow) = true := by decide +kernel
set_option maxRecDepth 100000 in
theorem mkD_153_11 : (((mcode 153).drop (64 * 11)).take 64).all (mdecO mLrow) = true := by decide +kernel
set_option maxRecDepth 100000 in
theorem mkD_153_12 : (((mcode 153).drop (64 * 12)).take 64).all (mdecO mLrow) = true := by decide +kernel
set_option maxRecDepth 100000 in
theorem mkD_153_13 : (((mcode 153).drop (64 * 13)).take 64).all (mdecO mLrow) = true := by decide +kernel
set_option maxRecDepth 100000 in
theorem mkD_153_14 : (((mcode 153).drop (64 * 14)).take 64).all (mdecO mLrow) = true := by decide +kernel
set_option maxRecDepth 100000 in
theorem mkD_153_15 : (((mcode 153).drop (64 * 15)).take 64).all (mdecO mLrow) = true := by decide +kernel
theorem mkD_153 : mchkD 153 = true := by
  have h1 := mk_chunks (mdecO mLrow) (mcode 153) 16 (lt_s (lt_s (lt_s (lt_s (lt_s (lt_s (lt_s (lt_s (lt_s (lt_s (lt_s (lt_s (lt_s (lt_s (lt_s (lt_s (lt_0) mkD_153_0) mkD_153_1) mkD_153_2) mkD_153_3) mkD_153_4) mkD_153_5) mkD_153_6) mkD_153_7) mkD_153_8) mkD_153_9) mkD_153_10) mkD_153_11) mkD_153_12) mkD_153_13) mkD_153_14) mkD_153_15)
  rw [List.take_of_length_le (by decide +kernel)] at h1
  unfold mchkD
  rw [mL_row]
  exact h1
set_option maxRecDepth 100000 in
theorem mkP_154 : mchkP 154 = true := by decide +kernel
set_option maxRecDepth 100000 in
theorem mkI_154 : mchkMI 154 = true := by decide +kernel
set_option maxRecDepth 100000 in
theorem mkD_154 : mchkD 154 = true := by decide +kernel
set_option maxRecDepth 100000 in
theorem mkP_155 : mchkP 155 = true := by decide +kernel
set_option maxRecDepth 100000 in
theorem mkI_155 : mchkMI 155 = true := by decide +kernel
set_option maxRecDepth 100000 in
theorem mkD_155 : mchkD 155 = true := by decide +kernel
set_option maxRecDepth 100000 in
theorem mkP_156 : mchkP 156 = true := by decide +kernel
set_option maxRecDepth 100000 in
theorem mkI_156 : mchkMI 156 = true := by decide +kernel
set_option maxRecDepth 100000 in
theorem mkD_156 : mchkD 156 = true := by decide +kernel
set_option maxRecDepth 100000 in
theorem mkP_157 : mchkP 157 = true := by decide +kernel
set_option maxRecDepth 100000 in
theorem mkI_157 : mchkMI 157 = true := by decide +kernel
set_option maxRecDepth 100000 in
theorem mkD_157 : mchkD 157 = true := by decide +kernel
set_option maxRecDepth 100000 in
theorem mkP_158 : mchkP 158 = true := by decide +kernel
set_option maxRecDepth 100000 in
theorem mkI_158 : mchkMI 158 = true := by decide +kernel
set_option maxRecDepth 100000 in
theorem mkD_158 : mchkD 158 = true := by decide +kernel
set_option maxRecDepth 100000 in
theorem mkP_159 : mchkP 159 = true := by decide +kernel
set_option maxRecDepth 100000 in
theorem mkI_159 : mchkMI 159 = true := by decide +kernel
set_option maxRecDepth 100000 in
theorem mkD_159 : mchkD 159 = true := by decide +kernel
set_option maxRecDepth 100000 in
theorem mkP_160 : mchkP 160 = true := by decide +kernel
set_option maxRecDepth 100000 in
theorem mkI_160 : mchkMI 160 = true := by decide +kernel
set_option maxRecDepth 100000 in
theorem mkD_160 : mchkD 160 = true := by decide +kernel
set_option maxRecDepth 100000 in
theorem mkP_161 : mchkP 161 = true := by decide +kernel
set_option maxRecDepth 100000 in
theorem mkI_161 : mchkMI 161 = true := by decide +kernel
set_option maxRecDepth 100000 in
theorem mkD_161 : mchkD 161 = true := by decide +kernel
set_option maxRecDepth 100000 in
theorem mkP_162 : mchkP 162 = true := by decide +kernel
set_option maxRecDepth 100000 in
theorem mkI_162 : mchkMI 162 = true := by decide +kernel
set_option maxRecDepth 100000 in
theorem mkD_162 : mchkD 162 = true := by decide +kernel
theorem mkP_to20 : ∀ k, k < 20 → mchkP k = true := lt_s (lt_s (lt_s (lt_s (lt_s (lt_s (lt_s (lt_s (lt_s (lt_s (lt_s (lt_s (lt_s (lt_s (lt_s (lt_s (lt_s (lt_s (lt_s (lt_s (lt_0) mkP_0) mkP_1) mkP_2) mkP_3) mkP_4) mkP_5) mkP_6) mkP_7) mkP_8) mkP_9) mkP_10) mkP_11) mkP_12) mkP_13) mkP_14) mkP_15) mkP_16) mkP_17) mkP_18) mkP_19
theorem mkP_to40 : ∀ k, k < 40 → mchkP k = true := lt_s (lt_s (lt_s (lt_s (lt_s (lt_s (lt_s (lt_s (lt_s (lt_s (lt_s (lt_s (lt_s (lt_s (lt_s (lt_s (lt_s (lt_s (lt_s (lt_s (mkP_to20) mkP_20) mkP_21) mkP_22) mkP_23) mkP_24) mkP_25) mkP_26) mkP_27) mkP_28) mkP_29) mkP_30) mkP_31) mkP_32) mkP_33) mkP_34) mkP_35) mkP_36) mkP_37) mkP_38) mkP_39
theorem mkP_to60 : ∀ k, k < 60 → mchkP k = true := lt_s (lt_s (lt_s (lt_s (lt_s (lt_s (lt_s (lt_s (lt_s (lt_s (lt_s (lt_s (lt_s (lt_s (lt_s (lt_s (lt_s (lt_s (lt_s (lt_s (mkP_to40) mkP_40) mkP_41) mkP_42) mkP_43) mkP_44) mkP_45) mkP_46) mkP_47) mkP_48) mkP_49) mkP_50) mkP_51) mkP_52) mkP_53) mkP_54) mkP_55) mkP_56) mkP_57) mkP_58) mkP_59
theorem mkP_to80 : ∀ k, k < 80 → mchkP k = true := lt_s (lt_s (lt_s (lt_s (lt_s (lt_s (lt_s (lt_s (lt_s (lt_s (lt_s (lt_s (lt_s (lt_s (lt_s (lt_s (lt_s (lt_s (lt_s (lt_s (mkP_to60) mkP_60) mkP_61) mkP_62) mkP_63) mkP_64) mkP_65) mkP_66) mkP_67) mkP_68) mkP_69) mkP_70) mkP_71) mkP_72) mkP_73) mkP_74) mkP_75) mkP_76) mkP_77) mkP_78) mkP_79
theorem mkP_to100 : ∀ k, k < 100 → mchkP k = true := lt_s (lt_s (lt_s (lt_s (lt_s (lt_s (lt_s (lt_s (lt_s (lt_s (lt_s (lt_s (lt_s (lt_s (lt_s (lt_s (lt_s (lt_s (lt_s (lt_s (mkP_to80) mkP_80) mkP_81) mkP_82) mkP_83) mkP_84) mkP_85) mkP_86) mkP_87) mkP_88) mkP_89) mkP_90) mkP_91) mkP_92) mkP_93) mkP_94) mkP_95) mkP_96) mkP_97) mkP_98) mkP_99
theorem mkP_to120 : ∀ k, k < 120 → mchkP k = true := lt_s (lt_s (lt_s (lt_s (lt_s (lt_s (lt_s (lt_s (lt_s (lt_s (lt_s (lt_s (lt_s (lt_s (lt_s (lt_s (lt_s (lt_s (lt_s (lt_s (mkP_to100) mkP_100) mkP_101) mkP_102) mkP_103) mkP_104) mkP_105) mkP_106) mkP_107) mkP_108) mkP_109) mkP_110) mkP_111) mkP_112) mkP_113) mkP_114) mkP_115) mkP_116) mkP_117) mkP_118) mkP_119
theorem mkP_to140 : ∀ k, k < 140 → mchkP k = true := lt_s (lt_s (lt_s (lt_s (lt_s (lt_s (lt_s (lt_s (lt_s (lt_s (lt_s (lt_s (lt_s (lt_s (lt_s (lt_s (lt_s (lt_s (lt_s (lt_s (mkP_to120) mkP_120) mkP_121) mkP_122) mkP_123) mkP_124) mkP_125) mkP_126) mkP_127) mkP_128) mkP_129) mkP_130) mkP_131) mkP_132) mkP_133) mkP_134) mkP_135) mkP_136) mkP_137) mkP_138) mkP_139
theorem mkP_to160 : ∀ k, k < 160 → mchkP k = true := lt_s (lt_s (lt_s (lt_s (lt_s (lt_s (lt_s (lt_s (lt_s (lt_s (lt_s (lt_s (lt_s (lt_s (lt_s (lt_s (lt_s (lt_s (lt_s (lt_s (mkP_to140) mkP_140) mkP_141) mkP_142) mkP_143) mkP_144) mkP_145) mkP_146) mkP_147) mkP_148) mkP_149) mkP_150) mkP_151) mkP_152) mkP_153) mkP_154) mkP_155) mkP_156) mkP_157) mkP_158) mkP_159
theorem mkP_to163 : ∀ k, k < 163 → mchkP k = true := lt_s (lt_s (lt_s (mkP_to160) mkP_160) mkP_161) mkP_162
theorem mkP_all {k : Nat} {y : mMth} (h : mmeth k = some y) : mchkP k = true := mkP_to163 k (Nat.lt_of_lt_of_le (List.getElem?_eq_some_iff.mp h).1 (by decide +kernel))
theorem mkI_to20 : ∀ k, k < 20 → mchkMI k = true := lt_s (lt_s (lt_s (lt_s (lt_s (lt_s (lt_s (lt_s (lt_s (lt_s (lt_s (lt_s (lt_s (lt_s (lt_s (lt_s (lt_s (lt_s (lt_s (lt_s (lt_0) mkI_0) mkI_1) mkI_2) mkI_3) mkI_4) mkI_5) mkI_6) mkI_7) mkI_8) mkI_9) mkI_10) mkI_11) mkI_12) mkI_13) mkI_14) mkI_15) mkI_16) mkI_17) mkI_18) mkI_19
theorem mkI_to40 : ∀ k, k < 40 → mchkMI k = true := lt_s (lt_s (lt_s (lt_s (lt_s (lt_s (lt_s (lt_s (lt_s (lt_s (lt_s (lt_s (lt_s (lt_s (lt_s (lt_s (lt_s (lt_s (lt_s (lt_s (mkI_to20) mkI_20) mkI_21) mkI_22) mkI_23) mkI_24) mkI_25) mkI_26) mkI_27) mkI_28) mkI_29) mkI_30) mkI_31) mkI_32) mkI_33) mkI_34) mkI_35) mkI_36) mkI_37) mkI_38) mkI_39
theorem mkI_to60 : ∀ k, k < 60 → mchkMI k = true := lt_s (lt_s (lt_s (lt_s (lt_s (lt_s (lt_s (lt_s (lt_s (lt_s (lt_s (lt_s (lt_s (lt_s (lt_s (lt_s (lt_s (lt_s (lt_s (lt_s (mkI_to40) mkI_40) mkI_41) mkI_42) mkI_43) mkI_44) mkI_45) mkI_46) mkI_47) mkI_48) mkI_49) mkI_50) mkI_51) mkI_52) mkI_53) mkI_54) mkI_55) mkI_56) mkI_57) mkI_58) mkI_59
theorem mkI_to80 : ∀ k, k < 80 → mchkMI k = true := lt_s (lt_s (lt_s (lt_s (lt_s (lt_s (lt_s (lt_s (lt_s (lt_s (lt_s (lt_s (lt_s (lt_s (lt_s (lt_s (lt_s (lt_s (lt_s (lt_s (mkI_to60) mkI_60) mkI_61) mkI_62) mkI_63) mkI_64) mkI_65) mkI_66) mkI_67) mkI_68) mkI_69) mkI_70) mkI_71) mkI_72) mkI_73) mkI_74) mkI_75) mkI_76) mkI_77) mkI_78) mkI_79
theorem mkI_to100 : ∀ k, k < 100 → mchkMI k = true := lt_s (lt_s (lt_s (lt_s (lt_s (lt_s (lt_s (lt_s (lt_s (lt_s (lt_s (lt_s (lt_s (lt_s (lt_s (lt_s (lt_s (lt_s (lt_s (lt_s (mkI_to80) mkI_80) mkI_81) mkI_82) mkI_83) mkI_84) mkI_85) mkI_86) mkI_87) mkI_88) mkI_89) mkI_90) mkI_91) mkI_92) mkI_93) mkI_94) mkI_95) mkI_96) mkI_97) mkI_98) mkI_99
theorem mkI_to120 : ∀ k, k < 120 → mchkMI k = true := lt_s (lt_s (lt_s (lt_s (lt_s (lt_s (lt_s (lt_s (lt_s (lt_s (lt_s (lt_s (lt_s (lt_s (lt_s (lt_s (lt_s (lt_s (lt_s (lt_s (mkI_to100) mkI_100) mkI_101) mkI_102) mkI_103) mkI_104) mkI_105) mkI_106) mkI_107) mkI_108) mkI_109) mkI_110) mkI_111) mkI_112) mkI_113) mkI_114) mkI_115) mkI_116) mkI_117) mkI_118) mkI_119
theorem mkI_to140 : ∀ k, k < 140 → mchkMI k = true := lt_s (lt_s (lt_s (lt_s (lt_s (lt_s (lt_s (lt_s (lt_s (lt_s (lt_s (lt_s (lt_s (lt_s (lt_s (lt_s (lt_s (lt_s (lt_s (lt_s (mkI_to120) mkI_120) mkI_121) mkI_122) mkI_123) mkI_124) mkI_125) mkI_126) mkI_127) mkI_128) mkI_129) mkI_130) mkI_131) mkI_132) mkI_133) mkI_134) mkI_135) mkI_136) mkI_137) mkI_138) mkI_139
theorem mkI_to160 : ∀ k, k < 160 → mchkMI k = true := lt_s (lt_s (lt_s (lt_s (lt_s (lt_s (lt_s (lt_s (lt_s (lt_s (lt_s (lt_s (lt_s (lt_s (lt_s (lt_s (lt_s (lt_s (lt_s (lt_s (mkI_to140) mkI_140) mkI_141) mkI_142) mkI_143) mkI_144) mkI_145) mkI_146) mkI_147) mkI_148) mkI_149) mkI_150) mkI_151) mkI_152) mkI_153) mkI_154) mkI_155) mkI_156) mkI_157) mkI_158) mkI_159
theorem mkI_to163 : ∀ k, k < 163 → mchkMI k = true := lt_s (lt_s (lt_s (mkI_to160) mkI_160) mkI_161) mkI_162
theorem mkI_all {k : Nat} {y : mMth} (h : mmeth k = some y) : mchkMI k = true := mkI_to163 k (Nat.lt_of_lt_of_le (List.getElem?_eq_some_iff.mp h).1 (by decide +kernel))
theorem mkD_to20 : ∀ k, k < 20 → mchkD k = true := lt_s (lt_s (lt_s (lt_s (lt_s (lt_s (lt_s (lt_s (lt_s (lt_s (lt_s (lt_s (lt_s (lt_s (lt_s (lt_s (lt_s (lt_s (lt_s (lt_s (lt_0) mkD_0) mkD_1) mkD_2) mkD_3) mkD_4) mkD_5) mkD_6) mkD_7) mkD_8) mkD_9) mkD_10) mkD_11) mkD_12) mkD_13) mkD_14) mkD_15) mkD_16) mkD_17) mkD_18) mkD_19
theorem mkD_to40 : ∀ k, k < 40 → mchkD k = true := lt_s (lt_s (lt_s (lt_s (lt_s (lt_s (lt_s (lt_s (lt_s (lt_s (lt_s (lt_s (lt_s (lt_s (lt_s (lt_s (lt_s (lt_s (lt_s (lt_s (mkD_to20) mkD_20) mkD_21) mkD_22) mkD_23) mkD_24) mkD_25) mkD_26) mkD_27) mkD_28) mkD_29) mkD_30) mkD_31) mkD_32) mkD_33) mkD_34) mkD_35) mkD_36) mkD_37) mkD_38) mkD_39
theorem mkD_to60 : ∀ k, k < 60 → mchkD k = true := lt_s (lt_s (lt_s (lt_s (lt_s (lt_s (lt_s (lt_s (lt_s (lt_s (lt_s (lt_s (lt_s (lt_s (lt_s (lt_s (lt_s (lt_s (lt_s (lt_s (mkD_to40) mkD_40) mkD_41) mkD_42) mkD_43) mkD_44) mkD_45) mkD_46) mkD_47) mkD_48) mkD_49) mkD_50) mkD_51) mkD_52) mkD_53) mkD_54) mkD_55) mkD_56) mkD_57) mkD_58) mkD_59
theorem mkD_to80 : ∀ k, k < 80 → mchkD k = true := lt_s (lt_s (lt_s (lt_s (lt_s (lt_s (lt_s (lt_s (lt_s (lt_s (lt_s (lt_s (lt_s (lt_s (lt_s (lt_s (lt_s (lt_s (lt_s (lt_s (mkD_to60) mkD_60) mkD_61) mkD_62) mkD_63) mkD_64) mkD_65) mkD_66) mkD_67) mkD_68) mkD_69) mkD_70) mkD_71) mkD_72) mkD_73) mkD_74) mkD_75) mkD_76) mkD_77) mkD_78) mkD_79
theorem mkD_to100 : ∀ k, k < 100 → mchkD k = true := lt_s (lt_s (lt_s (lt_s (lt_s (lt_s (lt_s (lt_s (lt_s (lt_s (lt_s (lt_s (lt_s (lt_s (lt_s (lt_s (lt_s (lt_s (lt_s (lt_s (mkD_to80) mkD_80) mkD_81) mkD_82) mkD_83) mkD_84) mkD_85) mkD_86) mkD_87) mkD_88) mkD_89) mkD_90) mkD_91) mkD_92) mkD_93) mkD_94) mkD_95) mkD_96) mkD_97) mkD_98) mkD_99
theorem mkD_to120 : ∀ k, k < 120 → mchkD k = true := lt_s (lt_s (lt_s (lt_s (lt_s (lt_s (lt_s (lt_s (lt_s (lt_s (lt_s (lt_s (lt_s (lt_s (lt_s (lt_s (lt_s (lt_s (lt_s (lt_s (mkD_to100) mkD_100) mkD_101) mkD_102) mkD_103) mkD_104) mkD_105) mkD_106) mkD_107) mkD_108) mkD_109) mkD_110) mkD_111) mkD_112) mkD_113) mkD_114) mkD_115) mkD_116) mkD_117) mkD_118) mkD_119
theorem mkD_to140 : ∀ k, k < 140 → mchkD k = true := lt_s (lt_s (lt_s (lt_s (lt_s (lt_s (lt_s (lt_s (lt_s (lt_s (lt_s (lt_s (lt_s (lt_s (lt_s (lt_s (lt_s (lt_s (lt_s (lt_s (mkD_to120) mkD_120) mkD_121) mkD_122) mkD_123) mkD_124) mkD_125) mkD_126) mkD_127) mkD_128) mkD_129) mkD_130) mkD_131) mkD_132) mkD_133) mkD_134) mkD_135) mkD_136) mkD_137) mkD_138) mkD_139
theorem mkD_to160 : ∀ k, k < 160 → mchkD k = true := lt_s (lt_s (lt_s (lt_s (lt_s (lt_s (lt_s (lt_s (lt_s (lt_s (lt_s (lt_s (lt_s (lt_s (lt_s (lt_s (lt_s (lt_s (lt_s (lt_s (mkD_to140) mkD_140) mkD_141) mkD_142) mkD_143) mkD_144) mkD_145) mkD_146) mkD_147) mkD_148) mkD_149) mkD_150) mkD_151) mkD_152) mkD_153) mkD_154) mkD_155) mkD_156) mkD_157) mkD_158) mkD_159
theorem mkD_to163 : ∀ k, k < 163 → mchkD k = true := lt_s (lt_s (lt_s (mkD_to160) mkD_160) mkD_161) mkD_162
theorem mkD_all {k : Nat} {y : mMth} (h : mmeth k = some y) : mchkD k = true := mkD_to163 k (Nat.lt_of_lt_of_le (List.getElem?_eq_some_iff.mp h).1 (by decide +kernel))
end
section
theorem mMeth_ok {k : Nat} {y : mMth} {q : Nat × Nat × Nat × Nat × Bool × Nat} (h : mmeth k = some y) (hq : mPos[k]? = some q) (hg : q.1 ≠ 99999) : mMP k y q := by
  have h1 := mkP_all h
  simp only [mchkP, h, hq, if_neg hg, Bool.and_eq_true, Bool.or_eq_true, decide_eq_true_eq] at h1
  obtain ⟨a1, a2, a3, a4, a5, a6, a7⟩ := h1
  refine ⟨mTBL_of a1 rfl, ?_, fun h9 => ?_, mTBL_of a4 rfl, a5, a6, a7⟩
  · by_cases hs : q.2.2.2.2.1 = true
    · rw [if_pos hs] at a2 ⊢
      exact mTBL_of (of_decide_eq_true a2) rfl
    · rw [if_neg hs] at a2 ⊢
      exact mTBL_of (of_decide_eq_true a2) rfl
  · rcases a3 with a3 | a3
    · exact absurd a3 h9
    · exact mTBL_of a3 rfl
theorem mlook_mem {l : List mIns} {pc : Nat} {e : mIns} (h : mlook l pc = some e) : e ∈ l ∧ e.1 = pc := by
  induction l with
  | nil => cases h
  | cons x r ih =>
    unfold mlook at h
    split at h
    · rename_i hx
      cases h
      exact ⟨List.mem_cons_self, hx⟩
    · exact ⟨List.mem_cons_of_mem _ (ih h).1, (ih h).2⟩
theorem mIns_ok {j pc : Nat} {y : mMth} {e : mIns} (hy : mmeth j = some y) (he : mlook (mcode j) pc = some e) : mchkI y.2.2.2.2.1 e = true ∧ mchk y.2.2.2.2.1 (decide (y.1.name = "<init>")) e = true ∧ decode y.2.1 e.1 = .ok (e.2.1, mlen e.2.1 e.2.2.1) := by
  have h1 := mkI_all hy
  simp only [mchkMI, hy] at h1
  have h2 := List.all_eq_true.mp h1 e (mlook_mem he).1
  simp only [Bool.and_eq_true] at h2
  have h3 := mkD_all hy
  simp only [mchkD, hy] at h3
  have h4 := List.all_eq_true.mp h3 e (mlook_mem he).1
  exact ⟨h2.1, h2.2.1, of_decide_eq_true h4⟩
theorem mIns_room {j pc : Nat} {y : mMth} {e : mIns} (hy : mmeth j = some y) (he : mlook (mcode j) pc = some e) (hn : mneedR e = true) : 1 ≤ y.2.2.2.2.2.1 ∧ 40 ≤ y.2.2.2.2.2.2 := by
  have h1 := mkI_all hy
  simp only [mchkMI, hy] at h1
  have h2 := List.all_eq_true.mp h1 e (mlook_mem he).1
  simp only [Bool.and_eq_true, Bool.or_eq_true, Bool.not_eq_true', decide_eq_true_eq] at h2
  rcases h2.2.2 with h3 | h3
  · rw [hn] at h3; cases h3
  · exact h3
set_option maxRecDepth 100000 in
theorem mObj_ok : Cond.instanceMethod objectInit ∈ mTBL ∧ Cond.code objectInit ⟨#[0xb1]⟩ 1 none ∈ mTBL := ⟨mTBL_of (k := mObjPos.1) (by decide +kernel) rfl, mTBL_of (k := mObjPos.2) (by decide +kernel) rfl⟩
/-! what is made is never unmade -/
theorem mheap_mono {E : mE} {e : mIns} {st : List Value} {h : mH} {r : Nat × List Value × mH} (hs : mheap E e st h = some r) : h.2.1 ≤ r.2.2.2.1 ∧ h.2.2 ≤ r.2.2.2.2 := by
  obtain ⟨pc, i, n, a, b, k⟩ := e
  obtain ⟨h, nc, ns⟩ := h
  cases i
  all_goals simp only [mheap] at hs
  all_goals first
    | exact hfalse hs
    | (repeat' (split at hs)) <;> first
      | exact hfalse hs
      | (cases hs; exact ⟨Nat.le_refl _, Nat.le_refl _⟩)
      | (cases hs; exact ⟨Nat.le_add_right _ _, Nat.le_add_right _ _⟩)
theorem mrun_mono {E : mE} {call : Nat → mS → Option mS} : ∀ (n : Nat) (S S' : mS), mrunF E call n S = some S' → S.2.2.1 ≤ S'.2.2.1 ∧ S.2.2.2 ≤ S'.2.2.2 := by
  intro n
  induction n with
  | zero => intro S S' h; cases h
  | succ n ih =>
    intro S S' h
    unfold mrunF at h
    split at h
    · exact hfalse h
    · rename_i e he; split at h
      · cases h; exact ⟨Nat.le_refl _, Nat.le_refl _⟩
      · split at h
        · split at h
          · split at h
            · exact hfalse h
            · have h1 := ih _ _ h
              exact h1
          · split at h
            · exact hfalse h
            · split at h
              · split at h
                · exact hfalse h
                · split at h
                  · exact hfalse h
                  · have h1 := ih _ _ h
                    dsimp only at h1
                    exact ⟨by omega, by omega⟩
              · exact hfalse h
        · split at h
          · exact hfalse h
          · rename_i S1 hS1
            have h1 := ih _ _ h
            have h2 : S.2.2.1 ≤ S1.2.2.1 ∧ S.2.2.2 ≤ S1.2.2.2 := by
              unfold mstep at hS1
              split at hS1
              · split at hS1
                · cases hS1; exact ⟨Nat.le_refl _, Nat.le_refl _⟩
                · split at hS1
                  · rename_i r hr; cases hS1; exact mheap_mono hr
                  · exact hfalse hS1
              · exact hfalse hS1
            exact ⟨Nat.le_trans h2.1 h1.1, Nat.le_trans h2.2 h1.2⟩
def mMathOk : Bool := (decide (mMathPos.1 = 99999) || (decide (lw_tbl[mMathPos.1]? = some (.static Lib.Math.max.name)) && decide (lw_tbl[mMathPos.2.1]? = some (.code Lib.Math.max.name Lib.Math.max.code 2 (some .int))))) && ((decide (mMathPos.2.2.1 = 99999) || (decide (lw_tbl[mMathPos.2.2.1]? = some (.static Lib.Math.min.name)) && decide (lw_tbl[mMathPos.2.2.2.1]? = some (.code Lib.Math.min.name Lib.Math.min.code 2 (some .int))))) && decide (lw_tbl[mMathPos.2.2.2.2]? = some (.initialized "java/lang/Math")))
set_option maxRecDepth 100000 in
theorem mMath_ok : mMathOk = true := by decide +kernel
def mTyChk (i : Nat) : Bool := match mTys[i]?, mTyPos[i]? with
  | some ty, some k => decide (lw_tbl[k]? = some (.arrayClass ty))
  | none, _ => true
  | _, _ => false
set_option maxRecDepth 100000 in
theorem mTys_chk : (List.range 3).all mTyChk = true := by decide +kernel
theorem mTys_ok (t : Nat) (ty : FieldType) (ht : t ≤ 2) (hty : mTys[t]? = some ty) : Cond.arrayClass ty ∈ mTBL := by
  have h1 := List.all_eq_true.mp mTys_chk t (List.mem_range.mpr (by omega))
  unfold mTyChk at h1
  rw [hty] at h1
  split at h1
  · rename_i a b ha hb
    cases ha
    exact mTBL_of (of_decide_eq_true h1) rfl
  · rename_i ha
    cases ha
  · cases h1
end
section
/-! ===== the small machine's runs are the true machine's ===== -/
def mws (y : mMth) : List Cond := Cond.code y.1 y.2.1 y.2.2.1 y.2.2.2.1 :: mTBL
def mrm (y : mMth) (mc ms : Nat) : Room := { frames := y.2.2.2.2.2.1, cells := mc, slots := ms, locals := y.2.2.2.2.2.2 }
theorem mws_in {big : List Cond} (hb : ∀ w ∈ mTBL, w ∈ big) {y : mMth} (hc : Cond.code y.1 y.2.1 y.2.2.1 y.2.2.2.1 ∈ mTBL) : GoodIn big (mws y) := by
  intro w hw
  rcases List.mem_cons.mp hw with e1 | e1
  · subst e1
    exact ⟨hb _ hc, good_of_word (List.mem_filter.mp hc).2⟩
  · exact ⟨hb _ e1, good_of_word (List.mem_filter.mp e1).2⟩
theorem mgood_cons {big : List Cond} {w : Cond} {ws : List Cond} (h : w ∈ mTBL) (hb : ∀ w ∈ mTBL, w ∈ big) (hw : GoodIn big ws) : GoodIn big (w :: ws) := by
  intro x hx
  rcases List.mem_cons.mp hx with e1 | e1
  · subst e1
    exact ⟨hb _ h, good_of_word (List.mem_filter.mp h).2⟩
  · exact hw x e1
/-- a method's start: the whole list lies in the heap -/
def mWo (D : va_G) (cy : Nat → ClassId) (E : mE) (ad : Nat → Nat) (h : List mO) (sz : Nat) (U : State) : Prop :=
  U.heap.size = sz ∧ va_P D mCl (mW cy ad E.length h) U.heap ∧ va_K D mCl (mT cy) U ∧ va_D (fun _ => True) (mW cy ad E.length h) ∧ mEx D E ad (va_A (mW cy ad E.length h) sz) U U.heap ∧ mNs U
def mPc (D : va_G) (cy : Nat → ClassId) (E : mE) (ad : Nat → Nat) (as : List Value) (h : List mO) (sz : Nat) : Array Value → State → Prop := va_Pc (as.map (trV ad)) (mWo D cy E ad h sz)
theorem mPc_blind {D : va_G} {cy : Nat → ClassId} {E : mE} {ad : Nat → Nat} {as : List Value} {h : List mO} {sz : Nat} : FrameBlind (mPc D cy E ad as h sz) := by
  intro a U g mk q
  obtain ⟨q1, q2, q3, q4, q5, q6, q7⟩ := q
  exact ⟨q1, q2, q3, va_K.moved (u := U) (U := U.calling g mk a) (Vm.Alike.refl U.vm) q4, q5, mEx.moved (u := U) (U := U.calling g mk a) (Vm.Alike.refl U.vm) q6, mNs.same (u := U) (U := U.calling g mk a) rfl q7⟩
/-- a method's end -/
def mQc (D : va_G) (cy : Nat → ClassId) (E : mE) (ad : Nat → Nat) (h : List mO) (sz : Nat) (h' : List mO) (v : Option Value) : Array Value → State → Outcome → State → Prop := fun _ st oc t =>
  (∃ ad' : Nat → Nat, agr (E.length + h.length) ad ad' ∧ oc = .returned (v.map (trV ad')) ∧ va_P D mCl (mW cy ad' E.length h') t.heap ∧ va_D (va_A (mW cy ad E.length h) sz) (mW cy ad' E.length h')) ∧
  (h.length ≤ h'.length ∧ wfH E.length h' ∧ ∀ x, v = some x → wfV (E.length + h'.length) x) ∧ va_F (va_A (mW cy ad E.length h) sz) st t
/-- every run of 'call' is a contract -/
def mCallOk (l : Launch) (D : va_G) (cy : Nat → ClassId) (E : mE) (call : Nat → mS → Option mS) : Prop :=
  ∀ (n k : Nat) (y : mMth) (q : Nat × Nat × Nat × Nat × Bool × Nat) (as : List Value) (h : List mO) (S1 : mS) (v : Option Value), mmeth k = some y → mPos[k]? = some q → q.1 ≠ 99999 → (lg_sl as).length ≤ y.2.2.1 → wfL (E.length + h.length) as → wfH E.length h → call n (ment k as h) = some S1 → mretv S1 = some v →
    ∀ (ad : Nat → Nat) (sz : Nat), Met l y.1 (mws y) (mrm y S1.2.2.1 S1.2.2.2) (mPc D cy E ad as h sz) (mQc D cy E ad h sz S1.2.1 v) S1.2.2.1 S1.2.2.2 (va_A (mW cy ad E.length h) sz)
theorem lg_sl_tr (ad : Nat → Nat) (as : List Value) : (lg_sl (as.map (trV ad))).length = (lg_sl as).length := by
  induction as with
  | nil => rfl
  | cons v r ih =>
    simp only [lg_sl, List.map_cons, List.flatMap_cons, List.length_append] at ih ⊢
    rw [ih, trV_cat]
    split <;> rfl
theorem lv_args_tr (ad : Nat → Nat) (as : List Value) : ∀ i : Nat, lv_args i (as.map (trV ad)) = trL ad (lv_args i as) := by
  induction as with
  | nil => intro i; rfl
  | cons v r ih =>
    intro i
    simp only [List.map_cons, lv_args, trL, trV_cat]
    rw [ih]
    rfl
theorem lv_args_wf {n : Nat} {as : List Value} (h : wfL n as) : ∀ i : Nat, wfLv n (lv_args i as) := by
  induction as with
  | nil => intro i q hq; cases hq
  | cons v r ih =>
    intro i q hq
    rcases List.mem_cons.mp hq with e1 | e1
    · rw [e1]; exact h.h
    · exact ih h.t _ q e1
theorem mwords_tr (ad : Nat → Nat) (st : List Value) : ((st.map (trV ad)).map fun v => v.category).sum = mwords st := by
  unfold mwords
  rw [List.map_map]
  congr 1
  apply List.map_congr_left
  intro v _
  exact trV_cat ad v
section MC
variable {p : Program} {l : Launch} {e : Env} {R : Room} {s : State} {m : MethodId} {args : Array Value} {below : List Frame} {meth : Method} {c : Code} {H : Heap} {locs : List Loc} {cells slots : Nat} {Q : State → Prop}
/-- behind a call -/
theorem m_back {D : va_G} {cy : Nat → ClassId} {E : mE} {ad : Nat → Nat} {h h' : List mO} {v : Option Value} {a : Array Value} {A : Nat → Prop} {mc ms pc : Nat} {ls : Array Slot} {st0 rest : List Value} (hw : wfH E.length h)
    (hr : va_Run p l e R s m args below meth c H locs cells slots mc ms (F0 m pc ls st0) rest (mQc D cy E ad h H.size h' v a) (va_A (mW cy ad E.length h) H.size)) (hS : va_S A s.heap H locs) (hAA : ∀ q, va_A (mW cy ad E.length h) H.size q → A q)
    (kk : ∀ (ad' : Nat → Nat) (H1 : Heap) (locs1 : List Loc), agr (E.length + h.length) ad ad' → va_P D mCl (mW cy ad' E.length h') H1 → va_D A (mW cy ad' E.length h') → va_S A s.heap H1 locs1 → h.length ≤ h'.length → wfH E.length h' → (∀ x, v = some x → wfV (E.length + h'.length) x) → W p l e R s m args below meth c H1 locs1 (cells + mc) (slots + ms) Q (F0 m (pc + 3) ls ((v.map (trV ad')).toList ++ rest))) : W p l e R s m args below meth c H locs cells slots Q (F0 m pc ls st0) := by
  intro T hT X
  obtain ⟨v0, st₀, t, T', L, h0, X', hL, e1, e2, ⟨⟨ad', g1, g2, g3, g4⟩, ⟨g5, g6, g7⟩, hz, hk⟩, st⟩ := hr T hT X
  cases g2
  rw [h0] at hz hk
  obtain ⟨t2, a1, b1⟩ := kk ad' T'.heap (locs ++ L) g1 (by rw [e1]; exact g3) (g4.weaken (fun k q _ hq => hAA q.1 hq))
    ⟨Nat.le_trans hS.1 (by rw [e1]; exact hz), fun q h1 h2 => by rw [e1, hk q (Nat.lt_of_lt_of_le h1 hS.1) (fun z => h2 (hAA q z))]; exact hS.2.1 q h1 h2, fun q hq => by
      rcases List.mem_append.mp hq with h9 | h9
      · exact hS.2.2 q h9
      · exact hAA _ (hL q h9)⟩ g5 g6 g7 T' rfl X'
  exact ⟨t2, st t2 a1, b1⟩
theorem m_AA {cy : Nat → ClassId} {E : mE} {ad : Nat → Nat} {h : List mO} {A : Nat → Prop} (hD : va_D A (mW cy ad E.length h)) (hS : va_S A s.heap H locs) (hA : ∀ q, s.heap.size ≤ q → A q) : ∀ q, va_A (mW cy ad E.length h) H.size q → A q := by
  intro q hq
  rcases hq with ⟨k, z, hz⟩ | hq
  · exact hD.2 k _ hz
  · exact hA q (Nat.le_trans hS.1 hq)
/-- the called method's start holds -/
theorem m_pre {D : va_G} {cy : Nat → ClassId} {E : mE} {ad : Nat → Nat} {h : List mO} {A : Nat → Prop} (hK : va_K D mCl (mT cy) s) (hP : va_P D mCl (mW cy ad E.length h) H) (hD : va_D A (mW cy ad E.length h)) (hS : va_S A s.heap H locs) (hA : ∀ q, s.heap.size ≤ q → A q) (hE : mEx D E ad A s s.heap) (hN : mNs s) (as : List Value) :
    ∀ U : State, U.heap = H → s.WarmedH U.vm → mPc D cy E ad as h H.size (as.map (trV ad)).toArray U := by
  intro U hU hW
  refine ⟨rfl, by rw [hU], by rw [hU]; exact hP, va_K.moved hW.alike hK, hD.weaken (fun _ _ _ _ => trivial), ?_, hN.warm hW⟩
  rw [hU]
  exact ((hE.kept hS.2.1).moved hW.alike).narrow (m_AA hD hS hA)
theorem mk_split {ad : Nat → Nat} {st r : List Value} {n : Nat} {a : Nat} (h : st.drop n = .ref a :: r) : st.map (trV ad) = (((st.take n).reverse.map (trV ad))).reverse ++ .ref (ad a) :: r.map (trV ad) := by
  rw [List.map_reverse, List.reverse_reverse]
  have h1 : st = st.take n ++ .ref a :: r := by rw [← h, List.take_append_drop]
  conv => lhs; rw [h1]
  rw [List.map_append]
  rfl
theorem mk_split0 {ad : Nat → Nat} {st : List Value} {n : Nat} : st.map (trV ad) = (((st.take n).reverse.map (trV ad))).reverse ++ (st.drop n).map (trV ad) := by
  rw [List.map_reverse, List.reverse_reverse, ← List.map_append, List.take_append_drop]
set_option maxHeartbeats 4000000 in
/-- a call of the small machine, seen from the true one -/
theorem m_run {cc : ByteArray} {nL : Nat} {D : va_G} {cy : Nat → ClassId} {E : mE} {call : Nat → mS → Option mS} (hcall : mCallOk l D cy E call) (hx : p.tables.exec = Jvm.exec) (hb : c.code = cc) (hml : c.maxLocals = nL) (hts : ∀ w ∈ mTBL, w.before args s = true) {own : String} (hown : s.vm.findClass own = some m.cls)
    {ad : Nat → Nat} {A : Nat → Prop} {i : mIns} {st : List Value} {h : List mO} {ls : Array Slot} {x : mMth} {j k n : Nat} {as rest : List Value} {S1 : mS} {v : Option Value} (hsz : ls.size = nL) (hck : mchkI own i = true) (hd : decode cc i.1 = .ok (i.2.1, mlen i.2.1 i.2.2.1))
    (hK : va_K D mCl (mT cy) s) (hP : va_P D mCl (mW cy ad E.length h) H) (hD : va_D A (mW cy ad E.length h)) (hS : va_S A s.heap H locs) (hA : ∀ q, s.heap.size ≤ q → A q) (hE : mEx D E ad A s s.heap) (hN : mNs s) (hw : wfH E.length h) (hws : wfL (E.length + h.length) st)
    (hi : i.2.2.2.1 ≤ 990) (hx0 : mmeth j = some x) (hR1 : x.2.2.2.2.2.1 ≤ R.frames) (hR2 : x.2.2.2.2.2.2 ≤ R.locals)
    (hc : mcallee E i st h = some (k, as, rest)) (hf : mfits j k = true) (hrun : call n (ment k as h) = some S1) (hret : mretv S1 = some v) (hR : cells + S1.2.2.1 ≤ R.cells ∧ slots + S1.2.2.2 ≤ R.slots) :
    wfL (E.length + h.length) rest ∧ ∃ a : Array Value, va_Run p l e R s m args below meth c H locs cells slots S1.2.2.1 S1.2.2.2 (F0 m i.1 ls (st.map (trV ad))) (rest.map (trV ad)) (mQc D cy E ad h H.size S1.2.1 v a) (va_A (mW cy ad E.length h) H.size) := by
  have hin : ∀ w ∈ mTBL, w ∈ mTBL := fun _ h9 => h9
  unfold mcallee at hc
  split at hc
  · rename_i q y hq hy
    split at hc
    · exact hfalse hc
    · rename_i hq1
      obtain ⟨b1, b2, b3, b4, b5, b6, b7⟩ := mMeth_ok hy hq hq1
      split at hc
      · exact hfalse hc
      · rename_i hlen
        have htk : (st.take q.2.2.2.2.2).length = q.2.2.2.2.2 := by rw [List.length_take]; omega
        have hwt : wfL (E.length + h.length) (st.take q.2.2.2.2.2).reverse := fun v9 h9 => hws v9 (List.mem_of_mem_take (List.mem_reverse.mp h9))
        have hwd : wfL (E.length + h.length) (st.drop q.2.2.2.2.2) := fun v9 h9 => hws v9 (List.mem_of_mem_drop h9)
        have hAn : ((st.take q.2.2.2.2.2).reverse.map (trV ad)).length = q.2.2.2.2.2 := by rw [List.length_map, List.length_reverse, htk]
        obtain ⟨pc, ins, n9, a9, b9, k9⟩ := i
        dsimp only at *
        split at hc
        · rename_i idx
          split at hc
          · rename_i hcond; obtain ⟨c1, c2, c3, c4⟩ := hcond
            cases hc
            refine ⟨hwd, ((st.take q.2.2.2.2.2).reverse.map (trV ad)).toArray, ?_⟩
            have hRy : y.2.2.2.2.2.1 + 1 ≤ R.frames ∧ 8 + (y.2.2.1 + 11) + y.2.2.2.2.2.2 ≤ R.locals := by
              simp only [mfits, hx0, hy, Bool.and_eq_true, decide_eq_true_eq] at hf
              exact ⟨by omega, by omega⟩
            have hM := hcall _ _ y q _ _ _ _ hy hq hq1 c4 hwt hw hrun hret ad H.size
            rw [if_pos c1] at b2
            simp only [mchkI, hy, if_neg (show ¬ k = 997 by omega), if_neg (show ¬ k = 996 by omega)] at hck
            by_cases hn9 : n9 = 0
            · simp only [hn9, if_true, decide_eq_true_eq] at hck
              exact va_runS (Ts := mTBL) ⟨hx, hb, hml, hown, hts⟩ hM (va_cwS q.2.2.2.2.2 hts (mgood_cons (mTBL_of hck rfl) hin (mgood_cons b2 hin (mgood_cons b4 hin (mws_in hin b1)))) rfl rfl rfl b6 hRy) ⟨mPc_blind, m_pre hK hP hD hS hA hE hN _⟩ rfl hAn hsz mk_split0 (lv_room (by rw [mwords_tr]; exact c3)) hd hR
            · simp only [if_neg hn9] at hck
              split at hck
              · rename_i o i2 z host hnst
                obtain ⟨rfl, rfl, rfl⟩ := of_decide_eq_true hck
                exact va_runSN (Ts := mTBL) ⟨hx, hb, hml, hown, hts⟩ hM ⟨va_cnB q.2.2.2.2.2 hts (mws_in hin b1) rfl rfl rfl (hN.1 _ (List.mem_of_getElem? hnst)) (hts _ b4) b6 hRy, hts _ b2, trivial⟩ ⟨mPc_blind, m_pre hK hP hD hS hA hE hN _⟩ rfl hAn hsz mk_split0 (lv_room (by rw [mwords_tr]; exact c3)) hd hR
              · cases hck
          · exact hfalse hc
        · rename_i idx
          split at hc
          · rename_i a r hdr
            split at hc
            · rename_i hcond; obtain ⟨c1, c2, c3, c4, c5⟩ := hcond
              have hwd2 : wfL (E.length + h.length) (.ref a :: r) := by rw [← hdr]; exact hwd
              cases hc
              refine ⟨hwd2.t, (.ref (ad a) :: (st.take q.2.2.2.2.2).reverse.map (trV ad)).toArray, ?_⟩
              have hRy : y.2.2.2.2.2.1 + 1 ≤ R.frames ∧ 8 + (y.2.2.1 + 11) + y.2.2.2.2.2.2 ≤ R.locals := by
                simp only [mfits, hx0, hy, Bool.and_eq_true, decide_eq_true_eq] at hf
                exact ⟨by omega, by omega⟩
              have hM := hcall _ _ y q _ _ _ _ hy hq hq1 c5 (hwt.c hwd2.h) hw hrun hret ad H.size
              rw [if_neg (by rw [c1]; decide)] at b2
              obtain ⟨y1, y2, y3, y4, y5⟩ := y
              dsimp only at *
              subst c3
              simp only [mchkI, hy, if_neg (show ¬ k = 998 by omega)] at hck
              by_cases hn9 : n9 = 0
              · simp only [hn9, if_true, decide_eq_true_eq] at hck
                exact va_runI (Ts := mTBL) ⟨hx, hb, hml, hown, hts⟩ hM (cwI q.2.2.2.2.2 hts (mws_in hin b1) rfl rfl rfl (hts _ b4) (hts _ (mTBL_of hck rfl)) (hts _ b2) c2 b6 hRy) ⟨mPc_blind, m_pre hK hP hD hS hA hE hN _⟩ rfl hAn hsz (mk_split hdr) (lv_room (by rw [mwords_tr]; exact c4)) hd hR
              · simp only [if_neg hn9] at hck
                split at hck
                · rename_i o i2 z host hnst
                  obtain ⟨rfl, rfl, rfl⟩ := of_decide_eq_true hck
                  exact va_runIN (Ts := mTBL) ⟨hx, hb, hml, hown, hts⟩ hM ⟨va_cnB q.2.2.2.2.2 hts (mws_in hin b1) rfl rfl rfl (hN.1 _ (List.mem_of_getElem? hnst)) (hts _ b4) b6 hRy, c2, hts _ b2⟩ ⟨mPc_blind, m_pre hK hP hD hS hA hE hN _⟩ rfl hAn hsz (mk_split hdr) (lv_room (by rw [mwords_tr]; exact c4)) hd hR
                · cases hck
            · exact hfalse hc
          · exact hfalse hc
        · rename_i idx
          split at hc
          · rename_i a r hdr
            split at hc
            · rename_i o ho
              split at hc
              · rename_i cl hcl
                split at hc
                · rename_i hcond; obtain ⟨c1, c2, c3, c4, c5, c6⟩ := hcond
                  have hwd2 : wfL (E.length + h.length) (.ref a :: r) := by rw [← hdr]; exact hwd
                  cases hc
                  refine ⟨hwd2.t, (.ref (ad a) :: (st.take q.2.2.2.2.2).reverse.map (trV ad)).toArray, ?_⟩
                  have hRy : y.2.2.2.2.2.1 + 1 ≤ R.frames ∧ 8 + (y.2.2.1 + 11) + y.2.2.2.2.2.2 ≤ R.locals := by
                    simp only [mfits, hx0, hy, Bool.and_eq_true, decide_eq_true_eq] at hf
                    exact ⟨by omega, by omega⟩
                  have hM := hcall _ _ y q _ _ _ _ hy hq hq1 c6 (hwt.c hwd2.h) hw hrun hret ad H.size
                  rw [if_neg (by rw [c1]; decide)] at b2
                  simp only [mchkI, hy, c3, if_true, decide_eq_true_eq] at hck
                  refine va_runV (Ts := mTBL) (C := y.1.cls) ⟨hx, hb, hml, hown, hts⟩ hM (cwV q.2.2.2.2.2 hts (mgood_cons (mTBL_of hck rfl) hin (mgood_cons b2 hin (mgood_cons (b3 c2) hin (mgood_cons b4 hin (mws_in hin b1))))) rfl rfl rfl ⟨rfl, b6⟩ hRy) ⟨mPc_blind, ?_, m_pre hK hP hD hS hA hE hN _⟩ rfl hAn hsz (mk_split hdr) (lv_room (by rw [mwords_tr]; exact c5)) hd hR
                  have h9 : ∃ cell : Cell, H[ad a]? = some cell ∧ cell.vm.isStatics = false ∧ s.vm.findClass cl.1 = some cell.cls := by
                    rcases mobjE_or ho with ⟨-, hoE⟩ | hoW
                    · obtain ⟨g1, g2⟩ := hE.1 a _ hoE _ hcl
                      exact va_recv (q0 := 0) hK (va_P_one (g1.kept (hS.2.1 _ g1.lt g2))) hcl rfl
                    · exact va_recv hK hP hcl (mget_W (cy := cy) (ad := ad) hoW)
                  rw [c4] at h9
                  exact h9
                · exact hfalse hc
              · exact hfalse hc
            · exact hfalse hc
          · exact hfalse hc
        · exact hfalse hc
  · exact hfalse hc
end MC
end
section
/-! ===== whole runs ===== -/
section MR
variable {p : Program} {l : Launch} {e : Env} {R : Room} {s : State} {m : MethodId} {args : Array Value} {below : List Frame} {meth : Method} {c : Code} {Q : State → Prop}
theorem spec_ok {cc : ByteArray} (hx : p.tables.exec = Jvm.exec) (hb : c.code = cc) {ls : Array Slot} (hml : c.maxLocals = ls.size) (hts : ∀ w ∈ mTBL, w.before args s = true) {own : String} (hown : s.vm.findClass own = some m.cls) {H : Heap} {locs : List Loc} {cells slots : Nat} {ad : Nat → Nat} {i : mIns} {st st' : List Value} {j pc' n : Nat} {y : mMth} (hy : mmeth j = some y) (hR1 : y.2.2.2.2.2.1 ≤ R.frames) (hR2 : y.2.2.2.2.2.2 ≤ R.locals) (hc : cells ≤ R.cells) (hs : slots ≤ R.slots)
    (hck : mchkI own i = true) (hd : decode cc i.1 = .ok (i.2.1, mlen i.2.1 i.2.2.1)) (hp : mspec j i st = some (pc', st')) (hw : wfL n st) (kk : wfL n st' → W p l e R s m args below meth c H locs cells slots Q (F0 m pc' ls (st'.map (trV ad)))) : W p l e R s m args below meth c H locs cells slots Q (F0 m i.1 ls (st.map (trV ad))) := by
  obtain ⟨pc, ins, n9, a9, b9, k9⟩ := i
  have hM := mMath_ok
  simp only [mMathOk, Bool.and_eq_true, Bool.or_eq_true, decide_eq_true_eq] at hM
  obtain ⟨hM1, hM2, hM3⟩ := hM
  simp only [mspec, hy] at hp
  split at hp
  · rename_i idx q r
    split at hp
    · rename_i hcond; obtain ⟨c1, c2, c3⟩ := hcond
      cases hp
      simp only [mchkI, c1, if_true, decide_eq_true_eq] at hck
      refine W.objInit hx hb hown (hts _ (mTBL_of hck rfl)) (hts _ mObj_ok.1) (hts _ mObj_ok.2) rfl hml.symm rfl hd (Nat.le_trans c2 hR1) ?_ (kk hw.t)
      have h1 := mwords_tr ad st'
      show 2 * 0 + _ + 12 ≤ _
      omega
    · exact hfalse hp
  · rename_i idx b a r
    split at hp
    · rename_i hcond; obtain ⟨c2, c3⟩ := hcond
      have h1 := mwords_tr ad r
      have hw2 : ∀ z : Int32, wfL n (.int z :: r) := fun z => hw.t.t.c trivial
      split at hp
      · rename_i h0; obtain ⟨c1, c4⟩ := h0
        cases hp
        simp only [mchkI, c1, if_true, decide_eq_true_eq] at hck
        rcases hM2 with hM2 | hM2
        · exact absurd hM2 c4
        · exact va_mmin hx hb hml hown (hts _ (mTBL_of hck rfl)) (hts _ (mTBL_of hM2.1 rfl)) (hts _ (mTBL_of hM3 rfl)) (hts _ (mTBL_of hM2.2 rfl)) (Nat.le_trans c2 hR1) (by omega) hc hs hd (kk (hw2 _))
      · split at hp
        · rename_i h0; obtain ⟨c1, c4⟩ := h0
          cases hp
          simp only [mchkI, c1, if_neg (show ¬ (996 : Nat) = 997 by decide), if_true, decide_eq_true_eq] at hck
          rcases hM1 with hM1 | hM1
          · exact absurd hM1 c4
          · exact va_mmax hx hb hml hown (hts _ (mTBL_of hck rfl)) (hts _ (mTBL_of hM1.1 rfl)) (hts _ (mTBL_of hM3 rfl)) (hts _ (mTBL_of hM1.2 rfl)) (Nat.le_trans c2 hR1) (by omega) hc hs hd (kk (hw2 _))
        · exact hfalse hp
    · exact hfalse hp
  · exact hfalse hp
set_option maxHeartbeats 4000000 in
theorem sim_run {D : va_G} {cy : Nat → ClassId} {E : mE} {call : Nat → mS → Option mS} (hEw : mEw E) (hcall : mCallOk l D cy E call) {A : Nat → Prop} {y : mMth} (hx : p.tables.exec = Jvm.exec) (hb : c.code = y.2.1) (hml : c.maxLocals = y.2.2.1) (hts : ∀ w ∈ mTBL, w.before args s = true) (hown : s.vm.findClass y.2.2.2.2.1 = some m.cls) (hnm : meth.name = y.1.name) (hR1 : y.2.2.2.2.2.1 ≤ R.frames) (hR2 : y.2.2.2.2.2.2 ≤ R.locals)
    (hK : va_K D mCl (mT cy) s) (hA : ∀ q, s.heap.size ≤ q → A q) (hN : mNs s) : ∀ (n : Nat) (S S' : mS), mrunF E call n S = some S' → mmeth S.1.1 = some y → S'.2.2.1 ≤ R.cells → S'.2.2.2 ≤ R.slots → ∀ (H : Heap) (locs : List Loc) (ls : Array Slot) (ad : Nat → Nat), mEx D E ad A s s.heap → va_P D mCl (mW cy ad E.length S.2.1) H → va_D A (mW cy ad E.length S.2.1) → va_S A s.heap H locs → wfH E.length S.2.1 → wfLv (E.length + S.2.1.length) S.1.2.2.1 → wfL (E.length + S.2.1.length) S.1.2.2.2 → lv_has ls y.2.2.1 (trL ad S.1.2.2.1) →
    (∀ (ad' : Nat → Nat) (H' : Heap) (locs' : List Loc) (ls' : Array Slot) (e' : mIns), agr (E.length + S.2.1.length) ad ad' → va_P D mCl (mW cy ad' E.length S'.2.1) H' → va_D A (mW cy ad' E.length S'.2.1) → va_S A s.heap H' locs' → wfH E.length S'.2.1 → wfL (E.length + S'.2.1.length) S'.1.2.2.2 → S.2.1.length ≤ S'.2.1.length → S'.1.1 = S.1.1 → mlook (mcode S'.1.1) S'.1.2.1 = some e' → mterm e' = true → lv_has ls' y.2.2.1 (trL ad' S'.1.2.2.1) → W p l e R s m args below meth c H' locs' S'.2.2.1 S'.2.2.2 Q (F0 m S'.1.2.1 ls' (S'.1.2.2.2.map (trV ad')))) →
    W p l e R s m args below meth c H locs S.2.2.1 S.2.2.2 Q (F0 m S.1.2.1 ls (S.1.2.2.2.map (trV ad))) := by
  intro n
  induction n with
  | zero => intro S S' h; cases h
  | succ n ih =>
    intro S S' h hy hc9 hs9 H locs ls ad hE hP hD hS hw hwl hws hl land
    obtain ⟨⟨j, pc, lv, st⟩, h0, nc, ns⟩ := S
    dsimp only at *
    have hmono := mrun_mono _ _ _ h
    dsimp only at hmono
    unfold mrunF at h
    split at h
    · exact hfalse h
    · rename_i i hi
      dsimp only at hi h
      obtain ⟨k1, k2, k3⟩ := mIns_ok hy hi
      have hpc : i.1 = pc := (mlook_mem hi).2
      subst hpc
      split at h
      · rename_i ht
        cases h
        exact land ad H locs ls i agr.rf hP hD hS hw hws (Nat.le_refl _) rfl hi ht hl
      · split at h
        · split at h
          · rename_i h990
            split at h
            · exact hfalse h
            · rename_i r hr
              obtain ⟨pc2, st2⟩ := r
              exact spec_ok hx hb (hml.trans hl.1.symm) hts hown hy hR1 hR2 (Nat.le_trans hmono.1 hc9) (Nat.le_trans hmono.2 hs9) k1 k3 hr hws (fun hws2 => ih _ _ h hy hc9 hs9 H locs ls ad hE hP hD hS hw hwl hws2 hl land)
          · rename_i h990
            split at h
            · exact hfalse h
            · rename_i r hr
              obtain ⟨k, as, rest⟩ := r
              split at h
              · rename_i hf
                split at h
                · exact hfalse h
                · rename_i S1 hS1
                  split at h
                  · exact hfalse h
                  · rename_i v hv
                    have hm2 := mrun_mono _ _ _ h
                    dsimp only at hm2
                    obtain ⟨hwr, a, hrun⟩ := m_run hcall hx hb hml hts hown hl.1 k1 k3 hK hP hD hS hA hE hN hw hws (by omega) hy hR1 hR2 hr hf hS1 hv ⟨Nat.le_trans hm2.1 hc9, Nat.le_trans hm2.2 hs9⟩
                    refine m_back hw hrun hS (m_AA hD hS hA) (fun ad' H1 locs1 hag hP1 hD1 hS1' hlen hw1 hwv => ?_)
                    have hk := ih _ _ h hy hc9 hs9 H1 locs1 ls ad' (hE.agr hEw (fun q hq => hag q (by omega))) hP1 hD1 hS1' hw1 (hwl.up (by dsimp only; omega)) (by
                      intro x hx9
                      rcases List.mem_append.mp hx9 with e1 | e1
                      · cases v with
                        | none => cases e1
                        | some z =>
                          rw [List.mem_singleton.mp (show x ∈ [z] from e1)]
                          exact hwv z rfl
                      · exact (hwr x e1).up (by dsimp only; omega)) (by rw [trL_agr hwl hag]; exact hl)
                      (fun ad2 H2 locs2 ls2 e2 g1 g2 g3 g4 g5 g6 g7 g8 g9 g10 g11 => land ad2 H2 locs2 ls2 e2 (hag.tr (by dsimp only; omega) g1) g2 g3 g4 g5 g6 (Nat.le_trans hlen g7) g8 g9 g10 g11)
                    dsimp only at hk
                    rw [List.map_append, map_agr hwr hag] at hk
                    have hv9 : v.toList.map (trV ad') = (v.map (trV ad')).toList := by cases v <;> rfl
                    rw [hv9] at hk
                    exact hk
              · exact hfalse h
        · split at h
          · exact hfalse h
          · rename_i S1 hS1
            have hm2 := mrun_mono _ _ _ h
            unfold mstep at hS1
            dsimp only at hS1
            rw [hy] at hS1
            dsimp only at hS1
            split at hS1
            · rename_i r hr
              cases hS1
              obtain ⟨pc2, lv2, st2⟩ := r
              obtain ⟨w1, w2⟩ := pure_wf hr hwl hws
              exact sd_pure hx hb hr k3 hl (fun ls' hl' => ih _ _ h hy hc9 hs9 H locs ls' ad hE hP hD hS hw w1 w2 hl' land)
            · split at hS1
              · rename_i r hr
                cases hS1
                obtain ⟨pc2, st2, h2⟩ := r
                dsimp only at hm2
                refine sd_heap (h := (h0, nc, ns)) (init := decide (y.1.name = "<init>")) hx hb hts hown (fun hh => hnm.trans (of_decide_eq_true hh)) hEw k2 k3 hK hP hD hS hA hE hw hws hr ⟨Nat.le_trans hm2.1 hc9, Nat.le_trans hm2.2 hs9⟩ (fun t9 ty ht9 hty => hts _ (mTys_ok t9 ty ht9 hty)) hN (hml.trans hl.1.symm) (fun hn9 => ⟨Nat.le_trans (mIns_room hy hi hn9).1 hR1, Nat.le_trans (mIns_room hy hi hn9).2 hR2⟩) (fun ad' H' locs' hag hP' hD' hS' hw' hws' hlen => ?_)
                exact ih _ _ h hy hc9 hs9 H' locs' ls ad' (hE.agr hEw (fun q hq => hag q (by omega))) hP' hD' hS' hw' (hwl.up (by dsimp only at hlen ⊢; omega)) hws' (by rw [trL_agr hwl hag]; exact hl)
                  (fun ad2 H2 locs2 ls2 e2 g1 g2 g3 g4 g5 g6 g7 g8 g9 g10 g11 => land ad2 H2 locs2 ls2 e2 (hag.tr (by dsimp only at hlen ⊢; omega) g1) g2 g3 g4 g5 g6 (Nat.le_trans hlen g7) g8 g9 g10 g11)
              · exact hfalse hS1
end MR
set_option maxHeartbeats 4000000 in
/-- a machine whose calls are contracts: its runs are contracts -/
theorem met_of_run {l : Launch} {D : va_G} {cy : Nat → ClassId} {E : mE} {call : Nat → mS → Option mS} (hEw : mEw E) (hcall : mCallOk l D cy E call) : mCallOk l D cy E (mrunF E call) := by
  intro n k y q as h S1 v hy hq hq1 hlen hwa hwh hrun hret ad sz
  obtain ⟨b1, b2, b3, b4, b5, b6, b7⟩ := mMeth_ok hy hq hq1
  refine Met.ofW (cc := y.2.1) (maxL := y.2.2.1) (ret := y.2.2.2.1) b5 rfl ?_
  intro p e s m args below meth c s₁ B hml hv
  obtain ⟨rfl, hsz, hP, hK, hD0, hE, hN⟩ := hv
  have hts0 := atoms_spec (ws := mws y) B.pre
  have hts : ∀ w ∈ mTBL, w.before (as.map (trV ad)).toArray s = true := fun w hw => hts0 w (List.mem_cons_of_mem _ hw)
  have hown : s.vm.findClass y.1.cls = some m.cls := findClass_of_methodNamed B.named
  have hnm : meth.name = y.1.name := (name_of_methodNamed B.named B.method).1
  have hlocks := B.notSynchronized
  have hr := B.returns
  subst hsz
  have hD := hD0.self (sz := s.heap.size)
  have hA : ∀ q : Nat, s.heap.size ≤ q → va_A (mW cy ad E.length h) s.heap.size q := fun q hq9 => Or.inr hq9
  have hl := lv_entry (as.map (trV ad)) (n := y.2.2.1) (by rw [lg_sl_tr]; exact hlen)
  rw [lg_entry_eq]
  generalize (lg_sl (as.map (trV ad)) ++ List.replicate (y.2.2.1 - (lg_sl (as.map (trV ad))).length) Slot.unset).toArray = ls at hl ⊢
  rw [lv_args_tr] at hl
  refine sim_run (R := (headSpec (mws y) (mrm y S1.2.2.1 S1.2.2.2)).room) (A := va_A (mW cy ad E.length h) s.heap.size) hEw hcall B.exec B.bytes hml hts (b7 ▸ hown) hnm (Nat.le_refl _) (Nat.le_refl _) hK hA hN n _ S1 hrun hy (Nat.le_refl _) (Nat.le_refl _) s.heap [] ls ad hE hP hD va_S.rf hwh (lv_args_wf hwa 0) (fun v hv => by cases hv) hl ?_
  intro ad' H' locs' ls' e' hag hP' hD' hS' hw' hws' hlen' hj he' ht' hl'
  have hjk : S1.1.1 = k := hj
  obtain ⟨-, -, hd⟩ := mIns_ok (by rw [hjk]; exact hy) he'
  have hpc : e'.1 = S1.1.2.1 := (mlook_mem he').2
  rw [hpc] at hd
  unfold mretv at hret
  rw [he', hjk, hy] at hret
  dsimp only at hret
  obtain ⟨⟨j1, pc1, lv1, st1⟩, h1, nc1, ns1⟩ := S1
  obtain ⟨pc2, i2, n2, a2, bb2, k2⟩ := e'
  obtain ⟨y1, y2, y3, y4, y5⟩ := y
  dsimp only at *
  have hq9 : ∀ v9 : Option Value, (∀ x, v9 = some x → wfV (E.length + h1.length) x) → ∀ t : State, t.heap = H' → s.WarmedH t.vm → mQc D cy E ad h s.heap.size h1 v9 (as.map (trV ad)).toArray s (.returned (v9.map (trV ad'))) t := by
    intro v9 hwv t ht hW
    exact ⟨⟨ad', hag, rfl, by rw [ht]; exact hP', hD'⟩, ⟨hlen', hw', hwv⟩, hS'.F ht⟩
  split at hret
  · rename_i x ty
    split at hret
    · rename_i hn; cases hret
      exact W.zret B.exec B.bytes hr hn (hq9 (some (.int x)) (fun z hz => by cases hz; trivial)) hS'.2.2 hd
    · exact hfalse hret
  · rename_i x
    cases hret
    exact W.lret B.exec B.bytes hr (hq9 (some (.long x)) (fun z hz => by cases hz; trivial)) hS'.2.2 hd
  · rename_i x
    cases hret
    exact W.dret B.exec B.bytes hr (hq9 (some (.double x)) (fun z hz => by cases hz; trivial)) hS'.2.2 hd
  · rename_i x o
    cases hret
    exact W.aret B.exec B.bytes hr (Or.inl ⟨_, rfl⟩) (Or.inr ⟨_, rfl⟩) (hq9 (some (.ref x)) (fun z hz => by cases hz; exact hws'.h)) hS'.2.2 hd
  · rename_i x o
    cases hret
    exact W.aret B.exec B.bytes hr (Or.inr ⟨_, rfl⟩) (Or.inr ⟨_, rfl⟩) (hq9 (some (.ref x)) (fun z hz => by cases hz; exact hws'.h)) hS'.2.2 hd
  · cases hret
    exact W.vret B.exec B.bytes hr (hq9 none (fun z hz => by cases hz)) hS'.2.2 hd
  · exact hfalse hret
/-- EVERY RUN OF THE SMALL MACHINE IS A CONTRACT OF THE TRUE ONE -/
theorem mexec_ok {l : Launch} {D : va_G} {cy : Nat → ClassId} {E : mE} (hEw : mEw E) : ∀ d : Nat, mCallOk l D cy E (mexec E d) := by
  intro d
  induction d with
  | zero =>
    intro n k y q as h S1 v hy hq hq1 hlen hwa hwh hrun
    cases hrun
  | succ d ih => exact met_of_run hEw ih
end
section
/-! ===== a run that ends where an exception is made and thrown is a contract that throws ===== -/
abbrev mXr : Type := String × String × Nat × Nat × Nat × Nat
def mXnm : List String := ["java/lang/RuntimeException", "java/lang/Exception"]
def mXl : List Cond := mXsub.filterMap (fun k => lw_tbl[k]?)
theorem mXl_in {w : Cond} (h : w ∈ mXl) (hg : goodWord w = true) : w ∈ mTBL := by
  obtain ⟨k, -, hk⟩ := List.mem_filterMap.mp h
  exact mTBL_of hk hg
def mXat (r : mXr) : List Cond := vx_atS r.1 r.2.2.2.1 r.2.1 mXnm
/-- those that a call moves by rows of their own -/
def mXb (r : mXr) : List Cond := (mXat r).filter (fun w => !goodWord w)
def mXbk (w : Cond) : Bool := match w with
  | .castable _ _ => true
  | .declares _ => true
  | _ => false
def mXk1 (r : mXr) : Bool := decide (lw_tbl[r.2.2.2.2.1]? = some (.classLink r.1 r.2.2.1 r.2.1)) && decide (lw_tbl[r.2.2.2.2.2]? = some (.initialized r.2.1))
def mXk2 (r : mXr) : Bool := ((mXat r).filter goodWord).all (fun w => decide (w ∈ mXl))
def mXk3 (r : mXr) : Bool := (mXb r).all mXbk
def mXk4 (r : mXr) : Bool := (mXat r).all vx_ot && Bundle.fit r.2.1
set_option maxRecDepth 100000 in
theorem mXk1_ok : mXcls.all mXk1 = true := by decide +kernel
set_option maxRecDepth 100000 in
theorem mXk2_ok : mXcls.all mXk2 = true := by decide +kernel
set_option maxRecDepth 100000 in
theorem mXk3_ok : mXcls.all mXk3 = true := by decide +kernel
set_option maxRecDepth 100000 in
theorem mXk4_ok : mXcls.all mXk4 = true := by decide +kernel
theorem mXnm_ok : ∀ n ∈ mXnm, Bundle.fit n = true := by decide +kernel
theorem mXbk_tab {w : Cond} (h : mXbk w = true) : w.onTables = true := by
  unfold mXbk at h
  split at h
  · rfl
  · rfl
  · cases h
/-- what stands behind an exception's 'new' -/
def mXseq (j : Nat) (y : mMth) (e : mIns) : Bool := match e.2.1 with
  | .new ik => if e.2.2.2.1 = 995 then (match mThr[e.2.2.2.2.1]? with
    | some t => (match mXcls[t.1]? with
      | some r => decide (y.2.2.2.2.1 = r.1 ∧ ik = r.2.2.1 ∧ 6 ≤ y.2.2.2.2.2.1 ∧ 82 ≤ y.2.2.2.2.2.2) && (decide ((mlook (mcode j) (e.1 + 3)).map (fun z => z.2.1) = some .dup) && (decide ((mlook (mcode j) (e.1 + 4)).map (fun z => z.2.1) = some (.ldc t.2.1)) && (decide ((mlook (mcode j) (e.1 + 6)).map (fun z => z.2.1) = some (.invokespecial r.2.2.2.1)) && decide ((mlook (mcode j) (e.1 + 9)).map (fun z => z.2.1) = some .athrow))))
      | none => false)
    | none => false) else true
  | _ => true
def mXm (j : Nat) : Bool := match mmeth j with
  | some y => (mcode j).all (mXseq j y)
  | none => true
set_option maxRecDepth 100000 in
theorem mXm_ok : (List.range 200).all mXm = true := by decide +kernel
theorem mXm_all {j : Nat} {y : mMth} (h : mmeth j = some y) : mXm j = true := by
  have h1 : j < mMeths.length := (List.getElem?_eq_some_iff.mp h).1
  have h2 : mMeths.length ≤ 200 := by decide +kernel
  exact List.all_eq_true.mp mXm_ok j (List.mem_range.mpr (Nat.lt_of_lt_of_le h1 h2))
theorem mdec_at {j pc : Nat} {y : mMth} (hy : mmeth j = some y) {i : Instr} (h : (mlook (mcode j) pc).map (fun z => z.2.1) = some i) : ∃ n : Nat, decode y.2.1 pc = .ok (i, mlen i n) := by
  obtain ⟨e, he, hi⟩ := Option.map_eq_some_iff.mp h
  have h1 := (mIns_ok hy he).2.2
  rw [(mlook_mem he).2, hi] at h1
  exact ⟨_, h1⟩
/-- the strings and the statics that throws read -/
def mXs (A : Nat → Prop) (s : State) : Prop := (∀ (x : Nat) (t : Nat × Nat × String) (r : mXr), mThr[x]? = some t → mXcls[t.1]? = some r → ∃ sa : Nat, vk_R r.1 t.2.1 t.2.2 sa s) ∧ (∀ r ∈ mXcls, ∀ w ∈ mXb r, va_Nw w s) ∧ vx_Zq Bundle.tN "UNASSIGNED_STACK" Bundle.steD A s s.heap ∧ vx_Zq Bundle.tN "SUPPRESSED_SENTINEL" Bundle.listD A s s.heap
/-- where a method has thrown -/
def mXC (D : va_G) (cy : Nat → ClassId) (E : mE) (ad : Nat → Nat) (h : List mO) (sz : Nat) (h' : List mO) (X : String) : String → State → State → Prop := fun X9 st t =>
  X9 = X ∧ (∃ ad' : Nat → Nat, agr (E.length + h.length) ad ad' ∧ va_P D mCl (mW cy ad' E.length h') t.heap ∧ va_D (va_A (mW cy ad E.length h) sz) (mW cy ad' E.length h')) ∧ (h.length ≤ h'.length ∧ wfH E.length h') ∧ va_F (va_A (mW cy ad E.length h) sz) st t
set_option maxHeartbeats 4000000 in
theorem met_of_throw {l : Launch} (htr : l.stackTraces = false) {D : va_G} {cy : Nat → ClassId} {E : mE} {call : Nat → mS → Option mS} (hEw : mEw E) (hcall : mCallOk l D cy E call) {n k x : Nat} {y : mMth} {q : Nat × Nat × Nat × Nat × Bool × Nat} {as : List Value} {h : List mO} {S1 : mS} {tx : Nat × Nat × String} {r : mXr}
    (hy : mmeth k = some y) (hq : mPos[k]? = some q) (hq1 : q.1 ≠ 99999) (hlen : (lg_sl as).length ≤ y.2.2.1) (hwa : wfL (E.length + h.length) as) (hwh : wfH E.length h) (hrun : mrunF E call n (ment k as h) = some S1) (ht : mthrown S1 = some x) (hst : S1.1.2.2.2 = []) (hx : mThr[x]? = some tx) (hr : mXcls[tx.1]? = some r) (ad : Nat → Nat) (sz : Nat) :
    vx_Met l y.1 (mws y) (mrm y (S1.2.2.1 + 1) (S1.2.2.2 + 6)) (fun a s => mPc D cy E ad as h sz a s ∧ mXs (va_A (mW cy ad E.length h) sz) s) (fun _ _ _ _ => False) (mXC D cy E ad h sz S1.2.1 r.2.1) (S1.2.2.1 + 1) (S1.2.2.2 + 6) (va_A (mW cy ad E.length h) sz) := by
  obtain ⟨b1, b2, b3, b4, b5, b6, b7⟩ := mMeth_ok hy hq hq1
  refine vx_ofW (cc := y.2.1) (maxL := y.2.2.1) (ret := y.2.2.2.1) b5 rfl ?_
  intro p e s m args below meth c s₁ B hml hno hv0
  obtain ⟨hv, hX⟩ := hv0
  obtain ⟨rfl, hsz, hP, hK, hD0, hE, hN⟩ := hv
  have hts0 := atoms_spec (ws := mws y) B.pre
  have hts : ∀ w ∈ mTBL, w.before (as.map (trV ad)).toArray s = true := fun w hw => hts0 w (List.mem_cons_of_mem _ hw)
  have hown : s.vm.findClass y.1.cls = some m.cls := findClass_of_methodNamed B.named
  have hnm : meth.name = y.1.name := (name_of_methodNamed B.named B.method).1
  have hlocks := B.notSynchronized
  subst hsz
  have hD := hD0.self (sz := s.heap.size)
  have hA : ∀ q : Nat, s.heap.size ≤ q → va_A (mW cy ad E.length h) s.heap.size q := fun q hq9 => Or.inr hq9
  have hl := lv_entry (as.map (trV ad)) (n := y.2.2.1) (by rw [lg_sl_tr]; exact hlen)
  rw [lg_entry_eq]
  generalize (lg_sl (as.map (trV ad)) ++ List.replicate (y.2.2.1 - (lg_sl (as.map (trV ad))).length) Slot.unset).toArray = ls at hl ⊢
  rw [lv_args_tr] at hl
  refine sim_run (R := (headSpec (mws y) (mrm y (S1.2.2.1 + 1) (S1.2.2.2 + 6))).room) (A := va_A (mW cy ad E.length h) s.heap.size) hEw hcall B.exec B.bytes hml hts (b7 ▸ hown) hnm (Nat.le_refl _) (Nat.le_refl _) hK hA hN n _ S1 hrun hy (Nat.le_succ _) (Nat.le_add_right _ 6) s.heap [] ls ad hE hP hD va_S.rf hwh (lv_args_wf hwa 0) (fun v hv => by cases hv) hl ?_
  intro ad' H' locs' ls' e' hag hP' hD' hS' hw' hws' hlen' hj he' ht' hl'
  have hjk : S1.1.1 = k := hj
  have hsq := List.all_eq_true.mp (show (mcode k).all (mXseq k y) = true by
    have h9 := mXm_all hy
    unfold mXm at h9
    rw [hy] at h9
    exact h9) e' (mlook_mem (by rw [← hjk]; exact he')).1
  obtain ⟨-, -, hd⟩ := mIns_ok (by rw [hjk]; exact hy) he'
  have hpc : e'.1 = S1.1.2.1 := (mlook_mem he').2
  unfold mthrown at ht
  rw [he'] at ht
  dsimp only at ht
  obtain ⟨⟨j1, pc1, lv1, st1⟩, h1, nc1, ns1⟩ := S1
  obtain ⟨pc2, i2, n2, a2, bb2, k2⟩ := e'
  dsimp only at *
  subst hpc
  subst hst
  subst hjk
  split at ht
  · rename_i ik
    split at ht
    · rename_i h995
      cases ht
      unfold mXseq at hsq
      dsimp only at hsq
      rw [if_pos h995, hx] at hsq
      dsimp only at hsq
      rw [hr] at hsq
      simp only [Bool.and_eq_true, decide_eq_true_eq] at hsq
      obtain ⟨⟨g1, g2, g3, g4⟩, g5, g6, g7, g8⟩ := hsq
      obtain ⟨n3, d3⟩ := mdec_at hy g5
      obtain ⟨n4, d4⟩ := mdec_at hy g6
      obtain ⟨n6, d6⟩ := mdec_at hy g7
      obtain ⟨n9, d9⟩ := mdec_at hy g8
      subst g2
      have hrm : r ∈ mXcls := List.mem_of_getElem? hr
      obtain ⟨x1, x2, x3, x4⟩ := hX
      obtain ⟨sa, hsa⟩ := x1 _ _ _ hx hr
      have k1 := List.all_eq_true.mp mXk1_ok r hrm
      have k2 := List.all_eq_true.mp mXk2_ok r hrm
      have k3 := List.all_eq_true.mp mXk3_ok r hrm
      have k4 := List.all_eq_true.mp mXk4_ok r hrm
      simp only [mXk1, Bool.and_eq_true, decide_eq_true_eq] at k1
      simp only [mXk4, Bool.and_eq_true] at k4
      have hat : ∀ w ∈ vx_atS r.1 r.2.2.2.1 r.2.1 mXnm, w.before (as.map (trV ad)).toArray s = true := by
        intro w hw
        by_cases g : goodWord w = true
        · exact hts w (mXl_in (of_decide_eq_true (List.all_eq_true.mp k2 w (List.mem_filter.mpr ⟨hw, g⟩))) g)
        · have g' : (!goodWord w) = true := by
            cases hgw : goodWord w
            · rfl
            · exact absurd hgw g
          have hwb : w ∈ mXb r := List.mem_filter.mpr ⟨hw, g'⟩
          exact va_Nw.use (mXbk_tab (List.all_eq_true.mp k3 w hwb)) (x2 r hrm w hwb)
      have hgood : ∀ w ∈ Cond.classLink r.1 r.2.2.1 r.2.1 :: Cond.initialized r.2.1 :: vx_atS r.1 r.2.2.2.1 r.2.1 mXnm, vx_ot w = true := by
        intro w hw
        rcases List.mem_cons.mp hw with e1 | e1
        · subst e1; rfl
        · rcases List.mem_cons.mp e1 with e2 | e2
          · subst e2; rfl
          · exact List.all_eq_true.mp k4.1 w e2
      refine vx_throwS (text := tx.2.2) (names := mXnm) (sa := sa) (A := va_A (mW cy ad E.length h) s.heap.size) B.exec B.bytes htr (own := r.1) (by rw [← g1, b7]; exact hown) k4.2 mXnm_ok (hts _ (mTBL_of k1.1 rfl)) (hts _ (mTBL_of k1.2 rfl)) hsa hat hgood x3 x4 hS' (hl'.1.trans hml.symm) hd d3 d4 d6 d9 (fun x hx9 => (hno x hx9).elim) (show 2 + 3 < y.2.2.2.2.2.1 by omega) (show 0 + (13 * (2 + 1) + 43) ≤ y.2.2.2.2.2.2 by omega) (Nat.le_refl _) (Nat.le_refl _) hlocks ?_ hS'.2.2 (Nat.le_refl _) (Nat.le_refl _)
      intro t hvm hsize hkept
      refine ⟨rfl, ⟨ad', hag, hP'.kept (fun k9 q9 hk9 => hkept q9.1 (hP' k9 q9 hk9).lt), hD'⟩, ⟨hlen', hw'⟩, ?_, ?_⟩
      · exact Nat.le_trans hS'.1 hsize
      · intro q9 h1 h2
        rw [hkept q9 (Nat.lt_of_lt_of_le h1 hS'.1)]
        exact hS'.2.1 q9 h1 h2
    · exact hfalse ht
  · exact hfalse ht
end
section
/-! ===== a call whose run ends at a throw ===== -/
theorem va_Nw_b {w : Cond} (hk : mXbk w = true) {s U : State} (hW : s.WarmedH U.vm) (h : va_Nw w s) : va_Nw w U := by
  unfold mXbk at hk
  split at hk
  · exact va_Nw.warmC hW h
  · exact va_Nw.warmD hW h
  · cases hk
theorem mXs_warm {A B : Nat → Prop} {s U : State} {H : Heap} {locs : List Loc} (hS : va_S A s.heap H locs) (hW : s.WarmedH U.vm) (hU : U.heap = H) (hAB : ∀ q, B q → A q) (h : mXs A s) : mXs B U := by
  obtain ⟨x1, x2, x3, x4⟩ := h
  refine ⟨fun x t r hx hr => ?_, fun r hr w hw => va_Nw_b (List.all_eq_true.mp (List.all_eq_true.mp mXk3_ok r hr) w hw) hW (x2 r hr w hw), ?_, ?_⟩
  · obtain ⟨sa, hsa⟩ := x1 x t r hx hr
    exact ⟨sa, vk_R.warm hW hsa⟩
  · rw [hU]
    exact ((x3.kept hS.2.1).moved hW.alike).narrow hAB
  · rw [hU]
    exact ((x4.kept hS.2.1).moved hW.alike).narrow hAB
theorem mXs_blind {D : va_G} {cy : Nat → ClassId} {E : mE} {ad : Nat → Nat} {as : List Value} {h : List mO} {sz : Nat} {A : Nat → Prop} : FrameBlind (fun a s => mPc D cy E ad as h sz a s ∧ mXs A s) := by
  intro a U g mk q
  obtain ⟨q0, x1, x2, x3, x4⟩ := q
  refine ⟨mPc_blind a U g mk q0, fun x t r hx hr => ?_, fun r hr w hw => va_Nw.same (u := U) (U := U.calling g mk a) (mXbk_tab (List.all_eq_true.mp (List.all_eq_true.mp mXk3_ok r hr) w hw)) rfl (x2 r hr w hw), vx_Zq.moved (u := U) (U := U.calling g mk a) (Vm.Alike.refl U.vm) x3, vx_Zq.moved (u := U) (U := U.calling g mk a) (Vm.Alike.refl U.vm) x4⟩
  obtain ⟨sa, hsa⟩ := x1 x t r hx hr
  exact ⟨sa, vk_R.same (u := U) (U := U.calling g mk a) rfl hsa⟩
section MCX
variable {p : Program} {l : Launch} {e : Env} {R : Room} {s : State} {m : MethodId} {args : Array Value} {below : List Frame} {meth : Method} {c : Code} {H : Heap} {locs : List Loc} {cells slots : Nat} {Q : State → Prop}
set_option maxHeartbeats 4000000 in
theorem m_thrown {cc : ByteArray} {nL : Nat} (htr : l.stackTraces = false) {D : va_G} {cy : Nat → ClassId} {E : mE} {call : Nat → mS → Option mS} (hEw : mEw E) (hcall : mCallOk l D cy E call) (hx : p.tables.exec = Jvm.exec) (hb : c.code = cc) (hml : c.maxLocals = nL) (hts : ∀ w ∈ mTBL, w.before args s = true) {own : String} (hown : s.vm.findClass own = some m.cls)
    {ad : Nat → Nat} {A : Nat → Prop} {i : mIns} {st : List Value} {h : List mO} {ls : Array Slot} {x : mMth} {j k n z : Nat} {as rest : List Value} {S1 : mS} {tx : Nat × Nat × String} {r : mXr} {idx : Nat} (hsz : ls.size = nL) (hck : mchkI own i = true) (hd : decode cc i.1 = .ok (i.2.1, mlen i.2.1 i.2.2.1)) (hiv : i.2.1 = .invokevirtual idx)
    (hK : va_K D mCl (mT cy) s) (hP : va_P D mCl (mW cy ad E.length h) H) (hD : va_D A (mW cy ad E.length h)) (hS : va_S A s.heap H locs) (hA : ∀ q, s.heap.size ≤ q → A q) (hE : mEx D E ad A s s.heap) (hN : mNs s) (hXs : mXs A s) (hw : wfH E.length h) (hws : wfL (E.length + h.length) st)
    (hx0 : mmeth j = some x) (hR1 : x.2.2.2.2.2.1 ≤ R.frames) (hR2 : x.2.2.2.2.2.2 ≤ R.locals)
    (hc : mcallee E i st h = some (k, as, rest)) (hf : mfits j k = true) (hrun : mrunF E call n (ment k as h) = some S1) (ht : mthrown S1 = some z) (hst : S1.1.2.2.2 = []) (hz : mThr[z]? = some tx) (hr : mXcls[tx.1]? = some r) (hR : cells + (S1.2.2.1 + 1) ≤ R.cells ∧ slots + (S1.2.2.2 + 6) ≤ R.slots)
    (kx : ∀ (ad' : Nat → Nat) (H1 : Heap) (locs1 : List Loc) (q9 : Addr) (ce : Cell), agr (E.length + h.length) ad ad' → va_P D mCl (mW cy ad' E.length S1.2.1) H1 → va_D A (mW cy ad' E.length S1.2.1) → va_S A s.heap H1 locs1 → h.length ≤ S1.2.1.length → wfH E.length S1.2.1 → H1[q9]? = some ce → ce.vm = .none → s.vm.findClass r.2.1 = some ce.cls → wfL (E.length + h.length) rest → vx_W p l e R s m args below meth c H1 locs1 (cells + (S1.2.2.1 + 1)) (slots + (S1.2.2.2 + 6)) Q (F0 m i.1 ls (rest.map (trV ad))) q9) :
    W p l e R s m args below meth c H locs cells slots Q (F0 m i.1 ls (st.map (trV ad))) := by
  have hin : ∀ w ∈ mTBL, w ∈ mTBL := fun _ h9 => h9
  unfold mcallee at hc
  split at hc
  · rename_i q y hq hy
    split at hc
    · exact hfalse hc
    · rename_i hq1
      obtain ⟨b1, b2, b3, b4, b5, b6, b7⟩ := mMeth_ok hy hq hq1
      split at hc
      · exact hfalse hc
      · rename_i hlen
        have htk : (st.take q.2.2.2.2.2).length = q.2.2.2.2.2 := by rw [List.length_take]; omega
        have hwt : wfL (E.length + h.length) (st.take q.2.2.2.2.2).reverse := fun v9 h9 => hws v9 (List.mem_of_mem_take (List.mem_reverse.mp h9))
        have hwd : wfL (E.length + h.length) (st.drop q.2.2.2.2.2) := fun v9 h9 => hws v9 (List.mem_of_mem_drop h9)
        have hAn : ((st.take q.2.2.2.2.2).reverse.map (trV ad)).length = q.2.2.2.2.2 := by rw [List.length_map, List.length_reverse, htk]
        obtain ⟨pc, ins, n9, a9, b9, k9⟩ := i
        dsimp only at *
        subst hiv
        dsimp only at *
        split at hc
        · rename_i a rr hdr
          split at hc
          · rename_i o ho
            split at hc
            · rename_i cl hcl
              split at hc
              · rename_i hcond; obtain ⟨c1, c2, c3, c4, c5, c6⟩ := hcond
                have hwd2 : wfL (E.length + h.length) (.ref a :: rr) := by rw [← hdr]; exact hwd
                cases hc
                have hRy : y.2.2.2.2.2.1 + 1 ≤ R.frames ∧ 8 + (y.2.2.1 + 11) + y.2.2.2.2.2.2 ≤ R.locals := by
                  simp only [mfits, hx0, hy, Bool.and_eq_true, decide_eq_true_eq] at hf
                  exact ⟨by omega, by omega⟩
                have hM := met_of_throw htr hEw hcall hy hq hq1 c6 (hwt.c hwd2.h) hw hrun ht hst hz hr ad H.size
                rw [if_neg (by rw [c1]; decide)] at b2
                simp only [mchkI, hy, c3, if_true, decide_eq_true_eq] at hck
                have h9 : ∃ cell : Cell, H[ad a]? = some cell ∧ cell.vm.isStatics = false ∧ s.vm.findClass cl.1 = some cell.cls := by
                  rcases mobjE_or ho with ⟨-, hoE⟩ | hoW
                  · obtain ⟨g1, g2⟩ := hE.1 a _ hoE _ hcl
                    exact va_recv (q0 := 0) hK (va_P_one (g1.kept (hS.2.1 _ g1.lt g2))) hcl rfl
                  · exact va_recv hK hP hcl (mget_W (cy := cy) (ad := ad) hoW)
                rw [c4] at h9
                have hAA := m_AA hD hS hA
                have hpre : ∀ U : State, U.heap = H → s.WarmedH U.vm → mPc D cy E ad (.ref a :: (st.take q.2.2.2.2.2).reverse) h H.size (((.ref a :: (st.take q.2.2.2.2.2).reverse).map (trV ad)).toArray) U ∧ mXs (va_A (mW cy ad E.length h) H.size) U := fun U hU hW => ⟨m_pre hK hP hD hS hA hE hN _ U hU hW, mXs_warm hS hW hU hAA hXs⟩
                have hgo : vx_Run p l e R s m args below meth c H locs cells slots (S1.2.2.1 + 1) (S1.2.2.2 + 6) (F0 m pc ls (st.map (trV ad))) (rest.map (trV ad)) (fun _ _ _ => False) (mXC D cy E ad h H.size S1.2.1 r.2.1) (va_A (mW cy ad E.length h) H.size) := by
                  refine vx_runV (Ts := mTBL) (C := y.1.cls) (b := ad a) ⟨hx, hb, hml, hown, hts⟩ hM (cwV q.2.2.2.2.2 hts (mgood_cons (mTBL_of hck rfl) hin (mgood_cons b2 hin (mgood_cons (b3 c2) hin (mgood_cons b4 hin (mws_in hin b1))))) rfl rfl rfl ⟨rfl, b6⟩ hRy) ⟨mXs_blind, h9, hpre⟩ rfl hAn hsz (mk_split hdr) (lv_room (by rw [mwords_tr]; exact c5)) hd hR
                intro T hT X
                rcases hgo T hT X with ⟨v, st₀, t, T', L, h0, X', hL, e1, e2, hF, st9⟩ | ⟨q8, st₀, t, T', L, E8, ce, h0, X', hL, e1, e2, ⟨hE8, ⟨ad', f1, f2, f3⟩, ⟨f4, f5⟩, hz9, hk9⟩, hce, hcv, hcl8, st9⟩
                · exact hF.elim
                · rw [h0] at hz9 hk9
                  subst hE8
                  obtain ⟨t2, d1, d2⟩ := kx ad' T'.heap (locs ++ L) q8 ce f1 (by rw [e1]; exact f2) (f3.weaken (fun k q _ hq => hAA q.1 hq))
                    ⟨Nat.le_trans hS.1 (by rw [e1]; exact hz9), fun q h1 h2 => by rw [e1, hk9 q (Nat.lt_of_lt_of_le h1 hS.1) (fun z => h2 (hAA q z))]; exact hS.2.1 q h1 h2, fun q hq => by
                      rcases List.mem_append.mp hq with h9 | h9
                      · exact hS.2.2 q h9
                      · exact hAA _ (hL q h9)⟩ f4 f5 (by rw [e1]; exact hce) hcv hcl8 hwd2.t T' rfl X'
                  exact ⟨t2, st9.trans d1, d2⟩
              · exact hfalse hc
            · exact hfalse hc
          · exact hfalse hc
        · exact hfalse hc
  · exact hfalse hc
end MCX
end
section
/-! ===== methods with handlers ===== -/
def mdrop1 (l : mLv) (i : Nat) : mLv := l.filter (fun q => !(q.1 == i) && !(q.1 + 1 == i && q.2.category == 2))
theorem trL_drop {ad : Nat → Nat} {l : mLv} {i : Nat} : trL ad (mdrop1 l i) = (trL ad l).filter (fun q => !(q.1 == i) && !(q.1 + 1 == i && q.2.category == 2)) := (List.cons.inj (trL_set1 ad l i .null)).2.symm
def mhof (j : Nat) : Option (Nat × List (Nat × Nat × Nat × Nat)) := (mHds.find? (fun q => q.1 == j)).map (fun q => q.2)
def mcov (pc : Nat) (z : Nat × Nat × Nat × Nat) : Bool := decide (z.1 ≤ pc) && decide (pc < z.2.1)
def mhname (own : String) (i : Nat) : Option (String × Nat) := (mHnm.find? (fun q => decide (q.1 = own) && decide (q.2.1 = i))).map (fun q => q.2.2)
/-- the handler of an exception -/
def mhnd (own : String) (pc : Nat) (X : String) : List (Nat × Nat × Nat × Nat) → Option Nat
  | [] => none
  | z :: r => if mcov pc z = true then (match mhname own z.2.2.2 with
      | some nm => if nm.1 = X then some z.2.2.1 else (if (X, nm.1) ∈ mNc then mhnd own pc X r else none)
      | none => none) else mhnd own pc X r
/-- where a call's throw is caught: the place behind the handler's first instruction, which keeps what was caught, and in which local -/
def mcatch (j : Nat) (e : mIns) (S1 : mS) : Option (Nat × Nat) := match e.2.1, mthrown S1, mmeth j, mhof j with
  | .invokevirtual _, some z, some y, some hd => (match mThr[z]? with
    | some tx => (match mXcls[tx.1]? with
      | some r => if S1.1.2.2.2.isEmpty = true then (match mhnd y.2.2.2.2.1 e.1 r.2.1 hd.2 with
        | some hp => (match mlook (mcode j) hp with
          | some eh => (match eh.2.1 with
            | .astore_n k => if (k : Nat) < y.2.2.1 then some (hp + 1, (k : Nat)) else none
            | .astore k => if k < y.2.2.1 then some (hp + 2, k) else none
            | _ => none)
          | none => none)
        | none => none) else none
      | none => none)
    | none => none)
  | _, _, _, _ => none
theorem mcatch_ok {j : Nat} {e : mIns} {S1 : mS} {c : Nat × Nat} (h : mcatch j e S1 = some c) : ∃ (idx z : Nat) (tx : Nat × Nat × String) (r : mXr) (y : mMth) (hd : Nat × List (Nat × Nat × Nat × Nat)) (hp : Nat) (eh : mIns), e.2.1 = .invokevirtual idx ∧ mthrown S1 = some z ∧ S1.1.2.2.2 = [] ∧ mThr[z]? = some tx ∧ mXcls[tx.1]? = some r ∧ mmeth j = some y ∧ mhof j = some hd ∧ mhnd y.2.2.2.2.1 e.1 r.2.1 hd.2 = some hp ∧ mlook (mcode j) hp = some eh ∧ ((∃ k : Fin 4, eh.2.1 = .astore_n k ∧ (k : Nat) = c.2 ∧ c.1 = hp + 1) ∨ (eh.2.1 = .astore c.2 ∧ c.1 = hp + 2)) ∧ c.2 < y.2.2.1 := by
  unfold mcatch at h
  split at h
  · rename_i idx z y hd h1 h2 h3 h4
    split at h
    · rename_i tx h5
      split at h
      · rename_i r h6
        split at h
        · rename_i h7
          split at h
          · rename_i hp h8
            split at h
            · rename_i eh h9
              split at h
              · rename_i k h10
                split at h
                · rename_i h11
                  cases h
                  exact ⟨idx, z, tx, r, y, hd, hp, eh, h1, h2, List.isEmpty_iff.mp h7, h5, h6, h3, h4, h8, h9, Or.inl ⟨k, h10, rfl, rfl⟩, h11⟩
                · cases h
              · rename_i k h10
                split at h
                · rename_i h11
                  cases h
                  exact ⟨idx, z, tx, r, y, hd, hp, eh, h1, h2, List.isEmpty_iff.mp h7, h5, h6, h3, h4, h8, h9, Or.inr ⟨h10, rfl⟩, h11⟩
                · cases h
              · cases h
            · cases h
          · cases h
        · cases h
      · cases h
    · cases h
  · cases h
def mXk5 (r : mXr) : Bool := decide (Cond.castable r.2.1 r.2.1 ∈ mXb r)
set_option maxRecDepth 100000 in
theorem mXk5_ok : mXcls.all mXk5 = true := by decide +kernel
def mHk (q : String × Nat × String × Nat) : Bool := decide (q.2.1 ≠ 0) && decide (lw_tbl[q.2.2.2]? = some (.classLink q.1 q.2.1 q.2.2.1))
set_option maxRecDepth 100000 in
theorem mHk_ok : mHnm.all mHk = true := by decide +kernel
theorem mhname_ok {own : String} {i : Nat} {nm : String × Nat} (h : mhname own i = some nm) : Cond.classLink own i nm.1 ∈ mTBL ∧ i ≠ 0 := by
  unfold mhname at h
  obtain ⟨q, hq, hn⟩ := Option.map_eq_some_iff.mp h
  have h1 := List.find?_some hq
  have h2 := List.all_eq_true.mp mHk_ok q (List.mem_of_find?_eq_some hq)
  simp only [Bool.and_eq_true, decide_eq_true_eq] at h1
  simp only [mHk, Bool.and_eq_true, decide_eq_true_eq] at h2
  obtain ⟨a1, a2⟩ := h1
  subst a1
  subst a2
  subst hn
  exact ⟨mTBL_of h2.2 rfl, h2.1⟩
theorem mhnd_ok {own : String} {pc : Nat} {X : String} : ∀ (hh : List (Nat × Nat × Nat × Nat)) (hp : Nat), mhnd own pc X hh = some hp → ∃ (pre : List ExceptionTableEntry) (x : ExceptionTableEntry) (suf : List ExceptionTableEntry) (nm : String × Nat), tableOf hh = pre ++ x :: suf ∧ x.handlerPc = hp ∧ covers x pc = true ∧ mhname own x.catchType = some nm ∧ nm.1 = X ∧ ∀ z ∈ pre, covers z pc = false ∨ ∃ nz : String × Nat, mhname own z.catchType = some nz ∧ (X, nz.1) ∈ mNc := by
  intro hh
  induction hh with
  | nil => intro hp h; cases h
  | cons z r ih =>
    intro hp h
    unfold mhnd at h
    split at h
    · rename_i hc
      split at h
      · rename_i nm hnm
        split at h
        · rename_i hX
          cases h
          exact ⟨[], ⟨z.1, z.2.1, z.2.2.1, z.2.2.2⟩, tableOf r, nm, rfl, rfl, hc, hnm, hX, fun _ h9 => absurd h9 List.not_mem_nil⟩
        · split at h
          · rename_i hin
            obtain ⟨pre, x, suf, nm2, h1, h2, h3, h4, h5, h6⟩ := ih hp h
            refine ⟨⟨z.1, z.2.1, z.2.2.1, z.2.2.2⟩ :: pre, x, suf, nm2, congrArg (fun t => (⟨z.1, z.2.1, z.2.2.1, z.2.2.2⟩ : ExceptionTableEntry) :: t) h1, h2, h3, h4, h5, ?_⟩
            intro w hw
            rcases List.mem_cons.mp hw with e | e
            · subst e; exact Or.inr ⟨nm, hnm, hin⟩
            · exact h6 w e
          · cases h
      · cases h
    · rename_i hc
      obtain ⟨pre, x, suf, nm2, h1, h2, h3, h4, h5, h6⟩ := ih hp h
      refine ⟨⟨z.1, z.2.1, z.2.2.1, z.2.2.2⟩ :: pre, x, suf, nm2, congrArg (fun t => (⟨z.1, z.2.1, z.2.2.1, z.2.2.2⟩ : ExceptionTableEntry) :: t) h1, h2, h3, h4, h5, ?_⟩
      intro w hw
      rcases List.mem_cons.mp hw with e | e
      · subst e
        refine Or.inl ?_
        have h9 : ¬ covers (⟨z.1, z.2.1, z.2.2.1, z.2.2.2⟩ : ExceptionTableEntry) pc = true := hc
        exact Bool.eq_false_iff.mpr h9
      · exact h6 w e
/-- runs of methods with handlers: what they call throws, or returns -/
def mrunX (E : mE) (call : Nat → mS → Option mS) : Nat → mS → Option mS
  | 0, _ => none
  | n + 1, S => match mlook (mcode S.1.1) S.1.2.1 with
    | none => none
    | some e => if mterm e = true then some S else (if minv e = true then (if 990 < e.2.2.2.1 then (match mspec S.1.1 e S.1.2.2.2 with
        | none => none
        | some r => mrunX E call n ((S.1.1, r.1, S.1.2.2.1, r.2), S.2)) else (match mcallee E e S.1.2.2.2 S.2.1 with
        | none => none
        | some r => if mfits S.1.1 r.1 = true then (match call n (ment r.1 r.2.1 S.2.1) with
          | none => none
          | some S1 => (match mretv S1 with
            | some v => mrunX E call n ((S.1.1, e.1 + 3, S.1.2.2.1, v.toList ++ r.2.2), (S1.2.1, S.2.2.1 + S1.2.2.1, S.2.2.2 + S1.2.2.2))
            | none => (match mcatch S.1.1 e S1 with
              | none => none
              | some cx => mrunX E call n ((S.1.1, cx.1, mdrop1 S.1.2.2.1 cx.2, []), (S1.2.1, S.2.2.1 + (S1.2.2.1 + 1), S.2.2.2 + (S1.2.2.2 + 6)))))) else none)) else (match mstep E e S with
        | none => none
        | some S1 => mrunX E call n S1))
theorem mrunX_mono {E : mE} {call : Nat → mS → Option mS} : ∀ (n : Nat) (S S' : mS), mrunX E call n S = some S' → S.2.2.1 ≤ S'.2.2.1 ∧ S.2.2.2 ≤ S'.2.2.2 := by
  intro n
  induction n with
  | zero => intro S S' h; cases h
  | succ n ih =>
    intro S S' h
    unfold mrunX at h
    split at h
    · exact hfalse h
    · rename_i e he; split at h
      · cases h; exact ⟨Nat.le_refl _, Nat.le_refl _⟩
      · split at h
        · split at h
          · split at h
            · exact hfalse h
            · have h1 := ih _ _ h
              exact h1
          · split at h
            · exact hfalse h
            · split at h
              · split at h
                · exact hfalse h
                · split at h
                  · have h1 := ih _ _ h
                    dsimp only at h1
                    exact ⟨by omega, by omega⟩
                  · split at h
                    · exact hfalse h
                    · have h1 := ih _ _ h
                      dsimp only at h1
                      exact ⟨by omega, by omega⟩
              · exact hfalse h
        · split at h
          · exact hfalse h
          · rename_i S1 hS1
            have h1 := ih _ _ h
            have h2 : S.2.2.1 ≤ S1.2.2.1 ∧ S.2.2.2 ≤ S1.2.2.2 := by
              unfold mstep at hS1
              split at hS1
              · split at hS1
                · cases hS1; exact ⟨Nat.le_refl _, Nat.le_refl _⟩
                · split at hS1
                  · rename_i r hr; cases hS1; exact mheap_mono hr
                  · exact hfalse hS1
              · exact hfalse hS1
            exact ⟨Nat.le_trans h2.1 h1.1, Nat.le_trans h2.2 h1.2⟩
section MRX
variable {p : Program} {l : Launch} {e : Env} {R : Room} {s : State} {m : MethodId} {args : Array Value} {below : List Frame} {meth : Method} {c : Code} {Q : State → Prop}
set_option maxHeartbeats 4000000 in
theorem sim_runX {D : va_G} {cy : Nat → ClassId} {E : mE} {call : Nat → mS → Option mS} (htr : l.stackTraces = false) (hEw : mEw E) (hcall : mCallOk l D cy E call) {j0 : Nat} {hd0 : Nat × List (Nat × Nat × Nat × Nat)} (hho : mhof j0 = some hd0) (htb : c.exceptionTable.toList = tableOf hd0.2) {A : Nat → Prop} {y : mMth} (hx : p.tables.exec = Jvm.exec) (hb : c.code = y.2.1) (hml : c.maxLocals = y.2.2.1) (hts : ∀ w ∈ mTBL, w.before args s = true) (hown : s.vm.findClass y.2.2.2.2.1 = some m.cls) (hnm : meth.name = y.1.name) (hR1 : y.2.2.2.2.2.1 ≤ R.frames) (hR2 : y.2.2.2.2.2.2 ≤ R.locals)
    (hK : va_K D mCl (mT cy) s) (hA : ∀ q, s.heap.size ≤ q → A q) (hN : mNs s) (hXs : mXs A s) (hNc : ∀ q ∈ mNc, va_Nc q.1 q.2 s) : ∀ (n : Nat) (S S' : mS), mrunX E (mrunF E call) n S = some S' → S.1.1 = j0 → mmeth S.1.1 = some y → S'.2.2.1 ≤ R.cells → S'.2.2.2 ≤ R.slots → ∀ (H : Heap) (locs : List Loc) (ls : Array Slot) (ad : Nat → Nat), mEx D E ad A s s.heap → va_P D mCl (mW cy ad E.length S.2.1) H → va_D A (mW cy ad E.length S.2.1) → va_S A s.heap H locs → wfH E.length S.2.1 → wfLv (E.length + S.2.1.length) S.1.2.2.1 → wfL (E.length + S.2.1.length) S.1.2.2.2 → lv_has ls y.2.2.1 (trL ad S.1.2.2.1) →
    (∀ (ad' : Nat → Nat) (H' : Heap) (locs' : List Loc) (ls' : Array Slot) (e' : mIns), agr (E.length + S.2.1.length) ad ad' → va_P D mCl (mW cy ad' E.length S'.2.1) H' → va_D A (mW cy ad' E.length S'.2.1) → va_S A s.heap H' locs' → wfH E.length S'.2.1 → wfL (E.length + S'.2.1.length) S'.1.2.2.2 → S.2.1.length ≤ S'.2.1.length → S'.1.1 = S.1.1 → mlook (mcode S'.1.1) S'.1.2.1 = some e' → mterm e' = true → lv_has ls' y.2.2.1 (trL ad' S'.1.2.2.1) → W p l e R s m args below meth c H' locs' S'.2.2.1 S'.2.2.2 Q (F0 m S'.1.2.1 ls' (S'.1.2.2.2.map (trV ad')))) →
    W p l e R s m args below meth c H locs S.2.2.1 S.2.2.2 Q (F0 m S.1.2.1 ls (S.1.2.2.2.map (trV ad))) := by
  intro n
  induction n with
  | zero => intro S S' h; cases h
  | succ n ih =>
    intro S S' h hj0 hy hc9 hs9 H locs ls ad hE hP hD hS hw hwl hws hl land
    obtain ⟨⟨j, pc, lv, st⟩, h0, nc, ns⟩ := S
    dsimp only at *
    have hmono := mrunX_mono _ _ _ h
    dsimp only at hmono
    unfold mrunX at h
    split at h
    · exact hfalse h
    · rename_i i hi
      dsimp only at hi h
      obtain ⟨k1, k2, k3⟩ := mIns_ok hy hi
      have hpc : i.1 = pc := (mlook_mem hi).2
      subst hpc
      split at h
      · rename_i ht
        cases h
        exact land ad H locs ls i agr.rf hP hD hS hw hws (Nat.le_refl _) rfl hi ht hl
      · split at h
        · split at h
          · rename_i h990
            split at h
            · exact hfalse h
            · rename_i r hr
              obtain ⟨pc2, st2⟩ := r
              exact spec_ok hx hb (hml.trans hl.1.symm) hts hown hy hR1 hR2 (Nat.le_trans hmono.1 hc9) (Nat.le_trans hmono.2 hs9) k1 k3 hr hws (fun hws2 => ih _ _ h hj0 hy hc9 hs9 H locs ls ad hE hP hD hS hw hwl hws2 hl land)
          · rename_i h990
            split at h
            · exact hfalse h
            · rename_i r hr
              obtain ⟨k, as, rest⟩ := r
              split at h
              · rename_i hf
                split at h
                · exact hfalse h
                · rename_i S1 hS1
                  split at h
                  · rename_i v hv
                    have hm2 := mrunX_mono _ _ _ h
                    dsimp only at hm2
                    obtain ⟨hwr, a, hrun⟩ := m_run (met_of_run hEw hcall) hx hb hml hts hown hl.1 k1 k3 hK hP hD hS hA hE hN hw hws (by omega) hy hR1 hR2 hr hf hS1 hv ⟨Nat.le_trans hm2.1 hc9, Nat.le_trans hm2.2 hs9⟩
                    refine m_back hw hrun hS (m_AA hD hS hA) (fun ad' H1 locs1 hag hP1 hD1 hS1' hlen hw1 hwv => ?_)
                    have hk := ih _ _ h hj0 hy hc9 hs9 H1 locs1 ls ad' (hE.agr hEw (fun q hq => hag q (by omega))) hP1 hD1 hS1' hw1 (hwl.up (by dsimp only; omega)) (by
                      intro x hx9
                      rcases List.mem_append.mp hx9 with e1 | e1
                      · cases v with
                        | none => cases e1
                        | some z =>
                          rw [List.mem_singleton.mp (show x ∈ [z] from e1)]
                          exact hwv z rfl
                      · exact (hwr x e1).up (by dsimp only; omega)) (by rw [trL_agr hwl hag]; exact hl)
                      (fun ad2 H2 locs2 ls2 e2 g1 g2 g3 g4 g5 g6 g7 g8 g9 g10 g11 => land ad2 H2 locs2 ls2 e2 (hag.tr (by dsimp only; omega) g1) g2 g3 g4 g5 g6 (Nat.le_trans hlen g7) g8 g9 g10 g11)
                    dsimp only at hk
                    rw [List.map_append, map_agr hwr hag] at hk
                    have hv9 : v.toList.map (trV ad') = (v.map (trV ad')).toList := by cases v <;> rfl
                    rw [hv9] at hk
                    exact hk
                  · split at h
                    · exact hfalse h
                    · rename_i cx hcx
                      obtain ⟨pc9, k9⟩ := cx
                      have hm2 := mrunX_mono _ _ _ h
                      dsimp only at hm2
                      obtain ⟨idx, z, tx, r9, y9, hd9, hp, eh, q1, q2, q3, q4, q5, q6, q7, q8, q9, q10, q11⟩ := mcatch_ok hcx
                      rw [hj0, hho] at q7
                      cases q7
                      rw [hy] at q6
                      cases q6
                      have hrm : r9 ∈ mXcls := List.mem_of_getElem? q5
                      obtain ⟨pre, xt, suf, nm, p1, p2, p3, p4, p5, p6⟩ := mhnd_ok _ _ q8
                      subst p2
                      have hdh : decode y.2.1 eh.1 = .ok (eh.2.1, mlen eh.2.1 eh.2.2.1) := (mIns_ok hy q9).2.2
                      rw [(mlook_mem q9).2] at hdh
                      refine m_thrown htr hEw hcall hx hb hml hts hown hl.1 k1 k3 q1 hK hP hD hS hA hE hN hXs hw hws hy hR1 hR2 hr hf hS1 q2 q3 q4 q5 ⟨Nat.le_trans hm2.1 hc9, Nat.le_trans hm2.2 hs9⟩ (fun ad' H1 locs1 qa ce hag hP1 hD1 hS1' hlen hw1 hcell hcv hcl hwr => ?_)
                      refine vx_catch hown pre xt suf (htb.trans p1) (fun z hz => ?_) p3 (mhname_ok p4).2 (hts _ (mhname_ok p4).1) ?_ hcell hcv hcl ?_
                      · rcases p6 z hz with e1 | ⟨nz, e1, e2⟩
                        · exact Or.inl e1
                        · exact Or.inr ⟨(mhname_ok e1).2, nz.1, hts _ (mhname_ok e1).1, hNc _ e2⟩
                      · rw [p5]
                        exact va_Nw.use rfl (hXs.2.1 r9 hrm _ (of_decide_eq_true (List.all_eq_true.mp mXk5_ok r9 hrm)))
                      · have hl2 : lv_has ls y.2.2.1 (trL ad' lv) := by rw [trL_agr hwl hag]; exact hl
                        have hgo : ∀ ls' : Array Slot, lv_has ls' y.2.2.1 ((k9, Value.ref qa) :: (trL ad' lv).filter (fun q => !(q.1 == k9) && !(q.1 + 1 == k9 && q.2.category == 2))) → W p l e R s m args below meth c H1 locs1 (nc + (S1.2.2.1 + 1)) (ns + (S1.2.2.2 + 6)) Q (F0 m pc9 ls' []) := by
                          intro ls' hl'
                          exact ih _ _ h hj0 hy hc9 hs9 H1 locs1 ls' ad' (hE.agr hEw (fun q hq => hag q (by omega))) hP1 hD1 hS1' hw1 (fun q hq => (hwl.up (by dsimp only; omega)) q (List.mem_filter.mp hq).1) (fun v hv => by cases hv) ⟨hl'.1, hl'.2.1, fun q hq => hl'.2.2 q (List.mem_cons_of_mem _ (by rw [← trL_drop]; exact hq))⟩
                            (fun ad2 H2 locs2 ls2 e2 g1 g2 g3 g4 g5 g6 g7 g8 g9 g10 g11 => land ad2 H2 locs2 ls2 e2 (hag.tr (by dsimp only; omega) g1) g2 g3 g4 g5 g6 (Nat.le_trans hlen g7) g8 g9 g10 g11)
                        rcases q10 with ⟨kf, f1, f2, f3⟩ | ⟨f1, f3⟩
                        · subst f3
                          rw [f1] at hdh
                          exact lv_astore_n hx hb hdh f2 hl2 q11 rfl hgo
                        · subst f3
                          rw [f1] at hdh
                          exact lv_astore hx hb hdh hl2 q11 rfl hgo
              · exact hfalse h
        · split at h
          · exact hfalse h
          · rename_i S1 hS1
            have hm2 := mrunX_mono _ _ _ h
            unfold mstep at hS1
            dsimp only at hS1
            rw [hy] at hS1
            dsimp only at hS1
            split at hS1
            · rename_i r hr
              cases hS1
              obtain ⟨pc2, lv2, st2⟩ := r
              obtain ⟨w1, w2⟩ := pure_wf hr hwl hws
              exact sd_pure hx hb hr k3 hl (fun ls' hl' => ih _ _ h hj0 hy hc9 hs9 H locs ls' ad hE hP hD hS hw w1 w2 hl' land)
            · split at hS1
              · rename_i r hr
                cases hS1
                obtain ⟨pc2, st2, h2⟩ := r
                dsimp only at hm2
                refine sd_heap (h := (h0, nc, ns)) (init := decide (y.1.name = "<init>")) hx hb hts hown (fun hh => hnm.trans (of_decide_eq_true hh)) hEw k2 k3 hK hP hD hS hA hE hw hws hr ⟨Nat.le_trans hm2.1 hc9, Nat.le_trans hm2.2 hs9⟩ (fun t9 ty ht9 hty => hts _ (mTys_ok t9 ty ht9 hty)) hN (hml.trans hl.1.symm) (fun hn9 => ⟨Nat.le_trans (mIns_room hy hi hn9).1 hR1, Nat.le_trans (mIns_room hy hi hn9).2 hR2⟩) (fun ad' H' locs' hag hP' hD' hS' hw' hws' hlen => ?_)
                exact ih _ _ h hj0 hy hc9 hs9 H' locs' ls ad' (hE.agr hEw (fun q hq => hag q (by omega))) hP' hD' hS' hw' (hwl.up (by dsimp only at hlen ⊢; omega)) hws' (by rw [trL_agr hwl hag]; exact hl)
                  (fun ad2 H2 locs2 ls2 e2 g1 g2 g3 g4 g5 g6 g7 g8 g9 g10 g11 => land ad2 H2 locs2 ls2 e2 (hag.tr (by dsimp only at hlen ⊢; omega) g1) g2 g3 g4 g5 g6 (Nat.le_trans hlen g7) g8 g9 g10 g11)
              · exact hfalse hS1
end MRX
def mHdk (q : Nat × Nat × List (Nat × Nat × Nat × Nat)) : Bool := match mmeth q.1 with
  | some y => decide (lw_tbl[q.2.1]? = some (.codeWith y.1 y.2.1 y.2.2.1 y.2.2.2.1 q.2.2)) && (plainName y.1.cls && decide (y.2.2.2.2.1 = y.1.cls))
  | none => true
set_option maxRecDepth 100000 in
theorem mHdk_ok : mHds.all mHdk = true := by decide +kernel
theorem mhof_in {k : Nat} {hd0 : Nat × List (Nat × Nat × Nat × Nat)} (h : mhof k = some hd0) : (k, hd0) ∈ mHds := by
  unfold mhof at h
  obtain ⟨q, hq, hn⟩ := Option.map_eq_some_iff.mp h
  have h1 := List.find?_some hq
  have h2 := List.mem_of_find?_eq_some hq
  have h3 : q.1 = k := beq_iff_eq.mp h1
  obtain ⟨q1, q2⟩ := q
  dsimp only at h3 hn
  rw [← h3, ← hn]
  exact h2
theorem mhof_ok {k : Nat} {hd0 : Nat × List (Nat × Nat × Nat × Nat)} {y : mMth} (h : mhof k = some hd0) (hy : mmeth k = some y) : plainName y.1.cls = true ∧ y.2.2.2.2.1 = y.1.cls := by
  have h1 := List.all_eq_true.mp mHdk_ok _ (mhof_in h)
  simp only [mHdk, hy, Bool.and_eq_true, decide_eq_true_eq] at h1
  exact ⟨h1.2.1, h1.2.2⟩
def mwsX (y : mMth) (hh : List (Nat × Nat × Nat × Nat)) : List Cond := Cond.codeWith y.1 y.2.1 y.2.2.1 y.2.2.2.1 hh :: mTBL
def mPcX (D : va_G) (cy : Nat → ClassId) (E : mE) (ad : Nat → Nat) (as : List Value) (h : List mO) (sz : Nat) : Array Value → State → Prop := fun a s => mPc D cy E ad as h sz a s ∧ mXs (va_A (mW cy ad E.length h) sz) s ∧ ∀ q ∈ mNc, va_Nc q.1 q.2 s
set_option maxHeartbeats 4000000 in
theorem met_of_runX {l : Launch} (htr : l.stackTraces = false) {D : va_G} {cy : Nat → ClassId} {E : mE} {call : Nat → mS → Option mS} (hEw : mEw E) (hcall : mCallOk l D cy E call) {n k : Nat} {y : mMth} {hd0 : Nat × List (Nat × Nat × Nat × Nat)} {as : List Value} {h : List mO} {S1 : mS} {v : Option Value} (hy : mmeth k = some y) (hho : mhof k = some hd0) (hlen : (lg_sl as).length ≤ y.2.2.1) (hwa : wfL (E.length + h.length) as) (hwh : wfH E.length h) (hrun : mrunX E (mrunF E call) n (ment k as h) = some S1) (hret : mretv S1 = some v) (ad : Nat → Nat) (sz : Nat) :
    Met l y.1 (mwsX y hd0.2) (mrm y S1.2.2.1 S1.2.2.2) (mPcX D cy E ad as h sz) (mQc D cy E ad h sz S1.2.1 v) S1.2.2.1 S1.2.2.2 (va_A (mW cy ad E.length h) sz) := by
  obtain ⟨b5, b7⟩ := mhof_ok hho hy
  refine va_MetW (hh := hd0.2) (cc := y.2.1) (maxL := y.2.2.1) (ret := y.2.2.2.1) b5 rfl ?_
  intro p e s m args below meth c s₁ B hml hv
  obtain ⟨⟨rfl, hsz, hP, hK, hD0, hE, hN⟩, hXs, hNc⟩ := hv
  have hts0 := atoms_spec (ws := mwsX y hd0.2) B.pre
  have hts : ∀ w ∈ mTBL, w.before (as.map (trV ad)).toArray s = true := fun w hw => hts0 w (List.mem_cons_of_mem _ hw)
  have hown : s.vm.findClass y.1.cls = some m.cls := findClass_of_methodNamed B.named
  have hnm : meth.name = y.1.name := (name_of_methodNamed B.named B.method).1
  have hlocks := B.notSynchronized
  have hr := B.returns
  subst hsz
  have hD := hD0.self (sz := s.heap.size)
  have hA : ∀ q : Nat, s.heap.size ≤ q → va_A (mW cy ad E.length h) s.heap.size q := fun q hq9 => Or.inr hq9
  have hl := lv_entry (as.map (trV ad)) (n := y.2.2.1) (by rw [lg_sl_tr]; exact hlen)
  rw [lg_entry_eq]
  generalize (lg_sl (as.map (trV ad)) ++ List.replicate (y.2.2.1 - (lg_sl (as.map (trV ad))).length) Slot.unset).toArray = ls at hl ⊢
  rw [lv_args_tr] at hl
  have htb : c.exceptionTable.toList = tableOf hd0.2 := vx_table (x := y.1) B (hts0 _ List.mem_cons_self)
  refine sim_runX (j0 := k) (R := (headSpec (mwsX y hd0.2) (mrm y S1.2.2.1 S1.2.2.2)).room) (A := va_A (mW cy ad E.length h) s.heap.size) htr hEw hcall hho htb B.exec B.bytes hml hts (b7 ▸ hown) hnm (Nat.le_refl _) (Nat.le_refl _) hK hA hN hXs hNc n _ S1 hrun rfl hy (Nat.le_refl _) (Nat.le_refl _) s.heap [] ls ad hE hP hD va_S.rf hwh (lv_args_wf hwa 0) (fun v hv => by cases hv) hl ?_
  intro ad' H' locs' ls' e' hag hP' hD' hS' hw' hws' hlen' hj he' ht' hl'
  have hjk : S1.1.1 = k := hj
  obtain ⟨-, -, hd⟩ := mIns_ok (by rw [hjk]; exact hy) he'
  have hpc : e'.1 = S1.1.2.1 := (mlook_mem he').2
  rw [hpc] at hd
  unfold mretv at hret
  rw [he', hjk, hy] at hret
  dsimp only at hret
  obtain ⟨⟨j1, pc1, lv1, st1⟩, h1, nc1, ns1⟩ := S1
  obtain ⟨pc2, i2, n2, a2, bb2, k2⟩ := e'
  obtain ⟨y1, y2, y3, y4, y5⟩ := y
  dsimp only at *
  have hq9 : ∀ v9 : Option Value, (∀ x, v9 = some x → wfV (E.length + h1.length) x) → ∀ t : State, t.heap = H' → s.WarmedH t.vm → mQc D cy E ad h s.heap.size h1 v9 (as.map (trV ad)).toArray s (.returned (v9.map (trV ad'))) t := by
    intro v9 hwv t ht hW
    exact ⟨⟨ad', hag, rfl, by rw [ht]; exact hP', hD'⟩, ⟨hlen', hw', hwv⟩, hS'.F ht⟩
  split at hret
  · rename_i x ty
    split at hret
    · rename_i hn; cases hret
      exact W.zret B.exec B.bytes hr hn (hq9 (some (.int x)) (fun z hz => by cases hz; trivial)) hS'.2.2 hd
    · exact hfalse hret
  · rename_i x
    cases hret
    exact W.lret B.exec B.bytes hr (hq9 (some (.long x)) (fun z hz => by cases hz; trivial)) hS'.2.2 hd
  · rename_i x
    cases hret
    exact W.dret B.exec B.bytes hr (hq9 (some (.double x)) (fun z hz => by cases hz; trivial)) hS'.2.2 hd
  · rename_i x o
    cases hret
    exact W.aret B.exec B.bytes hr (Or.inl ⟨_, rfl⟩) (Or.inr ⟨_, rfl⟩) (hq9 (some (.ref x)) (fun z hz => by cases hz; exact hws'.h)) hS'.2.2 hd
  · rename_i x o
    cases hret
    exact W.aret B.exec B.bytes hr (Or.inr ⟨_, rfl⟩) (Or.inr ⟨_, rfl⟩) (hq9 (some (.ref x)) (fun z hz => by cases hz; exact hws'.h)) hS'.2.2 hd
  · cases hret
    exact W.vret B.exec B.bytes hr (hq9 none (fun z hz => by cases hz)) hS'.2.2 hd
  · exact hfalse hret
end
section
/-! ===== the law's level: static calls of methods with handlers, and all other calls ===== -/
def mHdf (q : Nat × Nat × List (Nat × Nat × Nat × Nat)) : Bool := match mmeth q.1, mPos[q.1]? with
  | some y, some z => decide (lw_tbl[q.2.1]? = some (.codeWith y.1 y.2.1 y.2.2.1 y.2.2.2.1 q.2.2)) && (decide (lw_tbl[z.2.1]? = some (.static y.1)) && (decide (lw_tbl[z.2.2.2.1]? = some (.initialized y.1.cls)) && decide (y.1.cls ≠ "java/lang/invoke/MethodHandle" ∧ y.1.cls ≠ "java/lang/invoke/VarHandle" ∧ (parseMethodDescriptor y.1.desc).map (fun d => d.parameters.length) = some z.2.2.2.2.2)))
  | _, _ => true
set_option maxRecDepth 100000 in
theorem mHdf_ok : mHds.all mHdf = true := by decide +kernel
theorem mhof_f {k : Nat} {hd0 : Nat × List (Nat × Nat × Nat × Nat)} {y : mMth} {z : Nat × Nat × Nat × Nat × Bool × Nat} (h : mhof k = some hd0) (hy : mmeth k = some y) (hz : mPos[k]? = some z) : Cond.codeWith y.1 y.2.1 y.2.2.1 y.2.2.2.1 hd0.2 ∈ mTBL ∧ Cond.static y.1 ∈ mTBL ∧ Cond.initialized y.1.cls ∈ mTBL ∧ (y.1.cls ≠ "java/lang/invoke/MethodHandle" ∧ y.1.cls ≠ "java/lang/invoke/VarHandle" ∧ (parseMethodDescriptor y.1.desc).map (fun d => d.parameters.length) = some z.2.2.2.2.2) := by
  have h1 := List.all_eq_true.mp mHdf_ok _ (mhof_in h)
  simp only [mHdf, hy, hz, Bool.and_eq_true, decide_eq_true_eq] at h1
  obtain ⟨a1, a2, a3, a4⟩ := h1
  exact ⟨mTBL_of a1 rfl, mTBL_of a2 rfl, mTBL_of a3 rfl, a4⟩
theorem mwsX_in {big : List Cond} (hb : ∀ w ∈ mTBL, w ∈ big) {y : mMth} {hh : List (Nat × Nat × Nat × Nat)} (hc : Cond.codeWith y.1 y.2.1 y.2.2.1 y.2.2.2.1 hh ∈ mTBL) : GoodIn big (mwsX y hh) := by
  intro w hw
  rcases List.mem_cons.mp hw with e1 | e1
  · subst e1
    exact ⟨hb _ hc, good_of_word (List.mem_filter.mp hc).2⟩
  · exact ⟨hb _ e1, good_of_word (List.mem_filter.mp e1).2⟩
theorem mPcX_blind {D : va_G} {cy : Nat → ClassId} {E : mE} {ad : Nat → Nat} {as : List Value} {h : List mO} {sz : Nat} : FrameBlind (mPcX D cy E ad as h sz) := by
  intro a U g mk hq
  obtain ⟨q1, q2, q3⟩ := hq
  have h1 := mXs_blind (D := D) (cy := cy) (E := E) (ad := ad) (as := as) (h := h) (sz := sz) (A := va_A (mW cy ad E.length h) sz) a U g mk ⟨q1, q2⟩
  exact ⟨h1.1, h1.2, fun z hz => va_Nc.moved (u := U) (U := U.calling g mk a) (Vm.Alike.refl U.vm) (q3 z hz)⟩
def mcalleeX (e : mIns) (st : List Value) : Option (Nat × List Value × List Value) := match e.2.1, mPos[e.2.2.2.1]?, mmeth e.2.2.2.1 with
  | .invokestatic _, some q, some y => if (mhof e.2.2.2.1).isSome = true ∧ e.2.2.1 = 0 ∧ q.2.2.2.2.2 ≤ st.length ∧ mwords (st.drop q.2.2.2.2.2) ≤ 8 ∧ (lg_sl (st.take q.2.2.2.2.2).reverse).length ≤ y.2.2.1 then some (e.2.2.2.1, (st.take q.2.2.2.2.2).reverse, st.drop q.2.2.2.2.2) else none
  | _, _, _ => none
/-- runs of the law -/
def mrunL (E : mE) (c0 : Nat → mS → Option mS) : Nat → mS → Option mS
  | 0, _ => none
  | n + 1, S => match mlook (mcode S.1.1) S.1.2.1 with
    | none => none
    | some e => if mterm e = true then some S else (if minv e = true then (if 990 < e.2.2.2.1 then (match mspec S.1.1 e S.1.2.2.2 with
        | none => none
        | some r => mrunL E c0 n ((S.1.1, r.1, S.1.2.2.1, r.2), S.2)) else (match mcalleeX e S.1.2.2.2 with
        | some r => if mfits S.1.1 r.1 = true then (match mrunX E (mrunF E c0) n (ment r.1 r.2.1 S.2.1) with
          | none => none
          | some S1 => (match mretv S1 with
            | none => none
            | some v => mrunL E c0 n ((S.1.1, e.1 + 3, S.1.2.2.1, v.toList ++ r.2.2), (S1.2.1, S.2.2.1 + S1.2.2.1, S.2.2.2 + S1.2.2.2)))) else none
        | none => (match mcallee E e S.1.2.2.2 S.2.1 with
          | none => none
          | some r => if mfits S.1.1 r.1 = true then (match mrunF E c0 n (ment r.1 r.2.1 S.2.1) with
            | none => none
            | some S1 => (match mretv S1 with
              | none => none
              | some v => mrunL E c0 n ((S.1.1, e.1 + 3, S.1.2.2.1, v.toList ++ r.2.2), (S1.2.1, S.2.2.1 + S1.2.2.1, S.2.2.2 + S1.2.2.2)))) else none))) else (match mstep E e S with
        | none => none
        | some S1 => mrunL E c0 n S1))
theorem mrunL_mono {E : mE} {c0 : Nat → mS → Option mS} : ∀ (n : Nat) (S S' : mS), mrunL E c0 n S = some S' → S.2.2.1 ≤ S'.2.2.1 ∧ S.2.2.2 ≤ S'.2.2.2 := by
  intro n
  induction n with
  | zero => intro S S' h; cases h
  | succ n ih =>
    intro S S' h
    unfold mrunL at h
    split at h
    · exact hfalse h
    · rename_i e he; split at h
      · cases h; exact ⟨Nat.le_refl _, Nat.le_refl _⟩
      · split at h
        · split at h
          · split at h
            · exact hfalse h
            · have h1 := ih _ _ h
              exact h1
          · split at h
            · split at h
              · split at h
                · exact hfalse h
                · split at h
                  · exact hfalse h
                  · have h1 := ih _ _ h
                    dsimp only at h1
                    exact ⟨by omega, by omega⟩
              · exact hfalse h
            · split at h
              · exact hfalse h
              · split at h
                · split at h
                  · exact hfalse h
                  · split at h
                    · exact hfalse h
                    · have h1 := ih _ _ h
                      dsimp only at h1
                      exact ⟨by omega, by omega⟩
                · exact hfalse h
        · split at h
          · exact hfalse h
          · rename_i S1 hS1
            have h1 := ih _ _ h
            have h2 : S.2.2.1 ≤ S1.2.2.1 ∧ S.2.2.2 ≤ S1.2.2.2 := by
              unfold mstep at hS1
              split at hS1
              · split at hS1
                · cases hS1; exact ⟨Nat.le_refl _, Nat.le_refl _⟩
                · split at hS1
                  · rename_i r hr; cases hS1; exact mheap_mono hr
                  · exact hfalse hS1
              · exact hfalse hS1
            exact ⟨Nat.le_trans h2.1 h1.1, Nat.le_trans h2.2 h1.2⟩
section MRL
variable {p : Program} {l : Launch} {e : Env} {R : Room} {s : State} {m : MethodId} {args : Array Value} {below : List Frame} {meth : Method} {c : Code} {Q : State → Prop}
set_option maxHeartbeats 4000000 in
/-- a static call of a method with handlers -/
theorem m_runX {H : Heap} {locs : List Loc} {cells slots : Nat} {cc : ByteArray} {nL : Nat} (htr : l.stackTraces = false) {D : va_G} {cy : Nat → ClassId} {E : mE} {call : Nat → mS → Option mS} (hEw : mEw E) (hcall : mCallOk l D cy E call) (hx : p.tables.exec = Jvm.exec) (hb : c.code = cc) (hml : c.maxLocals = nL) (hts : ∀ w ∈ mTBL, w.before args s = true) {own : String} (hown : s.vm.findClass own = some m.cls)
    {ad : Nat → Nat} {A : Nat → Prop} {i : mIns} {st : List Value} {h : List mO} {ls : Array Slot} {x : mMth} {j k n : Nat} {as rest : List Value} {S1 : mS} {v : Option Value} (hsz : ls.size = nL) (hck : mchkI own i = true) (hd : decode cc i.1 = .ok (i.2.1, mlen i.2.1 i.2.2.1))
    (hK : va_K D mCl (mT cy) s) (hP : va_P D mCl (mW cy ad E.length h) H) (hD : va_D A (mW cy ad E.length h)) (hS : va_S A s.heap H locs) (hA : ∀ q, s.heap.size ≤ q → A q) (hE : mEx D E ad A s s.heap) (hN : mNs s) (hXs : mXs A s) (hNc : ∀ q ∈ mNc, va_Nc q.1 q.2 s) (hw : wfH E.length h) (hws : wfL (E.length + h.length) st)
    (hi : i.2.2.2.1 ≤ 990) (hx0 : mmeth j = some x) (hR1 : x.2.2.2.2.2.1 ≤ R.frames) (hR2 : x.2.2.2.2.2.2 ≤ R.locals)
    (hc : mcalleeX i st = some (k, as, rest)) (hf : mfits j k = true) (hrun : mrunX E (mrunF E call) n (ment k as h) = some S1) (hret : mretv S1 = some v) (hR : cells + S1.2.2.1 ≤ R.cells ∧ slots + S1.2.2.2 ≤ R.slots) :
    wfL (E.length + h.length) rest ∧ ∃ a : Array Value, va_Run p l e R s m args below meth c H locs cells slots S1.2.2.1 S1.2.2.2 (F0 m i.1 ls (st.map (trV ad))) (rest.map (trV ad)) (mQc D cy E ad h H.size S1.2.1 v a) (va_A (mW cy ad E.length h) H.size) := by
  have hin : ∀ w ∈ mTBL, w ∈ mTBL := fun _ h9 => h9
  unfold mcalleeX at hc
  split at hc
  · rename_i idx q y hi9 hq hy
    split at hc
    · rename_i hcond; obtain ⟨c1, c2, hlen, c3, c4⟩ := hcond
      obtain ⟨hd0, hho⟩ := Option.isSome_iff_exists.mp c1
      obtain ⟨b1, b2, b4, b6⟩ := mhof_f hho hy hq
      have htk : (st.take q.2.2.2.2.2).length = q.2.2.2.2.2 := by rw [List.length_take]; omega
      have hwt : wfL (E.length + h.length) (st.take q.2.2.2.2.2).reverse := fun v9 h9 => hws v9 (List.mem_of_mem_take (List.mem_reverse.mp h9))
      have hwd : wfL (E.length + h.length) (st.drop q.2.2.2.2.2) := fun v9 h9 => hws v9 (List.mem_of_mem_drop h9)
      have hAn : ((st.take q.2.2.2.2.2).reverse.map (trV ad)).length = q.2.2.2.2.2 := by rw [List.length_map, List.length_reverse, htk]
      obtain ⟨pc, ins, n9, a9, b9, k9⟩ := i
      dsimp only at *
      subst hi9
      cases hc
      refine ⟨hwd, ((st.take q.2.2.2.2.2).reverse.map (trV ad)).toArray, ?_⟩
      have hRy : y.2.2.2.2.2.1 + 1 ≤ R.frames ∧ 8 + (y.2.2.1 + 11) + y.2.2.2.2.2.2 ≤ R.locals := by
        simp only [mfits, hx0, hy, Bool.and_eq_true, decide_eq_true_eq] at hf
        exact ⟨by omega, by omega⟩
      have hM := met_of_runX htr hEw hcall hy hho c4 hwt hw hrun hret ad H.size
      simp only [mchkI, hy, c2, if_true, if_neg (show ¬ k = 997 by omega), if_neg (show ¬ k = 996 by omega), decide_eq_true_eq] at hck
      have hAA := m_AA hD hS hA
      have hpre : ∀ U : State, U.heap = H → s.WarmedH U.vm → mPcX D cy E ad (st.take q.2.2.2.2.2).reverse h H.size (((st.take q.2.2.2.2.2).reverse).map (trV ad)).toArray U := fun U hU hW => ⟨m_pre hK hP hD hS hA hE hN _ U hU hW, mXs_warm hS hW hU hAA hXs, fun z hz => va_Nc.moved hW.alike (hNc z hz)⟩
      refine vx_runSW (Ts := mTBL) ⟨hx, hb, hml, hown, hts⟩ hM (vx_cwSW q.2.2.2.2.2 hts (mgood_cons (mTBL_of hck rfl) hin (mgood_cons b2 hin (mgood_cons b4 hin (mwsX_in hin b1)))) rfl rfl rfl b6 hRy) ⟨mPcX_blind, hpre⟩ rfl hAn hsz mk_split0 (lv_room (by rw [mwords_tr]; exact c3)) hd hR
    · exact hfalse hc
  · exact hfalse hc
set_option maxHeartbeats 4000000 in
theorem sim_runL {D : va_G} {cy : Nat → ClassId} {E : mE} {call : Nat → mS → Option mS} (htr : l.stackTraces = false) (hEw : mEw E) (hcall : mCallOk l D cy E call) {A : Nat → Prop} {y : mMth} (hx : p.tables.exec = Jvm.exec) (hb : c.code = y.2.1) (hml : c.maxLocals = y.2.2.1) (hts : ∀ w ∈ mTBL, w.before args s = true) (hown : s.vm.findClass y.2.2.2.2.1 = some m.cls) (hnm : meth.name = y.1.name) (hR1 : y.2.2.2.2.2.1 ≤ R.frames) (hR2 : y.2.2.2.2.2.2 ≤ R.locals)
    (hK : va_K D mCl (mT cy) s) (hA : ∀ q, s.heap.size ≤ q → A q) (hN : mNs s) (hXs : mXs A s) (hNc : ∀ q ∈ mNc, va_Nc q.1 q.2 s) : ∀ (n : Nat) (S S' : mS), mrunL E call n S = some S' → mmeth S.1.1 = some y → S'.2.2.1 ≤ R.cells → S'.2.2.2 ≤ R.slots → ∀ (H : Heap) (locs : List Loc) (ls : Array Slot) (ad : Nat → Nat), mEx D E ad A s s.heap → va_P D mCl (mW cy ad E.length S.2.1) H → va_D A (mW cy ad E.length S.2.1) → va_S A s.heap H locs → wfH E.length S.2.1 → wfLv (E.length + S.2.1.length) S.1.2.2.1 → wfL (E.length + S.2.1.length) S.1.2.2.2 → lv_has ls y.2.2.1 (trL ad S.1.2.2.1) →
    (∀ (ad' : Nat → Nat) (H' : Heap) (locs' : List Loc) (ls' : Array Slot) (e' : mIns), agr (E.length + S.2.1.length) ad ad' → va_P D mCl (mW cy ad' E.length S'.2.1) H' → va_D A (mW cy ad' E.length S'.2.1) → va_S A s.heap H' locs' → wfH E.length S'.2.1 → wfL (E.length + S'.2.1.length) S'.1.2.2.2 → S.2.1.length ≤ S'.2.1.length → S'.1.1 = S.1.1 → mlook (mcode S'.1.1) S'.1.2.1 = some e' → mterm e' = true → lv_has ls' y.2.2.1 (trL ad' S'.1.2.2.1) → W p l e R s m args below meth c H' locs' S'.2.2.1 S'.2.2.2 Q (F0 m S'.1.2.1 ls' (S'.1.2.2.2.map (trV ad')))) →
    W p l e R s m args below meth c H locs S.2.2.1 S.2.2.2 Q (F0 m S.1.2.1 ls (S.1.2.2.2.map (trV ad))) := by
  intro n
  induction n with
  | zero => intro S S' h; cases h
  | succ n ih =>
    intro S S' h hy hc9 hs9 H locs ls ad hE hP hD hS hw hwl hws hl land
    obtain ⟨⟨j, pc, lv, st⟩, h0, nc, ns⟩ := S
    dsimp only at *
    have hmono := mrunL_mono _ _ _ h
    dsimp only at hmono
    unfold mrunL at h
    split at h
    · exact hfalse h
    · rename_i i hi
      dsimp only at hi h
      obtain ⟨k1, k2, k3⟩ := mIns_ok hy hi
      have hpc : i.1 = pc := (mlook_mem hi).2
      subst hpc
      split at h
      · rename_i ht
        cases h
        exact land ad H locs ls i agr.rf hP hD hS hw hws (Nat.le_refl _) rfl hi ht hl
      · split at h
        · split at h
          · rename_i h990
            split at h
            · exact hfalse h
            · rename_i r hr
              obtain ⟨pc2, st2⟩ := r
              exact spec_ok hx hb (hml.trans hl.1.symm) hts hown hy hR1 hR2 (Nat.le_trans hmono.1 hc9) (Nat.le_trans hmono.2 hs9) k1 k3 hr hws (fun hws2 => ih _ _ h hy hc9 hs9 H locs ls ad hE hP hD hS hw hwl hws2 hl land)
          · rename_i h990
            split at h
            · rename_i r hr
              obtain ⟨k, as, rest⟩ := r
              split at h
              · rename_i hf
                split at h
                · exact hfalse h
                · rename_i S1 hS1
                  split at h
                  · exact hfalse h
                  · rename_i v hv
                    have hm2 := mrunL_mono _ _ _ h
                    dsimp only at hm2
                    obtain ⟨hwr, a, hrun⟩ := m_runX htr hEw hcall hx hb hml hts hown hl.1 k1 k3 hK hP hD hS hA hE hN hXs hNc hw hws (by omega) hy hR1 hR2 hr hf hS1 hv ⟨Nat.le_trans hm2.1 hc9, Nat.le_trans hm2.2 hs9⟩
                    refine m_back hw hrun hS (m_AA hD hS hA) (fun ad' H1 locs1 hag hP1 hD1 hS1' hlen hw1 hwv => ?_)
                    have hk := ih _ _ h hy hc9 hs9 H1 locs1 ls ad' (hE.agr hEw (fun q hq => hag q (by omega))) hP1 hD1 hS1' hw1 (hwl.up (by dsimp only; omega)) (by
                      intro x hx9
                      rcases List.mem_append.mp hx9 with e1 | e1
                      · cases v with
                        | none => cases e1
                        | some z =>
                          rw [List.mem_singleton.mp (show x ∈ [z] from e1)]
                          exact hwv z rfl
                      · exact (hwr x e1).up (by dsimp only; omega)) (by rw [trL_agr hwl hag]; exact hl)
                      (fun ad2 H2 locs2 ls2 e2 g1 g2 g3 g4 g5 g6 g7 g8 g9 g10 g11 => land ad2 H2 locs2 ls2 e2 (hag.tr (by dsimp only; omega) g1) g2 g3 g4 g5 g6 (Nat.le_trans hlen g7) g8 g9 g10 g11)
                    dsimp only at hk
                    rw [List.map_append, map_agr hwr hag] at hk
                    have hv9 : v.toList.map (trV ad') = (v.map (trV ad')).toList := by cases v <;> rfl
                    rw [hv9] at hk
                    exact hk
              · exact hfalse h
            · split at h
              · exact hfalse h
              · rename_i r hr
                obtain ⟨k, as, rest⟩ := r
                split at h
                · rename_i hf
                  split at h
                  · exact hfalse h
                  · rename_i S1 hS1
                    split at h
                    · exact hfalse h
                    · rename_i v hv
                      have hm2 := mrunL_mono _ _ _ h
                      dsimp only at hm2
                      obtain ⟨hwr, a, hrun⟩ := m_run (met_of_run hEw hcall) hx hb hml hts hown hl.1 k1 k3 hK hP hD hS hA hE hN hw hws (by omega) hy hR1 hR2 hr hf hS1 hv ⟨Nat.le_trans hm2.1 hc9, Nat.le_trans hm2.2 hs9⟩
                      refine m_back hw hrun hS (m_AA hD hS hA) (fun ad' H1 locs1 hag hP1 hD1 hS1' hlen hw1 hwv => ?_)
                      have hk := ih _ _ h hy hc9 hs9 H1 locs1 ls ad' (hE.agr hEw (fun q hq => hag q (by omega))) hP1 hD1 hS1' hw1 (hwl.up (by dsimp only; omega)) (by
                        intro x hx9
                        rcases List.mem_append.mp hx9 with e1 | e1
                        · cases v with
                          | none => cases e1
                          | some z =>
                            rw [List.mem_singleton.mp (show x ∈ [z] from e1)]
                            exact hwv z rfl
                        · exact (hwr x e1).up (by dsimp only; omega)) (by rw [trL_agr hwl hag]; exact hl)
                        (fun ad2 H2 locs2 ls2 e2 g1 g2 g3 g4 g5 g6 g7 g8 g9 g10 g11 => land ad2 H2 locs2 ls2 e2 (hag.tr (by dsimp only; omega) g1) g2 g3 g4 g5 g6 (Nat.le_trans hlen g7) g8 g9 g10 g11)
                      dsimp only at hk
                      rw [List.map_append, map_agr hwr hag] at hk
                      have hv9 : v.toList.map (trV ad') = (v.map (trV ad')).toList := by cases v <;> rfl
                      rw [hv9] at hk
                      exact hk
                · exact hfalse h
        · split at h
          · exact hfalse h
          · rename_i S1 hS1
            have hm2 := mrunL_mono _ _ _ h
            unfold mstep at hS1
            dsimp only at hS1
            rw [hy] at hS1
            dsimp only at hS1
            split at hS1
            · rename_i r hr
              cases hS1
              obtain ⟨pc2, lv2, st2⟩ := r
              obtain ⟨w1, w2⟩ := pure_wf hr hwl hws
              exact sd_pure hx hb hr k3 hl (fun ls' hl' => ih _ _ h hy hc9 hs9 H locs ls' ad hE hP hD hS hw w1 w2 hl' land)
            · split at hS1
              · rename_i r hr
                cases hS1
                obtain ⟨pc2, st2, h2⟩ := r
                dsimp only at hm2
                refine sd_heap (h := (h0, nc, ns)) (init := decide (y.1.name = "<init>")) hx hb hts hown (fun hh => hnm.trans (of_decide_eq_true hh)) hEw k2 k3 hK hP hD hS hA hE hw hws hr ⟨Nat.le_trans hm2.1 hc9, Nat.le_trans hm2.2 hs9⟩ (fun t9 ty ht9 hty => hts _ (mTys_ok t9 ty ht9 hty)) hN (hml.trans hl.1.symm) (fun hn9 => ⟨Nat.le_trans (mIns_room hy hi hn9).1 hR1, Nat.le_trans (mIns_room hy hi hn9).2 hR2⟩) (fun ad' H' locs' hag hP' hD' hS' hw' hws' hlen => ?_)
                exact ih _ _ h hy hc9 hs9 H' locs' ls ad' (hE.agr hEw (fun q hq => hag q (by omega))) hP' hD' hS' hw' (hwl.up (by dsimp only at hlen ⊢; omega)) hws' (by rw [trL_agr hwl hag]; exact hl)
                  (fun ad2 H2 locs2 ls2 e2 g1 g2 g3 g4 g5 g6 g7 g8 g9 g10 g11 => land ad2 H2 locs2 ls2 e2 (hag.tr (by dsimp only at hlen ⊢; omega) g1) g2 g3 g4 g5 g6 (Nat.le_trans hlen g7) g8 g9 g10 g11)
              · exact hfalse hS1
end MRL
end
section
/-! ===== a method that calls an interface's: ArrayList.addAll, which asks its argument for a row ===== -/
def mAddAll : Nat := 126
def mToArr : Nat := 122
def mIf0 : String × MethodName × MethodName := mIfs.headD ("", mGc, mGc)
theorem mIf_code0 : mlook (mcode mAddAll) 0 = some (0, .aload_n 1, 0, 0, 0, 0) := by decide +kernel
theorem mIf_code1 : mlook (mcode mAddAll) 1 = some (1, .invokeinterface 42 1, 0, 999, 0, 0) := by decide +kernel
theorem mIf_link : lw_tbl[1111]? = some (.methodLink "java/util/ArrayList" 42 mIf0.2.1) := by decide +kernel
theorem mIf_sel : lw_tbl[1115]? = some (.selects "java/util/ArrayList" mIf0.2.1 mIf0.2.2) := by decide +kernel
def mTrow : mMth := (yJx4a65c_toArray_d5877, cJx4a65c_toArray_d5877, 1, (some (.array (.object "java/lang/Object"))), RJx4a65c, 3, 84)
def mTpos : Nat × Nat × Nat × Nat × Bool × Nat := (1119, 1117, 99999, 70, false, 0)
theorem mT_row : mmeth mToArr = some mTrow := by rfl
theorem mT_pos : mPos[mToArr]? = some mTpos := by rfl
theorem mT_is : mTrow.1 = mIf0.2.2 ∧ mTpos.1 ≠ 99999 ∧ mTpos.2.2.2.2.1 = false ∧ mTpos.2.2.2.2.2 = 0 ∧ mTrow.2.2.1 = 1 ∧ (mIf0.2.1.cls ≠ "java/lang/invoke/MethodHandle" ∧ mIf0.2.1.cls ≠ "java/lang/invoke/VarHandle" ∧ (parseMethodDescriptor mIf0.2.1.desc).map (fun d => d.parameters.length) = some 0) := by decide +kernel
theorem mA_cls : (mmeth mAddAll).map (fun y => (y.1.cls, y.2.2.2.2.1, y.1.name)) = some ("java/util/ArrayList", "java/util/ArrayList", "addAll") := by decide +kernel
theorem mA_cl : (mCl[1]?).map (fun c => c.1) = some "java/util/ArrayList" := by decide +kernel
section MIF
variable {p : Program} {l : Launch} {e : Env} {R : Room} {s : State} {m : MethodId} {args : Array Value} {below : List Frame} {meth : Method} {c : Code} {H : Heap} {locs : List Loc} {cells slots : Nat} {Q : State → Prop}
/-- behind a call of an interface's method -/
theorem m_back5 {D : va_G} {cy : Nat → ClassId} {E : mE} {ad : Nat → Nat} {h h' : List mO} {v : Option Value} {a : Array Value} {A : Nat → Prop} {mc ms pc : Nat} {ls : Array Slot} {st0 rest : List Value} (hw : wfH E.length h)
    (hr : va_Run5 p l e R s m args below meth c H locs cells slots mc ms (F0 m pc ls st0) rest (mQc D cy E ad h H.size h' v a) (va_A (mW cy ad E.length h) H.size)) (hS : va_S A s.heap H locs) (hAA : ∀ q, va_A (mW cy ad E.length h) H.size q → A q)
    (kk : ∀ (ad' : Nat → Nat) (H1 : Heap) (locs1 : List Loc), agr (E.length + h.length) ad ad' → va_P D mCl (mW cy ad' E.length h') H1 → va_D A (mW cy ad' E.length h') → va_S A s.heap H1 locs1 → h.length ≤ h'.length → wfH E.length h' → (∀ x, v = some x → wfV (E.length + h'.length) x) → W p l e R s m args below meth c H1 locs1 (cells + mc) (slots + ms) Q (F0 m (pc + 5) ls ((v.map (trV ad')).toList ++ rest))) : W p l e R s m args below meth c H locs cells slots Q (F0 m pc ls st0) := by
  intro T hT X
  obtain ⟨v0, st₀, t, T', L, h0, X', hL, e1, e2, ⟨⟨ad', g1, g2, g3, g4⟩, ⟨g5, g6, g7⟩, hz, hk⟩, st⟩ := hr T hT X
  cases g2
  rw [h0] at hz hk
  obtain ⟨t2, a1, b1⟩ := kk ad' T'.heap (locs ++ L) g1 (by rw [e1]; exact g3) (g4.weaken (fun k q _ hq => hAA q.1 hq))
    ⟨Nat.le_trans hS.1 (by rw [e1]; exact hz), fun q h1 h2 => by rw [e1, hk q (Nat.lt_of_lt_of_le h1 hS.1) (fun z => h2 (hAA q z))]; exact hS.2.1 q h1 h2, fun q hq => by
      rcases List.mem_append.mp hq with h9 | h9
      · exact hS.2.2 q h9
      · exact hAA _ (hL q h9)⟩ g5 g6 g7 T' rfl X'
  exact ⟨t2, st t2 a1, b1⟩
end MIF
def mrunJ (E : mE) (call : Nat → mS → Option mS) (n : Nat) (S : mS) : Option mS := if S.1.1 = mAddAll then (match mlv S.1.2.2.1 1 with
  | some (.ref c) => (match mobjE E S.2.1 c with
    | some o => if o.1 = 1 ∧ mfits mAddAll mToArr = true ∧ S.1.2.1 = 0 ∧ S.1.2.2.2 = [] then (match call n (ment mToArr [.ref c] S.2.1) with
      | some S1 => (match mretv S1 with
        | some v => mrunF E call n ((mAddAll, 6, S.1.2.2.1, v.toList), (S1.2.1, S.2.2.1 + S1.2.2.1, S.2.2.2 + S1.2.2.2))
        | none => none)
      | none => none) else none
    | none => none)
  | _ => none) else mrunF E call n S
set_option maxHeartbeats 4000000 in
theorem met_of_runJ {l : Launch} {D : va_G} {cy : Nat → ClassId} {E : mE} {call : Nat → mS → Option mS} (hEw : mEw E) (hcall : mCallOk l D cy E call) : mCallOk l D cy E (mrunJ E call) := by
  intro n k y q as h S1 v hy hq hq1 hlen hwa hwh hrun hret ad sz
  unfold mrunJ at hrun
  split at hrun
  case isFalse => exact met_of_run hEw hcall n k y q as h S1 v hy hq hq1 hlen hwa hwh hrun hret ad sz
  case isTrue hkA =>
  have hkA : k = mAddAll := hkA
  subst hkA
  split at hrun
  case h_2 => exact hfalse hrun
  rename_i c9 hc9
  split at hrun
  case h_2 => exact hfalse hrun
  rename_i o ho
  split at hrun
  case isFalse => exact hfalse hrun
  rename_i hcond
  obtain ⟨ho1, hfit, -, -⟩ := hcond
  split at hrun
  case h_2 => exact hfalse hrun
  rename_i St hSt
  split at hrun
  case h_2 => exact hfalse hrun
  rename_i vt hvt
  have hc9' : mlv (lv_args 0 as) 1 = some (.ref c9) := hc9
  have hrun' : mrunF E call n ((mAddAll, 6, lv_args 0 as, vt.toList), (St.2.1, 0 + St.2.2.1, 0 + St.2.2.2)) = some S1 := hrun
  rw [Nat.zero_add, Nat.zero_add] at hrun'
  obtain ⟨b1, b2, b3, b4, b5, b6, b7⟩ := mMeth_ok hy hq hq1
  obtain ⟨t1, t2, t3, t4, t5, t6⟩ := mT_is
  obtain ⟨d1, d2, d3, d4, d5, d6, d7⟩ := mMeth_ok mT_row mT_pos t2
  rw [if_neg (by rw [t3]; decide)] at d2
  have hmono := mrun_mono _ _ _ hrun'
  dsimp only at hmono
  have hwc : wfV (E.length + h.length) (.ref c9) := mlv_wf (lv_args_wf hwa 0) hc9'
  have hwc1 : wfL (E.length + h.length) [.ref c9] := fun z hz => by rw [List.mem_singleton.mp hz]; exact hwc
  have hcls0 := mA_cls
  rw [hy] at hcls0
  have hcls1 := Option.some.inj hcls0
  have hclsN : y.1.cls = "java/util/ArrayList" := congrArg (fun z => z.1) hcls1
  obtain ⟨cl, hcl⟩ : ∃ cl, mCl[1]? = some cl := ⟨_, rfl⟩
  have hclN : cl.1 = "java/util/ArrayList" := by
    have h9 := mA_cl
    rw [hcl] at h9
    exact Option.some.inj h9
  refine Met.ofW (cc := y.2.1) (maxL := y.2.2.1) (ret := y.2.2.2.1) b5 rfl ?_
  intro p e s m args below meth c s₁ B hml hv
  obtain ⟨rfl, hsz, hP, hK, hD0, hE, hN⟩ := hv
  have hts0 := atoms_spec (ws := mws y) B.pre
  have hts : ∀ w ∈ mTBL, w.before (as.map (trV ad)).toArray s = true := fun w hw => hts0 w (List.mem_cons_of_mem _ hw)
  have hown : s.vm.findClass y.1.cls = some m.cls := findClass_of_methodNamed B.named
  have hnm : meth.name = y.1.name := (name_of_methodNamed B.named B.method).1
  have hlocks := B.notSynchronized
  have hr := B.returns
  subst hsz
  have hD := hD0.self (sz := s.heap.size)
  have hA : ∀ q : Nat, s.heap.size ≤ q → va_A (mW cy ad E.length h) s.heap.size q := fun q hq9 => Or.inr hq9
  have hl := lv_entry (as.map (trV ad)) (n := y.2.2.1) (by rw [lg_sl_tr]; exact hlen)
  rw [lg_entry_eq]
  generalize (lg_sl (as.map (trV ad)) ++ List.replicate (y.2.2.1 - (lg_sl (as.map (trV ad))).length) Slot.unset).toArray = ls at hl ⊢
  rw [lv_args_tr] at hl
  have hin : ∀ w ∈ mTBL, w ∈ mTBL := fun _ h9 => h9
  obtain ⟨-, -, hd0⟩ := mIns_ok hy mIf_code0
  obtain ⟨-, -, hd1⟩ := mIns_ok hy mIf_code1
  have hp0 : mpure y.2.2.1 (0, .aload_n 1, 0, 0, 0, 0) (lv_args 0 as) [] = some (1, lv_args 0 as, [.ref c9]) := by
    have h9 : mlv (lv_args 0 as) (((1 : Fin 4)) : Nat) = some (.ref c9) := hc9'
    simp only [mpure, h9]
  refine sd_pure (st := []) B.exec B.bytes hp0 hd0 hl (fun ls1 hl1 => ?_)
  have hM := hcall _ _ mTrow mTpos [.ref c9] h St vt mT_row mT_pos t2 (by rw [t5]; exact Nat.le_refl _) hwc1 hwh hSt hvt ad s.heap.size
  have hRy : mTrow.2.2.2.2.2.1 + 1 ≤ y.2.2.2.2.2.1 ∧ 8 + (mTrow.2.2.1 + 11) + mTrow.2.2.2.2.2.2 ≤ y.2.2.2.2.2.2 := by
    simp only [mfits, hy, mT_row, Bool.and_eq_true, decide_eq_true_eq] at hfit
    exact ⟨by omega, by omega⟩
  have hAA : ∀ q, va_A (mW cy ad E.length h) s.heap.size q → va_A (mW cy ad E.length h) s.heap.size q := fun _ h9 => h9
  have hrc : ∃ cell : Cell, s.heap[ad c9]? = some cell ∧ cell.vm.isStatics = false ∧ s.vm.findClass cl.1 = some cell.cls := by
    rcases mobjE_or ho with ⟨-, hoE⟩ | hoW
    · obtain ⟨g1, g2⟩ := hE.1 c9 _ hoE _ (by rw [ho1]; exact hcl)
      exact va_recv (q0 := 0) hK (va_P_one g1) (by rw [ho1]; exact hcl) rfl
    · exact va_recv hK hP (by rw [ho1]; exact hcl) (mget_W (cy := cy) (ad := ad) hoW)
  rw [hclN] at hrc
  have hat : ClassAt s "java/util/ArrayList" (D.1 1) := by
    have h9 := (hK.1 1 cl hcl).2
    rw [hclN] at h9
    exact h9
  have hFw : va_Fw "java/util/ArrayList" mIf0.2.1 mTrow.1 s := by
    have h9 := hN.2 mIf0 (by decide +kernel)
    rw [t1]
    exact h9
  have hrun5 := va_runF (rest := []) (g := F0 m 1 ls1 [.ref (ad c9)]) (H := s.heap) (locs := []) (cells := 0) (slots := 0) (e := e) (below := below) (meth := meth) (R := (headSpec (mws y) (mrm y S1.2.2.1 S1.2.2.2)).room) hat (Ts := mTBL) (cc := y.2.1) (nL := y.2.2.1) (own := y.1.cls) ⟨B.exec, B.bytes, hml, hown, hts⟩ hM
    (va_cwF (own := y.1.cls) 0 hts (mgood_cons (mTBL_of (by rw [hclsN]; exact mIf_link) rfl) hin (mgood_cons (mTBL_of (by rw [t1]; exact mIf_sel) rfl) hin (mgood_cons d2 hin (mgood_cons d4 hin (mws_in hin d1))))) rfl rfl rfl hFw t6 hRy)
    (As := []) ⟨mPc_blind, hrc, m_pre (A := va_A (mW cy ad E.length h) s.heap.size) hK hP hD va_S.rf hA hE hN [.ref c9]⟩ rfl rfl hl1.1 rfl (by show 2 * 0 + 0 ≤ 8; omega) hd1 (by show 0 + _ ≤ _ ∧ 0 + _ ≤ _; rw [Nat.zero_add, Nat.zero_add]; exact hmono)
  refine m_back5 hwh hrun5 va_S.rf hAA (fun ad1 H1 locs1 hag1 hP1 hD1 hS1 hlen1 hw1 hwv1 => ?_)
  rw [Nat.zero_add, Nat.zero_add, List.append_nil]
  have hv9 : (vt.map (trV ad1)).toList = vt.toList.map (trV ad1) := by cases vt <;> rfl
  rw [hv9]
  refine sim_run (R := (headSpec (mws y) (mrm y S1.2.2.1 S1.2.2.2)).room) (A := va_A (mW cy ad E.length h) s.heap.size) hEw hcall B.exec B.bytes hml hts (b7 ▸ hown) hnm (Nat.le_refl _) (Nat.le_refl _) hK hA hN n ((mAddAll, 6, lv_args 0 as, vt.toList), St.2.1, St.2.2.1, St.2.2.2) S1 hrun' hy (Nat.le_refl _) (Nat.le_refl _) H1 locs1 ls1 ad1 (hE.agr hEw (fun q9 hq9 => hag1 q9 (by omega))) hP1 hD1 hS1 hw1 ((lv_args_wf hwa 0).up (by dsimp only; omega)) (fun z hz => by
      cases vt with
      | none => cases hz
      | some x => rw [List.mem_singleton.mp (show z ∈ [x] from hz)]; exact hwv1 x rfl) (by rw [trL_agr (lv_args_wf hwa 0) hag1]; exact hl1) ?_
  intro ad' H' locs' ls' e' hag2 hP' hD' hS' hw' hws' hlen2 hj he' ht' hl'
  have hag : agr (E.length + h.length) ad ad' := hag1.tr (by dsimp only; omega) hag2
  have hlen' : h.length ≤ S1.2.1.length := Nat.le_trans hlen1 hlen2
  have hjk : S1.1.1 = mAddAll := hj
  obtain ⟨-, -, hd⟩ := mIns_ok (by rw [hjk]; exact hy) he'
  have hpc : e'.1 = S1.1.2.1 := (mlook_mem he').2
  rw [hpc] at hd
  unfold mretv at hret
  rw [he', hjk, hy] at hret
  dsimp only at hret
  obtain ⟨⟨j1, pc1, lv1, st1⟩, h1, nc1, ns1⟩ := S1
  obtain ⟨pc2, i2, n2, a2, bb2, k2⟩ := e'
  obtain ⟨y1, y2, y3, y4, y5⟩ := y
  dsimp only at *
  have hq9 : ∀ v9 : Option Value, (∀ x, v9 = some x → wfV (E.length + h1.length) x) → ∀ t : State, t.heap = H' → s.WarmedH t.vm → mQc D cy E ad h s.heap.size h1 v9 (as.map (trV ad)).toArray s (.returned (v9.map (trV ad'))) t := by
    intro v9 hwv t ht hW
    exact ⟨⟨ad', hag, rfl, by rw [ht]; exact hP', hD'⟩, ⟨hlen', hw', hwv⟩, hS'.F ht⟩
  split at hret
  · rename_i x ty
    split at hret
    · rename_i hn; cases hret
      exact W.zret B.exec B.bytes hr hn (hq9 (some (.int x)) (fun z hz => by cases hz; trivial)) hS'.2.2 hd
    · exact hfalse hret
  · rename_i x
    cases hret
    exact W.lret B.exec B.bytes hr (hq9 (some (.long x)) (fun z hz => by cases hz; trivial)) hS'.2.2 hd
  · rename_i x
    cases hret
    exact W.dret B.exec B.bytes hr (hq9 (some (.double x)) (fun z hz => by cases hz; trivial)) hS'.2.2 hd
  · rename_i x o9
    cases hret
    exact W.aret B.exec B.bytes hr (Or.inl ⟨_, rfl⟩) (Or.inr ⟨_, rfl⟩) (hq9 (some (.ref x)) (fun z hz => by cases hz; exact hws'.h)) hS'.2.2 hd
  · rename_i x o9
    cases hret
    exact W.aret B.exec B.bytes hr (Or.inr ⟨_, rfl⟩) (Or.inr ⟨_, rfl⟩) (hq9 (some (.ref x)) (fun z hz => by cases hz; exact hws'.h)) hS'.2.2 hd
  · cases hret
    exact W.vret B.exec B.bytes hr (hq9 none (fun z hz => by cases hz)) hS'.2.2 hd
  · exact hfalse hret
/-- the machine with that method -/
def mexecJ (E : mE) : Nat → Nat → mS → Option mS
  | 0 => fun _ _ => none
  | d + 1 => mrunJ E (mexecJ E d)
theorem mexecJ_ok {l : Launch} {D : va_G} {cy : Nat → ClassId} {E : mE} (hEw : mEw E) : ∀ d : Nat, mCallOk l D cy E (mexecJ E d) := by
  intro d
  induction d with
  | zero =>
    intro n k y q as h S1 v hy hq hq1 hlen hwa hwh hrun
    cases hrun
  | succ d ih => exact met_of_runJ hEw ih
end
section
/-! ===== rows of the kit's to-paste texts (NUMBERS, COUNTS) ===== -/
theorem fa_lt (a b : Int32) : a < b ↔ a.toInt < b.toInt := Int32.lt_iff_toInt_lt
theorem fa_le (a b : Int32) : a ≤ b ↔ a.toInt ≤ b.toInt := Int32.le_iff_toInt_le
theorem fa_eq (a b : Int32) : a = b ↔ a.toInt = b.toInt := Int32.toInt_inj.symm
theorem fb_rng (x : Int32) : -2147483648 ≤ x.toInt ∧ x.toInt < 2147483648 := by
  have h1 := Int32.le_toInt x
  have h2 := Int32.toInt_lt x
  omega
theorem fb_bmod {z : Int} (h1 : -2147483648 ≤ z) (h2 : z < 2147483648) : z.bmod (2 ^ 32) = z := by
  rw [Int.bmod_eq_of_le (by omega) (by omega)]
theorem fb_addI {x y : Int32} (h1 : -2147483648 ≤ x.toInt + y.toInt) (h2 : x.toInt + y.toInt < 2147483648) : (x + y).toInt = x.toInt + y.toInt := by
  rw [Int32.toInt_add, fb_bmod h1 h2]
theorem fb_subI {x y : Int32} (h1 : -2147483648 ≤ x.toInt - y.toInt) (h2 : x.toInt - y.toInt < 2147483648) : (x - y).toInt = x.toInt - y.toInt := by
  rw [Int32.toInt_sub, fb_bmod h1 h2]
theorem fb_mulI {x y : Int32} (h1 : -2147483648 ≤ x.toInt * y.toInt) (h2 : x.toInt * y.toInt < 2147483648) : (x * y).toInt = x.toInt * y.toInt := by
  rw [Int32.toInt_mul, fb_bmod h1 h2]
theorem fb_negI {x : Int32} (h : x.toInt ≠ -2147483648) : (-x).toInt = -x.toInt := by
  have := fb_rng x
  rw [Int32.toInt_neg, fb_bmod (by omega) (by omega)]
theorem fb_ofI {z : Int} (h1 : -2147483648 ≤ z) (h2 : z < 2147483648) : (Int32.ofInt z).toInt = z := by
  rw [Int32.toInt_ofInt, fb_bmod h1 h2]
theorem fb_asI (x : Int32) : Int32.ofInt x.toInt = x := Int32.ofInt_toInt x
end
section
/-! ===== an abstract machine for the kernel: ints between bounds (counted from -2^31 on), a heap that is a function ===== -/
/-- tag (0 an int, 1 a reference, 2 null, 3 a reference to an Integer, 4 the script's head, 5 a long, 6 a double, 7 nothing), bounds -/
abbrev qV : Type := Nat × Nat × Nat
/-- 0 a row, 1 an object; its type or class; its length; its contents -/
abbrev qO : Type := Nat × Nat × Nat × (Nat → qV)
/-- heap, next place, cells and slots made -/
abbrev qW : Type := (Nat → qO) × Nat × Nat × Nat
abbrev qL : Type := Nat → qV
abbrev qI : Type := Nat × Nat × Nat × Nat × Nat × Nat × mIns
/-- the script: its length, its ints -/
abbrev qX : Type := Nat × (Nat → qV)
abbrev qT : Type := Nat × qL × List qV × qW
noncomputable def qif {α : Type} (b : Bool) (x y : α) : α := @Bool.rec (fun _ => α) y x b
noncomputable def qg {α : Type} (b : Bool) (x : Option α) : Option α := @Bool.rec (fun _ => Option α) none x b
theorem qg_some {α : Type} {b : Bool} {x : Option α} {r : α} (h : qg b x = some r) : b = true ∧ x = some r := by
  cases b
  · cases h
  · exact ⟨rfl, h⟩
theorem qif_t {α : Type} {b : Bool} {x y : α} (h : b = true) : qif b x y = x := by subst h; rfl
theorem qif_f {α : Type} {b : Bool} {x y : α} (h : b = false) : qif b x y = y := by subst h; rfl
noncomputable def qkind (z t : Nat) : Bool := qif (Nat.beq z 1) (qif (Nat.beq t 1) true (Nat.beq t 3)) (Nat.beq t z)
/-- what stays of a local ahead of one that is written -/
noncomputable def qc1 (a : qV) : qV := qif (Nat.ble 5 a.1) (7, 0, 0) a
noncomputable def qset1 (l : qL) (i : Nat) (v : qV) : qL := fun j => qif (Nat.beq j i) v (qif (Nat.beq (Nat.succ j) i) (qc1 (l j)) (l j))
noncomputable def qset2 (l : qL) (i : Nat) (v : qV) : qL := fun j => qif (Nat.beq j i) v (qif (Nat.beq j (Nat.succ i)) (7, 0, 0) (qif (Nat.beq (Nat.succ j) i) (qc1 (l j)) (l j)))
noncomputable def qput (H : Nat → qO) (a : Nat) (o : qO) : Nat → qO := fun q => qif (Nat.beq q a) o (H q)
noncomputable def qfld (f : Nat → qV) (b : Nat) (v : qV) : Nat → qV := fun j => qif (Nat.beq j b) v (f j)
noncomputable def qpush (y : Nat) (v : qV) (lv : qL) (st : List qV) (w : qW) : Option qT := some (y, lv, v :: st, w)
noncomputable def qload (x y z : Nat) (lv : qL) (st : List qV) (w : qW) : Option qT := qg (qkind z (lv x).1) (some (y, lv, lv x :: st, w))
noncomputable def qstore (nL x y z : Nat) (lv : qL) (st : List qV) (w : qW) : Option qT := match st with
  | [] => none
  | v :: r => qg (qkind z v.1) (qif (Nat.ble 5 z) (qg (Nat.ble (Nat.add x 2) nL) (some (y, qset2 lv x v, r, w))) (qg (Nat.ble (Nat.succ x) nL) (some (y, qset1 lv x v, r, w))))
noncomputable def qiinc (nL x y z : Nat) (lv : qL) (st : List qV) (w : qW) : Option qT := qg (Nat.beq (lv x).1 0) (qg (Nat.ble (Nat.succ x) nL) (qg (Nat.ble 2147483648 (Nat.add (lv x).2.1 z)) (qg (Nat.ble (Nat.add (lv x).2.2 z) 6442450943) (some (y, qset1 lv x (0, Nat.sub (Nat.add (lv x).2.1 z) 2147483648, Nat.sub (Nat.add (lv x).2.2 z) 2147483648), st, w)))))
noncomputable def qadd (y : Nat) (lv : qL) (st : List qV) (w : qW) : Option qT := match st with
  | a :: b :: r => qg (Nat.beq a.1 0) (qg (Nat.beq b.1 0) (qg (Nat.ble 2147483648 (Nat.add b.2.1 a.2.1)) (qg (Nat.ble (Nat.add b.2.2 a.2.2) 6442450943) (some (y, lv, (0, Nat.sub (Nat.add b.2.1 a.2.1) 2147483648, Nat.sub (Nat.add b.2.2 a.2.2) 2147483648) :: r, w)))))
  | _ => none
noncomputable def qsub (y : Nat) (lv : qL) (st : List qV) (w : qW) : Option qT := match st with
  | a :: b :: r => qg (Nat.beq a.1 0) (qg (Nat.beq b.1 0) (qg (Nat.ble a.2.2 (Nat.add b.2.1 2147483648)) (qg (Nat.ble (Nat.add b.2.2 2147483648) (Nat.add 4294967295 a.2.1)) (some (y, lv, (0, Nat.sub (Nat.add b.2.1 2147483648) a.2.2, Nat.sub (Nat.add b.2.2 2147483648) a.2.1) :: r, w)))))
  | _ => none
/-- the script's head, cut to five bits -/
noncomputable def qand (y : Nat) (lv : qL) (st : List qV) (w : qW) : Option qT := match st with
  | a :: b :: r => qg (Nat.beq a.1 0) (qg (Nat.beq a.2.1 2147483679) (qg (Nat.beq a.2.2 2147483679) (qg (Nat.beq b.1 4) (qg (Nat.ble b.2.1 31) (some (y, lv, (0, Nat.add b.2.1 2147483648, Nat.add b.2.1 2147483648) :: r, w))))))
  | _ => none
noncomputable def qdiv (y : Nat) (lv : qL) (st : List qV) (w : qW) : Option qT := match st with
  | a :: b :: r => qg (Nat.beq a.1 0) (qg (Nat.beq b.1 0) (qg (Nat.beq a.2.1 a.2.2) (qg (Nat.ble 2147483649 a.2.1) (qg (Nat.ble 2147483648 b.2.1) (some (y, lv, (0, Nat.add (Nat.div (Nat.sub b.2.1 2147483648) (Nat.sub a.2.1 2147483648)) 2147483648, Nat.add (Nat.div (Nat.sub b.2.2 2147483648) (Nat.sub a.2.1 2147483648)) 2147483648) :: r, w))))))
  | _ => none
noncomputable def qrem (y : Nat) (lv : qL) (st : List qV) (w : qW) : Option qT := match st with
  | a :: b :: r => qg (Nat.beq a.1 0) (qg (Nat.beq b.1 0) (qg (Nat.beq a.2.1 a.2.2) (qg (Nat.ble 2147483649 a.2.1) (qg (Nat.ble 2147483648 b.2.1) (some (y, lv, qif (Nat.beq b.2.1 b.2.2) (0, Nat.add (Nat.mod (Nat.sub b.2.1 2147483648) (Nat.sub a.2.1 2147483648)) 2147483648, Nat.add (Nat.mod (Nat.sub b.2.1 2147483648) (Nat.sub a.2.1 2147483648)) 2147483648) (0, 2147483648, Nat.sub a.2.1 1) :: r, w))))))
  | _ => none
/-- a half -/
noncomputable def qshr (y : Nat) (lv : qL) (st : List qV) (w : qW) : Option qT := match st with
  | a :: b :: r => qg (Nat.beq a.1 0) (qg (Nat.beq b.1 0) (qg (Nat.beq a.2.1 2147483649) (qg (Nat.beq a.2.2 2147483649) (qg (Nat.ble 2147483648 b.2.1) (some (y, lv, (0, Nat.add (Nat.div (Nat.sub b.2.1 2147483648) 2) 2147483648, Nat.add (Nat.div (Nat.sub b.2.2 2147483648) 2) 2147483648) :: r, w))))))
  | _ => none
noncomputable def qladd (y : Nat) (lv : qL) (st : List qV) (w : qW) : Option qT := match st with
  | a :: b :: r => qg (Nat.beq a.1 5) (qg (Nat.beq b.1 5) (some (y, lv, (5, Nat.mod (Nat.add b.2.1 a.2.1) 18446744073709551616, 0) :: r, w)))
  | _ => none
noncomputable def qlmul (y : Nat) (lv : qL) (st : List qV) (w : qW) : Option qT := match st with
  | a :: b :: r => qg (Nat.beq a.1 5) (qg (Nat.beq b.1 5) (some (y, lv, (5, Nat.mod (Nat.mul b.2.1 a.2.1) 18446744073709551616, 0) :: r, w)))
  | _ => none
noncomputable def qi2l (y : Nat) (lv : qL) (st : List qV) (w : qW) : Option qT := match st with
  | a :: r => qg (Nat.beq a.1 0) (qg (Nat.beq a.2.1 a.2.2) (some (y, lv, (5, qif (Nat.ble 2147483648 a.2.1) (Nat.sub a.2.1 2147483648) (Nat.sub (Nat.add a.2.1 18446744073709551616) 2147483648), 0) :: r, w)))
  | _ => none
noncomputable def qlcmp (y : Nat) (lv : qL) (st : List qV) (w : qW) : Option qT := match st with
  | a :: b :: r => qg (Nat.beq a.1 5) (qg (Nat.beq b.1 5) (qg (Nat.beq a.2.1 b.2.1) (some (y, lv, (0, 2147483648, 2147483648) :: r, w))))
  | _ => none
noncomputable def qdup (y : Nat) (lv : qL) (st : List qV) (w : qW) : Option qT := match st with
  | a :: r => qg (Nat.ble a.1 3) (some (y, lv, a :: a :: r, w))
  | _ => none
noncomputable def qpop (y : Nat) (lv : qL) (st : List qV) (w : qW) : Option qT := match st with
  | a :: r => qg (Nat.ble a.1 3) (some (y, lv, r, w))
  | _ => none
noncomputable def qdupx (y : Nat) (lv : qL) (st : List qV) (w : qW) : Option qT := match st with
  | a :: b :: r => qg (Nat.ble a.1 3) (qg (Nat.ble b.1 3) (some (y, lv, a :: b :: a :: r, w)))
  | _ => none
/-- a comparison: 0 less, 1 greater, 2 equal; where to go if so, and if not -/
noncomputable def qcmp (z l1 h1 l2 h2 x y : Nat) : Option Nat := qif (Nat.beq z 0) (qif (Nat.ble (Nat.succ h1) l2) (some x) (qg (Nat.ble h2 l1) (some y))) (qif (Nat.beq z 1) (qif (Nat.ble (Nat.succ h2) l1) (some x) (qg (Nat.ble h1 l2) (some y))) (qif (Nat.ble (Nat.succ h1) l2) (some y) (qif (Nat.ble (Nat.succ h2) l1) (some y) (qg (Nat.beq l1 h1) (qg (Nat.beq l2 h2) (qg (Nat.beq l1 l2) (some x)))))))
noncomputable def qifc (x y z : Nat) (lv : qL) (st : List qV) (w : qW) : Option qT := match st with
  | a :: r => qg (Nat.beq a.1 0) (match qcmp z a.2.1 a.2.2 2147483648 2147483648 x y with
    | some t => some (t, lv, r, w)
    | none => none)
  | _ => none
noncomputable def qicmp (x y z : Nat) (lv : qL) (st : List qV) (w : qW) : Option qT := match st with
  | a :: b :: r => qg (Nat.beq a.1 0) (qg (Nat.beq b.1 0) (match qcmp z b.2.1 b.2.2 a.2.1 a.2.2 x y with
    | some t => some (t, lv, r, w)
    | none => none))
  | _ => none
noncomputable def qacmp (x : Nat) (lv : qL) (st : List qV) (w : qW) : Option qT := match st with
  | a :: b :: r => qg (Nat.beq a.1 1) (qg (Nat.beq b.1 1) (qg (Nat.beq a.2.1 b.2.1) (some (x, lv, r, w))))
  | _ => none
noncomputable def qswitch (e : mIns) (lv : qL) (st : List qV) (w : qW) : Option qT := match st with
  | a :: r => qg (Nat.beq a.1 0) (qg (Nat.beq a.2.1 a.2.2) (match mpure 0 e [] [.int (Int32.ofInt (Int.subNatNat a.2.1 2147483648))] with
    | some t => some (t.1, lv, r, w)
    | none => none))
  | _ => none
noncomputable def qgetf (X x y z : Nat) (lv : qL) (st : List qV) (w : qW) : Option qT := match st with
  | a :: r => qg (Nat.beq a.1 1) (qg (Nat.ble X a.2.1) (qg (Nat.ble (Nat.succ a.2.1) w.2.1) (match w.1 a.2.1 with
    | (k, c, n, f) => qg (Nat.beq k 1) (qg (Nat.beq c z) (qg (Nat.ble (Nat.succ x) n) (some (y, lv, f x :: r, w)))))))
  | _ => none
/-- kinds of fields: 0 an int, 1 a boolean, 2 a reference -/
noncomputable def qfit (u : Nat) (v : qV) : Bool := qif (Nat.beq u 0) (Nat.beq v.1 0) (qif (Nat.beq u 1) (qif (Nat.beq v.1 0) (qif (Nat.ble 2147483648 v.2.1) (Nat.ble v.2.2 2147483649) false) false) (qif (Nat.beq u 2) (qif (Nat.beq v.1 1) true (Nat.beq v.1 2)) false))
noncomputable def qputf (X x y z u : Nat) (lv : qL) (st : List qV) (w : qW) : Option qT := match st with
  | v :: a :: r => qg (qfit u v) (qg (Nat.beq a.1 1) (qg (Nat.ble X a.2.1) (qg (Nat.ble (Nat.succ a.2.1) w.2.1) (match w.1 a.2.1 with
    | (k, c, n, f) => qg (Nat.beq k 1) (qg (Nat.beq c z) (qg (Nat.ble (Nat.succ x) n) (some (y, lv, r, (qput w.1 a.2.1 (1, c, n, qfld f x v), w.2)))))))))
  | _ => none
/-- an element of a row -/
noncomputable def qald (X : Nat) (bx : qX) (t y : Nat) (lv : qL) (st : List qV) (w : qW) : Option qT := match st with
  | i :: a :: r => qg (Nat.beq i.1 0) (qg (Nat.beq a.1 1) (qg (Nat.ble 2147483648 i.2.1) (qif (Nat.ble X a.2.1) (qg (Nat.ble (Nat.succ a.2.1) w.2.1) (qg (Nat.beq i.2.1 i.2.2) (match w.1 a.2.1 with
      | (k, c, n, f) => qg (Nat.beq k 0) (qg (Nat.beq c t) (qg (Nat.ble (Nat.succ (Nat.sub i.2.1 2147483648)) n) (some (y, lv, f (Nat.sub i.2.1 2147483648) :: r, w)))))))
    (qif (Nat.beq t 0) (qg (Nat.beq a.2.1 0) (qg (Nat.beq i.2.1 i.2.2) (qg (Nat.ble (Nat.succ (Nat.sub i.2.1 2147483648)) bx.1) (some (y, lv, bx.2 (Nat.sub i.2.1 2147483648) :: r, w)))))
    (qg (Nat.beq t 3) (qg (Nat.beq a.2.1 3) (qg (Nat.ble i.2.2 2147483903) (some (y, lv, (3, 0, 0) :: r, w)))))))))
  | _ => none
noncomputable def qel (t : Nat) (v : qV) : Bool := qif (Nat.beq t 0) (Nat.beq v.1 0) (qif (Nat.beq t 1) (Nat.beq v.1 5) (qif (Nat.beq t 3) (Nat.beq v.1 3) false))
noncomputable def qast (X t y : Nat) (lv : qL) (st : List qV) (w : qW) : Option qT := match st with
  | v :: i :: a :: r => qg (qel t v) (qg (Nat.beq i.1 0) (qg (Nat.beq i.2.1 i.2.2) (qg (Nat.beq a.1 1) (qg (Nat.ble 2147483648 i.2.1) (qg (Nat.ble X a.2.1) (qg (Nat.ble (Nat.succ a.2.1) w.2.1) (match w.1 a.2.1 with
    | (k, c, n, f) => qg (Nat.beq k 0) (qg (Nat.beq c t) (qg (Nat.ble (Nat.succ (Nat.sub i.2.1 2147483648)) n) (some (y, lv, r, (qput w.1 a.2.1 (0, c, n, qfld f (Nat.sub i.2.1 2147483648) v), w.2))))))))))))
  | _ => none
noncomputable def qlen (X : Nat) (bx : qX) (y : Nat) (lv : qL) (st : List qV) (w : qW) : Option qT := match st with
  | a :: r => qg (Nat.beq a.1 1) (qif (Nat.ble X a.2.1) (qg (Nat.ble (Nat.succ a.2.1) w.2.1) (match w.1 a.2.1 with
      | (k, c, n, _) => qg (Nat.beq k 0) (qg (Nat.ble c 3) (qg (Nat.ble n 2147483647) (some (y, lv, (0, Nat.add n 2147483648, Nat.add n 2147483648) :: r, w))))))
    (qif (Nat.beq a.2.1 0) (qg (Nat.ble bx.1 2147483647) (some (y, lv, (0, Nat.add bx.1 2147483648, Nat.add bx.1 2147483648) :: r, w))) (qg (Nat.beq a.2.1 2) (some (y, lv, (0, 2147483648, 2147483648) :: r, w)))))
  | _ => none
def qdefT (ty : FieldType) : qV := match ty with
  | .object _ | .array _ => (2, 0, 0)
  | .long => (5, 0, 0)
  | .double => (6, 0, 0)
  | .float => (7, 0, 0)
  | _ => (0, 2147483648, 2147483648)
def qdef (a : Nat) : Nat → qV := fun j => qdefT (mfty a j)
noncomputable def qnew (x y z : Nat) (lv : qL) (st : List qV) (w : qW) : Option qT := some (y, lv, (1, w.2.1, 0) :: st, (qput w.1 w.2.1 (1, z, x, qdef z), Nat.succ w.2.1, Nat.succ w.2.2.1, Nat.add w.2.2.2 x))
noncomputable def qdefR (t : Nat) : qV := qif (Nat.beq t 0) (0, 2147483648, 2147483648) (qif (Nat.beq t 1) (5, 0, 0) (qif (Nat.beq t 2) (6, 0, 0) (2, 0, 0)))
noncomputable def qnewa (y z : Nat) (lv : qL) (st : List qV) (w : qW) : Option qT := match st with
  | a :: r => qg (Nat.beq a.1 0) (qg (Nat.beq a.2.1 a.2.2) (qg (Nat.ble 2147483648 a.2.1) (qg (Nat.ble a.2.1 2147500000) (some (y, lv, (1, w.2.1, 0) :: r, (qput w.1 w.2.1 (0, z, Nat.sub a.2.1 2147483648, fun _ => qdefR z), Nat.succ w.2.1, Nat.succ w.2.2.1, Nat.add w.2.2.2 (Nat.sub a.2.1 2147483648)))))))
  | _ => none
/-- a class object of a row of references -/
noncomputable def qgetc (X x y : Nat) (lv : qL) (st : List qV) (w : qW) : Option qT := match st with
  | a :: r => qg (Nat.beq a.1 1) (qg (Nat.ble X a.2.1) (qg (Nat.ble (Nat.succ a.2.1) w.2.1) (match w.1 a.2.1 with
    | (k, c, _, _) => qg (Nat.beq k 0) (qg (Nat.beq c 3) (qg (Nat.ble r.length 4) (some (y, lv, (1, x, 0) :: r, w)))))))
  | _ => none
/-- elements that can be copied -/
noncomputable def qall (f : Nat → qV) (sp : Nat) (n : Nat) : Bool := @Nat.rec (fun _ => Bool) true (fun i ih => qif (qif (Nat.beq (f (Nat.add sp i)).1 3) true (Nat.beq (f (Nat.add sp i)).1 2)) ih false) n
/-- n elements of the row s, from sp on, into the row d, from dp on -/
noncomputable def qcopy1 (X y n dp sp d s : Nat) (lv : qL) (r : List qV) (w : qW) : Option qT := qg (Nat.ble X d) (qg (Nat.ble X s) (qg (Nat.ble (Nat.succ d) w.2.1) (qg (Nat.ble (Nat.succ s) w.2.1) (qg (Nat.ble r.length 4) (match w.1 s, w.1 d with
    | (ks, cs, ns, fs), (kd, cd, nd, fd) => qg (Nat.beq ks 0) (qg (Nat.beq cs 3) (qg (Nat.beq kd 0) (qg (Nat.beq cd 3) (qg (Nat.ble (Nat.add sp n) ns) (qg (Nat.ble (Nat.add dp n) nd) (qg (qall fs sp n) (some (y, lv, r, (qput w.1 d (0, cd, nd, fun j => qif (Nat.ble dp j) (qif (Nat.ble (Nat.succ j) (Nat.add dp n)) (fs (Nat.add sp (Nat.sub j dp))) (fd j)) (fd j)), w.2))))))))))))))
noncomputable def qcopy (X y : Nat) (lv : qL) (st : List qV) (w : qW) : Option qT := match st with
  | n :: dp :: d :: sp :: s :: r => qg (Nat.beq n.1 0) (qg (Nat.beq dp.1 0) (qg (Nat.beq sp.1 0) (qg (Nat.beq n.2.1 n.2.2) (qg (Nat.beq dp.2.1 dp.2.2) (qg (Nat.beq sp.2.1 sp.2.2) (qg (Nat.ble 2147483648 n.2.1) (qg (Nat.ble 2147483648 dp.2.1) (qg (Nat.ble 2147483648 sp.2.1) (qg (Nat.beq d.1 1) (qg (Nat.beq s.1 1) (qcopy1 X y (Nat.sub n.2.1 2147483648) (Nat.sub dp.2.1 2147483648) (Nat.sub sp.2.1 2147483648) d.2.1 s.2.1 lv r w)))))))))))
  | _ => none
/-- one instruction that calls nothing -/
noncomputable def qstep (X : Nat) (bx : qX) (nL op x y z u : Nat) (e : mIns) (lv : qL) (st : List qV) (w : qW) : Option qT :=
  qif (Nat.ble op 18)
    (qif (Nat.ble op 8)
      (qif (Nat.ble op 4)
        (qif (Nat.ble op 2) (qif (Nat.beq op 1) (qpush y (0, x, x) lv st w) (qif (Nat.beq op 2) (qpush y (5, x, 0) lv st w) none))
          (qif (Nat.beq op 3) (qpush y (6, 0, 0) lv st w) (qload x y z lv st w)))
        (qif (Nat.ble op 6) (qif (Nat.beq op 5) (qstore nL x y z lv st w) (qiinc nL x y z lv st w)) (qif (Nat.beq op 7) (qadd y lv st w) (qsub y lv st w))))
      (qif (Nat.ble op 13)
        (qif (Nat.ble op 11) (qif (Nat.beq op 10) (qand y lv st w) (qif (Nat.beq op 11) (qdiv y lv st w) none)) (qif (Nat.beq op 12) (qrem y lv st w) (qshr y lv st w)))
        (qif (Nat.ble op 16) (qif (Nat.beq op 14) (qladd y lv st w) (qif (Nat.beq op 15) (qlmul y lv st w) (qi2l y lv st w))) (qif (Nat.beq op 17) (qlcmp y lv st w) (qdup y lv st w)))))
    (qif (Nat.ble op 28)
      (qif (Nat.ble op 23)
        (qif (Nat.ble op 20) (qif (Nat.beq op 19) (qpop y lv st w) (qdupx y lv st w)) (qif (Nat.beq op 21) (some (x, lv, st, w)) (qif (Nat.beq op 22) (qifc x y z lv st w) (qicmp x y z lv st w))))
        (qif (Nat.ble op 25) (qif (Nat.beq op 24) (qacmp x lv st w) (qswitch e lv st w)) (qif (Nat.beq op 27) (qgetf X x y z lv st w) (qif (Nat.beq op 28) (qputf X x y z u lv st w) none))))
      (qif (Nat.ble op 33)
        (qif (Nat.ble op 30) (qif (Nat.beq op 29) (qald X bx x y lv st w) (qast X x y lv st w)) (qif (Nat.beq op 31) (qlen X bx y lv st w) (qif (Nat.beq op 32) (qnew x y z lv st w) (qnewa y z lv st w))))
        (qif (Nat.beq op 36) (qpush y (1, x, 0) lv st w) (qif (Nat.beq op 37) (qcopy X y lv st w) (qif (Nat.beq op 38) (qgetc X x y lv st w) none)))))
/-- what an instruction is for it: a number, operands -/
def qbias (x : Int32) : Nat := (x.toInt + 2147483648).toNat
def qfk (ty : FieldType) : Nat := match ty with
  | .int => 0
  | .boolean => 1
  | .object _ => 2
  | .array _ => 2
  | _ => 7
def qenc (e : mIns) : Nat × Nat × Nat × Nat × Nat := match e.2.1 with
  | .iconst n => (1, qbias (Int32.ofInt n), e.1 + 1, 0, 0)
  | .bipush n => (1, qbias (Int8.ofInt n).toInt32, e.1 + 2, 0, 0)
  | .sipush n => (1, qbias (Int16.ofInt n).toInt32, e.1 + 3, 0, 0)
  | .lconst n => (2, (n : Nat), e.1 + 1, 0, 0)
  | .dconst n => if (n : Nat) = 0 then (3, 0, e.1 + 1, 0, 0) else (99, 0, 0, 0, 0)
  | .iload_n k => (4, (k : Nat), e.1 + 1, 0, 0)
  | .iload i => (4, i, e.1 + 2, 0, 0)
  | .lload_n k => (4, (k : Nat), e.1 + 1, 5, 0)
  | .lload i => (4, i, e.1 + 2, 5, 0)
  | .aload_n k => (4, (k : Nat), e.1 + 1, 1, 0)
  | .aload i => (4, i, e.1 + 2, 1, 0)
  | .dload_n k => (4, (k : Nat), e.1 + 1, 6, 0)
  | .dload i => (4, i, e.1 + 2, 6, 0)
  | .istore_n k => (5, (k : Nat), e.1 + 1, 0, 0)
  | .istore i => (5, i, e.1 + 2, 0, 0)
  | .lstore_n k => (5, (k : Nat), e.1 + 1, 5, 0)
  | .lstore i => (5, i, e.1 + 2, 5, 0)
  | .astore_n k => (5, (k : Nat), e.1 + 1, 1, 0)
  | .astore i => (5, i, e.1 + 2, 1, 0)
  | .dstore_n k => (5, (k : Nat), e.1 + 1, 6, 0)
  | .dstore i => (5, i, e.1 + 2, 6, 0)
  | .iinc i n => (6, i, e.1 + 3, qbias (Int32.ofInt n), 0)
  | .iadd => (7, 0, e.1 + 1, 0, 0)
  | .isub => (8, 0, e.1 + 1, 0, 0)
  | .iand => (10, 0, e.1 + 1, 0, 0)
  | .idiv => (11, 0, e.1 + 1, 0, 0)
  | .irem => (12, 0, e.1 + 1, 0, 0)
  | .ishr => (13, 0, e.1 + 1, 0, 0)
  | .ladd => (14, 0, e.1 + 1, 0, 0)
  | .lmul => (15, 0, e.1 + 1, 0, 0)
  | .i2l => (16, 0, e.1 + 1, 0, 0)
  | .lcmp => (17, 0, e.1 + 1, 0, 0)
  | .dup => (18, 0, e.1 + 1, 0, 0)
  | .pop => (19, 0, e.1 + 1, 0, 0)
  | .dup_x1 => (20, 0, e.1 + 1, 0, 0)
  | .goto off => if mjmp e.1 off = true then (21, mtgt e.1 off, 0, 0, 0) else (99, 0, 0, 0, 0)
  | .ifCond cd off => if mjmp e.1 off = true then (match cd with
    | .lt => (22, mtgt e.1 off, e.1 + 3, 0, 0)
    | .ge => (22, e.1 + 3, mtgt e.1 off, 0, 0)
    | .gt => (22, mtgt e.1 off, e.1 + 3, 1, 0)
    | .le => (22, e.1 + 3, mtgt e.1 off, 1, 0)
    | .eq => (22, mtgt e.1 off, e.1 + 3, 2, 0)
    | .ne => (22, e.1 + 3, mtgt e.1 off, 2, 0)) else (99, 0, 0, 0, 0)
  | .if_icmp cd off => if mjmp e.1 off = true then (match cd with
    | .lt => (23, mtgt e.1 off, e.1 + 3, 0, 0)
    | .ge => (23, e.1 + 3, mtgt e.1 off, 0, 0)
    | .gt => (23, mtgt e.1 off, e.1 + 3, 1, 0)
    | .le => (23, e.1 + 3, mtgt e.1 off, 1, 0)
    | .eq => (23, mtgt e.1 off, e.1 + 3, 2, 0)
    | .ne => (23, e.1 + 3, mtgt e.1 off, 2, 0)) else (99, 0, 0, 0, 0)
  | .if_acmp .eq off => if mjmp e.1 off = true then (24, mtgt e.1 off, 0, 0, 0) else (99, 0, 0, 0, 0)
  | .if_acmp .ne off => if mjmp e.1 off = true then (24, e.1 + 3, 0, 0, 0) else (99, 0, 0, 0, 0)
  | .tableswitch _ _ _ _ => (25, 0, 0, 0, 0)
  | .lookupswitch _ _ => (25, 0, 0, 0, 0)
  | .getfield _ => if (mCl[e.2.2.2.1]?).isSome = true then (27, e.2.2.2.2.1, e.1 + 3, e.2.2.2.1, 0) else (99, 0, 0, 0, 0)
  | .putfield _ => if (mCl[e.2.2.2.1]?).isSome = true then (28, e.2.2.2.2.1, e.1 + 3, e.2.2.2.1, qfk (mfty e.2.2.2.1 e.2.2.2.2.1)) else (99, 0, 0, 0, 0)
  | .iaload => (29, 0, e.1 + 1, 0, 0)
  | .laload => (29, 1, e.1 + 1, 0, 0)
  | .aaload => (29, 3, e.1 + 1, 0, 0)
  | .iastore => (30, 0, e.1 + 1, 0, 0)
  | .lastore => (30, 1, e.1 + 1, 0, 0)
  | .aastore => (30, 3, e.1 + 1, 0, 0)
  | .arraylength => (31, 0, e.1 + 1, 0, 0)
  | .new _ => if e.2.2.2.1 = 995 then (46, e.2.2.2.2.1, 0, 0, 0) else (match mCl[e.2.2.2.1]? with
    | some c => if (List.range c.2.2).all (fun j => decide (mfty e.2.2.2.1 j ≠ .float)) = true then (32, c.2.2, e.1 + 3, e.2.2.2.1, 0) else (99, 0, 0, 0, 0)
    | none => (99, 0, 0, 0, 0))
  | .newarray ty => if e.2.2.2.1 ≤ 2 ∧ mTys[e.2.2.2.1]? = some (newarray.typeOf ty) then (33, 0, e.1 + 2, e.2.2.2.1, 0) else (99, 0, 0, 0, 0)
  | .anewarray _ => if e.2.2.2.1 = 3 ∧ mTys[3]? = some (.object "java/lang/Object") ∧ Cond.arrayOver (.object "java/lang/Object") ∈ mXw then (33, 0, e.1 + 3, 3, 0) else (99, 0, 0, 0, 0)
  | .ldc _ => if e.2.2.1 = 0 then (1, qbias (Int32.ofNat e.2.2.2.1), e.1 + 2, 0, 0) else (if e.2.2.1 = 1 then (match mMir[e.2.2.2.1]? with
    | some z => (36, z.2, e.1 + 2, 0, 0)
    | none => (99, 0, 0, 0, 0)) else (99, 0, 0, 0, 0))
  | .ldc2_w _ => if e.2.2.1 = 0 then (2, e.2.2.2.1, e.1 + 3, 0, 0) else (99, 0, 0, 0, 0)
  | .getstatic _ => if e.2.2.1 = 0 then (match mStat[e.2.2.2.1]? with
    | some z => (match z.2.2.2 with
      | .int x => (1, qbias x, e.1 + 3, 0, 0)
      | .ref q => (36, q, e.1 + 3, 0, 0)
      | _ => (99, 0, 0, 0, 0))
    | none => (99, 0, 0, 0, 0)) else (99, 0, 0, 0, 0)
  | .invokevirtual _ => if e.2.2.2.1 = 994 then (match mMir[0]? with
    | some z => if z.1 = "[Ljava/lang/Object;" ∧ mTys[3]? = some (.object "java/lang/Object") then (38, z.2, e.1 + 3, 0, 0) else (99, 0, 0, 0, 0)
    | none => (99, 0, 0, 0, 0)) else (40, e.2.2.2.1, e.1 + 3, 0, 2)
  | .invokespecial _ => if e.2.2.2.1 = 998 then (41, 0, e.1 + 3, 0, 0) else (40, e.2.2.2.1, e.1 + 3, 0, 1)
  | .invokestatic _ => if e.2.2.2.1 = 993 then (if mTys[3]? = some (.object "java/lang/Object") ∧ mcast 0 "java/lang/Object" = true then (37, 0, e.1 + 3, 0, 0) else (99, 0, 0, 0, 0)) else (if e.2.2.2.1 = 997 then (42, 0, e.1 + 3, 0, 0) else (if e.2.2.2.1 = 996 then (43, 0, e.1 + 3, 0, 0) else (40, e.2.2.2.1, e.1 + 3, 0, 0)))
  | .ireturn => (45, 0, 0, 0, 0)
  | .areturn => (45, 0, 0, 1, 0)
  | .lreturn => (45, 0, 0, 5, 0)
  | .dreturn => (45, 0, 0, 6, 0)
  | .return_ => (45, 0, 0, 9, 0)
  | _ => (99, 0, 0, 0, 0)
end
section
/-! ===== what an abstract thing stands for ===== -/
theorem qif_beq {α : Type} (a b : Nat) (x y : α) : qif (Nat.beq a b) x y = if a = b then x else y := by
  cases hb : Nat.beq a b
  · rw [if_neg (Nat.ne_of_beq_eq_false hb)]; rfl
  · rw [if_pos (Nat.eq_of_beq_eq_true hb)]; rfl
theorem qif_ble {α : Type} (a b : Nat) (x y : α) : qif (Nat.ble a b) x y = if a ≤ b then x else y := by
  cases hb : Nat.ble a b
  · rw [if_neg (fun h => by rw [Nat.ble_eq_true_of_le h] at hb; cases hb)]; rfl
  · rw [if_pos (Nat.le_of_ble_eq_true hb)]; rfl
theorem qg_beq {α : Type} {a b : Nat} {x : Option α} {r : α} (h : qg (Nat.beq a b) x = some r) : a = b ∧ x = some r := ⟨Nat.eq_of_beq_eq_true (qg_some h).1, (qg_some h).2⟩
theorem qg_ble {α : Type} {a b : Nat} {x : Option α} {r : α} (h : qg (Nat.ble a b) x = some r) : a ≤ b ∧ x = some r := ⟨Nat.le_of_ble_eq_true (qg_some h).1, (qg_some h).2⟩
def qR (E : mE) (a : qV) (v : Value) : Prop := match a.1 with
  | 0 => ∃ x : Int32, v = .int x ∧ (a.2.1 : Int) ≤ x.toInt + 2147483648 ∧ x.toInt + 2147483648 ≤ (a.2.2 : Int)
  | 1 => v = .ref a.2.1
  | 2 => v = .null
  | 3 => ∃ (q : Nat) (f : List Value), v = .ref q ∧ q < E.length ∧ E[q]? = some (.inr (0, f))
  | 4 => ∃ x : Int32, v = .int x ∧ x &&& 31 = Int32.ofNat a.2.1
  | 5 => v = .long (Int64.ofNat a.2.1)
  | 6 => ∃ x : UInt64, v = .double x
  | _ => False
theorem qR_int {E : mE} {a : qV} {v : Value} (h : qR E a v) (ht : a.1 = 0) : ∃ x : Int32, v = .int x ∧ (a.2.1 : Int) ≤ x.toInt + 2147483648 ∧ x.toInt + 2147483648 ≤ (a.2.2 : Int) := by
  unfold qR at h; rw [ht] at h; exact h
theorem qR_ref {E : mE} {a : qV} {v : Value} (h : qR E a v) (ht : a.1 = 1) : v = .ref a.2.1 := by
  unfold qR at h; rw [ht] at h; exact h
theorem qR_null {E : mE} {a : qV} {v : Value} (h : qR E a v) (ht : a.1 = 2) : v = .null := by
  unfold qR at h; rw [ht] at h; exact h
theorem qR_box {E : mE} {a : qV} {v : Value} (h : qR E a v) (ht : a.1 = 3) : ∃ (q : Nat) (f : List Value), v = .ref q ∧ q < E.length ∧ E[q]? = some (.inr (0, f)) := by
  unfold qR at h; rw [ht] at h; exact h
theorem qR_head {E : mE} {a : qV} {v : Value} (h : qR E a v) (ht : a.1 = 4) : ∃ x : Int32, v = .int x ∧ x &&& 31 = Int32.ofNat a.2.1 := by
  unfold qR at h; rw [ht] at h; exact h
theorem qR_long {E : mE} {a : qV} {v : Value} (h : qR E a v) (ht : a.1 = 5) : v = .long (Int64.ofNat a.2.1) := by
  unfold qR at h; rw [ht] at h; exact h
theorem qR_dbl {E : mE} {a : qV} {v : Value} (h : qR E a v) (ht : a.1 = 6) : ∃ x : UInt64, v = .double x := by
  unfold qR at h; rw [ht] at h; exact h
theorem qR_mkI {E : mE} {lo hi : Nat} {x : Int32} (h1 : (lo : Int) ≤ x.toInt + 2147483648) (h2 : x.toInt + 2147483648 ≤ (hi : Int)) : qR E (0, lo, hi) (.int x) := ⟨x, rfl, h1, h2⟩
theorem qR_mkL {E : mE} {n m : Nat} : qR E (5, n, m) (.long (Int64.ofNat n)) := rfl
theorem qR_mkR {E : mE} {n m : Nat} : qR E (1, n, m) (.ref n) := rfl
theorem qR_cat {E : mE} {a : qV} {v : Value} (h : qR E a v) : a.1 ≤ 6 ∧ (a.1 ≤ 4 → v.category = 1) ∧ (5 ≤ a.1 → v.category = 2) := by
  obtain ⟨t, lo, hi⟩ := a
  match t, h with
  | 0, h => obtain ⟨x, rfl, -, -⟩ := h; exact ⟨by simp, fun _ => rfl, fun h9 => by simp at h9⟩
  | 1, h => cases (show v = .ref lo from h); exact ⟨by simp, fun _ => rfl, fun h9 => by simp at h9⟩
  | 2, h => cases (show v = .null from h); exact ⟨by simp, fun _ => rfl, fun h9 => by simp at h9⟩
  | 3, h => obtain ⟨q, f, rfl, -⟩ := h; exact ⟨by simp, fun _ => rfl, fun h9 => by simp at h9⟩
  | 4, h => obtain ⟨x, rfl, -⟩ := h; exact ⟨by simp, fun _ => rfl, fun h9 => by simp at h9⟩
  | 5, h => cases (show v = .long _ from h); exact ⟨by simp, fun h9 => by simp at h9, fun _ => rfl⟩
  | 6, h => obtain ⟨x, rfl⟩ := h; exact ⟨by simp, fun h9 => by simp at h9, fun _ => rfl⟩
  | n + 7, h => exact (show False from h).elim
def qS (E : mE) : List qV → List Value → Prop
  | [], [] => True
  | a :: r, v :: s => qR E a v ∧ qS E r s
  | _, _ => False
theorem qS_c {E : mE} {a : qV} {r : List qV} {sc : List Value} (h : qS E (a :: r) sc) : ∃ (v : Value) (rc : List Value), sc = v :: rc ∧ qR E a v ∧ qS E r rc := by
  cases sc with
  | nil => exact (show False from h).elim
  | cons v rc => exact ⟨v, rc, rfl, h.1, h.2⟩
theorem qS_n {E : mE} {sc : List Value} (h : qS E [] sc) : sc = [] := by
  cases sc with
  | nil => rfl
  | cons v rc => exact (show False from h).elim
theorem qS_len {E : mE} : ∀ {st : List qV} {sc : List Value}, qS E st sc → sc.length = st.length := by
  intro st
  induction st with
  | nil => intro sc h; rw [qS_n h]; rfl
  | cons a r ih =>
    intro sc h
    obtain ⟨v, rc, rfl, -, h2⟩ := qS_c h
    rw [List.length_cons, List.length_cons, ih h2]
theorem mwords_le : ∀ (sc : List Value), (∀ v ∈ sc, v.category ≤ 2) → mwords sc ≤ 2 * sc.length := by
  intro sc
  induction sc with
  | nil => intro _; exact Nat.le_refl _
  | cons v r ih =>
    intro h
    have h1 := ih (fun x hx => h x (List.mem_cons_of_mem _ hx))
    have h2 := h v List.mem_cons_self
    unfold mwords at h1 ⊢
    rw [List.map_cons, List.sum_cons, List.length_cons]
    omega
theorem cat_le (v : Value) : v.category ≤ 2 := by cases v <;> simp [Value.category]
/-! locals -/
def qLr (E : mE) (l : qL) (lv : mLv) : Prop := ∀ i : Nat, (l i).1 ≤ 6 → ∃ v, mlv lv i = some v ∧ qR E (l i) v
theorem mlv_filter {p : Nat × Value → Bool} : ∀ {l : mLv} {j : Nat} {u : Value}, mlv l j = some u → p (j, u) = true → mlv (l.filter p) j = some u := by
  intro l
  induction l with
  | nil => intro j u h; cases h
  | cons q r ih =>
    intro j u h hp
    simp only [mlv] at h
    by_cases hq : q.1 = j
    · rw [if_pos hq] at h
      cases h
      have e : q = (j, q.2) := by rw [← hq]
      rw [List.filter_cons, if_pos (by rw [e]; exact hp)]
      simp only [mlv]
      rw [if_pos hq]
    · rw [if_neg hq] at h
      rw [List.filter_cons]
      split
      · simp only [mlv]
        rw [if_neg hq]
        exact ih h hp
      · exact ih h hp
theorem mlv_set1 {l : mLv} {i j : Nat} {v u : Value} (h : mlv l j = some u) (hj : j ≠ i) (hc : ¬ (j + 1 = i ∧ u.category = 2)) : mlv (mset1 l i v) j = some u := by
  unfold mset1
  simp only [mlv]
  rw [if_neg (fun e => hj e.symm)]
  refine mlv_filter h ?_
  by_cases h2 : j + 1 = i
  · have h3 : ¬ u.category = 2 := fun e => hc ⟨h2, e⟩
    simp [hj, h3]
  · simp [hj, h2]
theorem mlv_set2 {l : mLv} {i j : Nat} {v u : Value} (h : mlv l j = some u) (hj : j ≠ i) (hj1 : j ≠ i + 1) (hc : ¬ (j + 1 = i ∧ u.category = 2)) : mlv (mset2 l i v) j = some u := by
  unfold mset2
  simp only [mlv]
  rw [if_neg (fun e => hj e.symm)]
  refine mlv_filter h ?_
  by_cases h2 : j + 1 = i
  · have h3 : ¬ u.category = 2 := fun e => hc ⟨h2, e⟩
    simp [hj, hj1, h3]
  · simp [hj, hj1, h2]
theorem qc1_le {a : qV} (h : (qc1 a).1 ≤ 6) : qc1 a = a ∧ a.1 ≤ 4 := by
  unfold qc1 at h ⊢
  rw [qif_ble] at h ⊢
  by_cases h5 : 5 ≤ a.1
  · rw [if_pos h5] at h; exact absurd h (by decide)
  · rw [if_neg h5]; exact ⟨rfl, by omega⟩
theorem qLr_set1 {E : mE} {l : qL} {lv : mLv} {i : Nat} {a : qV} {v : Value} (h : qLr E l lv) (ha : qR E a v) : qLr E (qset1 l i a) (mset1 lv i v) := by
  intro j hj
  unfold qset1 at hj ⊢
  simp only [qif_beq] at hj ⊢
  by_cases e : j = i
  · subst e
    simp only [if_true]
    exact ⟨v, by simp [mset1, mlv], ha⟩
  · rw [if_neg e] at hj ⊢
    by_cases e1 : Nat.succ j = i
    · rw [if_pos e1] at hj ⊢
      obtain ⟨h1, h2⟩ := qc1_le hj
      rw [h1] at hj ⊢
      obtain ⟨u, hu, hr⟩ := h j hj
      have h9 := (qR_cat hr).2.1 h2
      exact ⟨u, mlv_set1 hu e (fun z => by rw [h9] at z; exact absurd z.2 (by decide)), hr⟩
    · rw [if_neg e1] at hj ⊢
      obtain ⟨u, hu, hr⟩ := h j hj
      exact ⟨u, mlv_set1 hu e (fun z => e1 z.1), hr⟩
theorem qLr_set2 {E : mE} {l : qL} {lv : mLv} {i : Nat} {a : qV} {v : Value} (h : qLr E l lv) (ha : qR E a v) : qLr E (qset2 l i a) (mset2 lv i v) := by
  intro j hj
  unfold qset2 at hj ⊢
  simp only [qif_beq] at hj ⊢
  by_cases e : j = i
  · subst e
    simp only [if_true]
    exact ⟨v, by simp [mset2, mlv], ha⟩
  · rw [if_neg e] at hj ⊢
    by_cases e2 : j = Nat.succ i
    · rw [if_pos e2] at hj; exact absurd hj (by decide)
    · rw [if_neg e2] at hj ⊢
      by_cases e1 : Nat.succ j = i
      · rw [if_pos e1] at hj ⊢
        obtain ⟨h1, h2⟩ := qc1_le hj
        rw [h1] at hj ⊢
        obtain ⟨u, hu, hr⟩ := h j hj
        have h9 := (qR_cat hr).2.1 h2
        exact ⟨u, mlv_set2 hu e e2 (fun z => by rw [h9] at z; exact absurd z.2 (by decide)), hr⟩
      · rw [if_neg e1] at hj ⊢
        obtain ⟨u, hu, hr⟩ := h j hj
        exact ⟨u, mlv_set2 hu e e2 (fun z => e1 z.1), hr⟩
theorem qLr_drop {E : mE} {l : qL} {lv : mLv} {i : Nat} (h : qLr E l lv) : qLr E (qset1 l i (7, 0, 0)) (mdrop1 lv i) := by
  intro j hj
  unfold qset1 at hj ⊢
  simp only [qif_beq] at hj ⊢
  by_cases e : j = i
  · rw [if_pos e] at hj; exact absurd hj (by decide)
  · rw [if_neg e] at hj ⊢
    by_cases e1 : Nat.succ j = i
    · rw [if_pos e1] at hj ⊢
      obtain ⟨h1, h2⟩ := qc1_le hj
      rw [h1] at hj ⊢
      obtain ⟨u, hu, hr⟩ := h j hj
      have h9 := (qR_cat hr).2.1 h2
      have h8 : j + 1 = i := e1
      refine ⟨u, mlv_filter hu ?_, hr⟩
      simp [e, h8, h9]
    · rw [if_neg e1] at hj ⊢
      obtain ⟨u, hu, hr⟩ := h j hj
      have h8 : ¬ j + 1 = i := e1
      refine ⟨u, mlv_filter hu ?_, hr⟩
      simp [e, h8]
/-! the heap -/
def mval (t : Nat) (u : List (Nat × Value)) (j : Nat) : Value := match t with
  | 0 => .int (mupI u j)
  | 1 => .long (mupL u j)
  | 2 => .double (mupD u j)
  | _ => va_rf (mupR u j)
def qOr (E : mE) (o : qO) (c : mO) : Prop := match c with
  | .inl x => o.1 = 0 ∧ o.2.1 = x.1 ∧ o.2.2.1 = x.2.1 ∧ ∀ j, j < x.2.1 → qR E (o.2.2.2 j) (mval x.1 x.2.2 j)
  | .inr x => o.1 = 1 ∧ o.2.1 = x.1 ∧ o.2.2.1 = x.2.length ∧ ∀ j v, x.2[j]? = some v → qR E (o.2.2.2 j) v
def qWr (E : mE) (w : qW) (h : mH) : Prop := w.2.1 = E.length + h.1.length ∧ w.2.2.1 = h.2.1 ∧ w.2.2.2 = h.2.2 ∧ ∀ i o, h.1[i]? = some o → qOr E (w.1 (E.length + i)) o
theorem qW_get {E : mE} {w : qW} {h : mH} {a : Nat} (hw : qWr E w h) (h1 : E.length ≤ a) (h2 : Nat.succ a ≤ w.2.1) : ∃ o, h.1[a - E.length]? = some o ∧ qOr E (w.1 a) o := by
  have h3 : a - E.length < h.1.length := by
    have := hw.1
    omega
  refine ⟨h.1[a - E.length], List.getElem?_eq_getElem h3, ?_⟩
  have h4 := hw.2.2.2 _ _ (List.getElem?_eq_getElem h3)
  rwa [show E.length + (a - E.length) = a by omega] at h4
theorem qW_obj {E : mE} {w : qW} {h : mH} {a k c n : Nat} {f : Nat → qV} (hw : qWr E w h) (h1 : E.length ≤ a) (h2 : Nat.succ a ≤ w.2.1) (he : w.1 a = (k, c, n, f)) (hk : k = 1) : ∃ x : Nat × List Value, h.1[a - E.length]? = some (.inr x) ∧ c = x.1 ∧ n = x.2.length ∧ ∀ j v, x.2[j]? = some v → qR E (f j) v := by
  obtain ⟨o, ho, hr⟩ := qW_get hw h1 h2
  rw [he] at hr
  cases o with
  | inl x => exact absurd (hk.symm.trans hr.1) (by decide)
  | inr x => exact ⟨x, ho, hr.2.1, hr.2.2.1, hr.2.2.2⟩
theorem qW_row {E : mE} {w : qW} {h : mH} {a k c n : Nat} {f : Nat → qV} (hw : qWr E w h) (h1 : E.length ≤ a) (h2 : Nat.succ a ≤ w.2.1) (he : w.1 a = (k, c, n, f)) (hk : k = 0) : ∃ x : Nat × Nat × List (Nat × Value), h.1[a - E.length]? = some (.inl x) ∧ c = x.1 ∧ n = x.2.1 ∧ ∀ j, j < x.2.1 → qR E (f j) (mval x.1 x.2.2 j) := by
  obtain ⟨o, ho, hr⟩ := qW_get hw h1 h2
  rw [he] at hr
  cases o with
  | inl x => exact ⟨x, ho, hr.2.1, hr.2.2.1, hr.2.2.2⟩
  | inr x => exact absurd (hk.symm.trans hr.1) (by decide)
theorem qW_put {E : mE} {w : qW} {h : mH} {a : Nat} {o : qO} {c : mO} (hw : qWr E w h) (h1 : E.length ≤ a) (ho : qOr E o c) : qWr E (qput w.1 a o, w.2) (h.1.set (a - E.length) c, h.2) := by
  refine ⟨by rw [List.length_set]; exact hw.1, hw.2.1, hw.2.2.1, ?_⟩
  intro i o' hi
  rw [List.getElem?_set] at hi
  show qOr E (qif (Nat.beq (E.length + i) a) o (w.1 (E.length + i))) o'
  rw [qif_beq]
  by_cases e : a - E.length = i
  · rw [if_pos e] at hi
    rw [if_pos (by omega)]
    split at hi
    · cases hi; exact ho
    · cases hi
  · rw [if_neg e] at hi
    rw [if_neg (by omega)]
    exact hw.2.2.2 i o' hi
theorem qW_push {E : mE} {w : qW} {h : mH} {N : Nat} {o : qO} {c : mO} (hw : qWr E w h) (ho : qOr E o c) : qWr E (qput w.1 w.2.1 o, Nat.succ w.2.1, Nat.succ w.2.2.1, Nat.add w.2.2.2 N) (h.1 ++ [c], h.2.1 + 1, h.2.2 + N) := by
  have h0 := hw.1
  refine ⟨by rw [List.length_append, List.length_singleton]; show w.2.1 + 1 = _; omega, by show w.2.2.1 + 1 = _; rw [hw.2.1], by show w.2.2.2 + N = _; rw [hw.2.2.1], ?_⟩
  intro i o' hi
  show qOr E (qif (Nat.beq (E.length + i) w.2.1) o (w.1 (E.length + i))) o'
  rw [qif_beq]
  rw [List.getElem?_append] at hi
  by_cases e : i < h.1.length
  · rw [if_pos e] at hi
    rw [if_neg (by omega)]
    exact hw.2.2.2 i o' hi
  · rw [if_neg e] at hi
    have h3 : i = h.1.length := by
      have h4 := (List.getElem?_eq_some_iff.mp hi).1
      rw [List.length_singleton] at h4
      omega
    rw [if_pos (by omega)]
    rw [h3, Nat.sub_self] at hi
    cases hi
    exact ho
/-- the outer things: the script, the empty row, the Integers -/
def qEok (E : mE) (X : Nat) (bx : qX) : Prop := X = E.length ∧ (∃ f : Nat → Int32, E[0]? = some (.inl (0, bx.1, .inl f)) ∧ ∀ i, i < bx.1 → qR E (bx.2 i) (.int (f i))) ∧ (∃ f : Nat → Option Nat, E[2]? = some (.inl (3, 0, .inr (.inr (.inr (.inr f)))))) ∧ (∃ f : Nat → Option Nat, E[3]? = some (.inl (4, 256, .inr (.inr (.inr (.inr f))))) ∧ ∀ i, i < 256 → ∃ (q : Nat) (fs : List Value), f i = some q ∧ q < E.length ∧ E[q]? = some (.inr (0, fs)))
theorem qlt0 {x : Int32} : x < 0 ↔ x.toInt < 0 := fa_lt x 0
theorem qnat {x : Int32} {n : Nat} (h1 : (n : Int) = x.toInt + 2147483648) (h2 : 2147483648 ≤ n) : x.toNatClampNeg = n - 2147483648 ∧ ¬ x < 0 := by
  refine ⟨?_, fun h => ?_⟩
  · show x.toInt.toNat = _
    omega
  · have := qlt0.mp h
    omega
end
section
/-! ===== each step of the abstract machine is a step of the small one: what stays in the method ===== -/
theorem q_ad (a b : Nat) : Nat.add a b = a + b := rfl
theorem q_sb (a b : Nat) : Nat.sub a b = a - b := rfl
theorem q_dv (a b : Nat) : Nat.div a b = a / b := rfl
theorem q_md (a b : Nat) : Nat.mod a b = a % b := rfl
theorem q_ifc {P Q : Prop} [Decidable P] [Decidable Q] {x y : Nat} (h : P ↔ Q) : (if P then x else y) = (if Q then x else y) := by
  by_cases hp : P
  · rw [if_pos hp, if_pos (h.mp hp)]
  · rw [if_neg hp, if_neg (fun q => hp (h.mpr q))]
theorem qload_ok {E : mE} {x y z : Nat} {lv : qL} {st : List qV} {w : qW} {T : qT} {lvc : mLv} (hs : qload x y z lv st w = some T) (hl : qLr E lv lvc) (hz : z = 0 ∨ z = 1 ∨ z = 5 ∨ z = 6) : T = (y, lv, lv x :: st, w) ∧ ∃ v, mlv lvc x = some v ∧ qR E (lv x) v ∧ (z = 0 → ∃ i, v = .int i) ∧ (z = 1 → ∃ q, v = .ref q) ∧ (z = 5 → ∃ i, v = .long i) ∧ (z = 6 → ∃ i, v = .double i) := by
  unfold qload at hs
  obtain ⟨hk, hs⟩ := qg_some hs
  cases hs
  unfold qkind at hk
  simp only [qif_beq] at hk
  have ht : (z = 1 ∧ ((lv x).1 = 1 ∨ (lv x).1 = 3)) ∨ (z ≠ 1 ∧ (lv x).1 = z) := by
    by_cases h1 : z = 1
    · rw [if_pos h1] at hk
      refine Or.inl ⟨h1, ?_⟩
      by_cases h2 : (lv x).1 = 1
      · exact Or.inl h2
      · rw [if_neg h2] at hk
        exact Or.inr (Nat.eq_of_beq_eq_true hk)
    · rw [if_neg h1] at hk
      exact Or.inr ⟨h1, Nat.eq_of_beq_eq_true hk⟩
  obtain ⟨v, hv, hr⟩ := hl x (by omega)
  refine ⟨rfl, v, hv, hr, fun e => ?_, fun e => ?_, fun e => ?_, fun e => ?_⟩
  · obtain ⟨i, hi, -⟩ := qR_int hr (by omega)
    exact ⟨i, hi⟩
  · rcases ht with ⟨-, h2 | h2⟩ | ⟨h2, -⟩
    · exact ⟨_, qR_ref hr h2⟩
    · obtain ⟨q, f, h3, -⟩ := qR_box hr h2
      exact ⟨q, h3⟩
    · exact absurd e h2
  · exact ⟨_, qR_long hr (by omega)⟩
  · exact qR_dbl hr (by omega)
theorem qstore_ok {E : mE} {nL x y z : Nat} {lv : qL} {st : List qV} {w : qW} {T : qT} {lvc : mLv} {stc : List Value} (hs : qstore nL x y z lv st w = some T) (hl : qLr E lv lvc) (hst : qS E st stc) (hz : z = 0 ∨ z = 1 ∨ z = 5 ∨ z = 6) : ∃ (v : Value) (rc : List Value) (lv' : qL) (r : List qV), stc = v :: rc ∧ T = (y, lv', r, w) ∧ qS E r rc ∧ (z = 0 → (∃ i, v = .int i) ∧ x < nL ∧ qLr E lv' (mset1 lvc x v)) ∧ (z = 1 → (∃ q, v = .ref q) ∧ x < nL ∧ qLr E lv' (mset1 lvc x v)) ∧ (z = 5 → (∃ i, v = .long i) ∧ x + 1 < nL ∧ qLr E lv' (mset2 lvc x v)) ∧ (z = 6 → (∃ i, v = .double i) ∧ x + 1 < nL ∧ qLr E lv' (mset2 lvc x v)) := by
  unfold qstore at hs
  split at hs
  · cases hs
  · rename_i a r
    obtain ⟨v, rc, rfl, hr, hst2⟩ := qS_c hst
    obtain ⟨hk, hs⟩ := qg_some hs
    unfold qkind at hk
    simp only [qif_beq] at hk
    have ht : (z = 1 ∧ (a.1 = 1 ∨ a.1 = 3)) ∨ (z ≠ 1 ∧ a.1 = z) := by
      by_cases h1 : z = 1
      · rw [if_pos h1] at hk
        refine Or.inl ⟨h1, ?_⟩
        by_cases h2 : a.1 = 1
        · exact Or.inl h2
        · rw [if_neg h2] at hk
          exact Or.inr (Nat.eq_of_beq_eq_true hk)
      · rw [if_neg h1] at hk
        exact Or.inr ⟨h1, Nat.eq_of_beq_eq_true hk⟩
    rw [qif_ble] at hs
    by_cases h5 : 5 ≤ z
    · rw [if_pos h5] at hs
      obtain ⟨hn, hs⟩ := qg_ble hs
      cases hs
      have hn2 : x + 1 < nL := hn
      refine ⟨v, rc, _, r, rfl, rfl, hst2, fun e => by omega, fun e => by omega, fun e => ⟨⟨_, qR_long hr (by omega)⟩, hn2, qLr_set2 hl hr⟩, fun e => ⟨qR_dbl hr (by omega), hn2, qLr_set2 hl hr⟩⟩
    · rw [if_neg h5] at hs
      obtain ⟨hn, hs⟩ := qg_ble hs
      cases hs
      have hn2 : x < nL := hn
      refine ⟨v, rc, _, r, rfl, rfl, hst2, fun e => ?_, fun e => ⟨?_, hn2, qLr_set1 hl hr⟩, fun e => by omega, fun e => by omega⟩
      · obtain ⟨i, hi, -⟩ := qR_int hr (by omega)
        exact ⟨⟨i, hi⟩, hn2, qLr_set1 hl hr⟩
      · rcases ht with ⟨-, h2 | h2⟩ | ⟨h2, -⟩
        · exact ⟨_, qR_ref hr h2⟩
        · obtain ⟨q, f, h3, -⟩ := qR_box hr h2
          exact ⟨q, h3⟩
        · exact absurd e h2
theorem qiinc_ok {E : mE} {nL x y : Nat} {n : Int32} {lv : qL} {st : List qV} {w : qW} {T : qT} {lvc : mLv} (hs : qiinc nL x y (qbias n) lv st w = some T) (hl : qLr E lv lvc) : ∃ (i : Int32) (lv' : qL), mlv lvc x = some (.int i) ∧ x < nL ∧ T = (y, lv', st, w) ∧ qLr E lv' (mset1 lvc x (.int (i + n))) := by
  unfold qiinc at hs
  obtain ⟨h1, hs⟩ := qg_beq hs
  obtain ⟨h2, hs⟩ := qg_ble hs
  obtain ⟨h3, hs⟩ := qg_ble hs
  obtain ⟨h4, hs⟩ := qg_ble hs
  cases hs
  obtain ⟨v, hv, hr⟩ := hl x (by omega)
  obtain ⟨i, rfl, i1, i2⟩ := qR_int hr h1
  have hb := fb_rng n
  have hq : (qbias n : Int) = n.toInt + 2147483648 := by
    unfold qbias
    omega
  simp only [q_ad, q_sb] at h3 h4 ⊢
  have e := fb_addI (x := i) (y := n) (by omega) (by omega)
  exact ⟨i, _, hv, h2, rfl, qLr_set1 hl (qR_mkI (by rw [e]; omega) (by rw [e]; omega))⟩
theorem qadd_ok {E : mE} {y : Nat} {lv : qL} {st : List qV} {w : qW} {T : qT} {stc : List Value} (hs : qadd y lv st w = some T) (hst : qS E st stc) : ∃ (b a : Int32) (r : List Value) (r' : List qV), stc = .int b :: .int a :: r ∧ T = (y, lv, r', w) ∧ qS E r' (.int (a + b) :: r) := by
  unfold qadd at hs
  split at hs
  · rename_i a b r
    obtain ⟨va, sa, rfl, ha, hs1⟩ := qS_c hst
    obtain ⟨vb, sb, rfl, hb, hs2⟩ := qS_c hs1
    obtain ⟨ta, hs⟩ := qg_beq hs
    obtain ⟨tb, hs⟩ := qg_beq hs
    obtain ⟨h1, hs⟩ := qg_ble hs
    obtain ⟨h2, hs⟩ := qg_ble hs
    obtain ⟨x, rfl, x1, x2⟩ := qR_int ha ta
    obtain ⟨z, rfl, z1, z2⟩ := qR_int hb tb
    cases hs
    simp only [q_ad] at h1 h2
    have e := fb_addI (x := z) (y := x) (by omega) (by omega)
    exact ⟨x, z, sb, _, rfl, rfl, qR_mkI (by rw [e]; simp only [q_ad, q_sb]; omega) (by rw [e]; simp only [q_ad, q_sb]; omega), hs2⟩
  · cases hs
theorem qsub_ok {E : mE} {y : Nat} {lv : qL} {st : List qV} {w : qW} {T : qT} {stc : List Value} (hs : qsub y lv st w = some T) (hst : qS E st stc) : ∃ (b a : Int32) (r : List Value) (r' : List qV), stc = .int b :: .int a :: r ∧ T = (y, lv, r', w) ∧ qS E r' (.int (a - b) :: r) := by
  unfold qsub at hs
  split at hs
  · rename_i a b r
    obtain ⟨va, sa, rfl, ha, hs1⟩ := qS_c hst
    obtain ⟨vb, sb, rfl, hb, hs2⟩ := qS_c hs1
    obtain ⟨ta, hs⟩ := qg_beq hs
    obtain ⟨tb, hs⟩ := qg_beq hs
    obtain ⟨h1, hs⟩ := qg_ble hs
    obtain ⟨h2, hs⟩ := qg_ble hs
    obtain ⟨x, rfl, x1, x2⟩ := qR_int ha ta
    obtain ⟨z, rfl, z1, z2⟩ := qR_int hb tb
    cases hs
    simp only [q_ad] at h1 h2
    have e := fb_subI (x := z) (y := x) (by omega) (by omega)
    exact ⟨x, z, sb, _, rfl, rfl, qR_mkI (by rw [e]; simp only [q_ad, q_sb]; omega) (by rw [e]; simp only [q_ad, q_sb]; omega), hs2⟩
  · cases hs
theorem q31 {x : Int32} (h1 : (2147483679 : Int) ≤ x.toInt + 2147483648) (h2 : x.toInt + 2147483648 ≤ 2147483679) : x = 31 := by
  rw [fa_eq]
  show x.toInt = 31
  omega
theorem qsmall {k : Nat} (h : k < 2147483648) : (Int32.ofNat k).toInt = (k : Int) := nI_toInt h
theorem qand_ok {E : mE} {y : Nat} {lv : qL} {st : List qV} {w : qW} {T : qT} {stc : List Value} (hs : qand y lv st w = some T) (hst : qS E st stc) : ∃ (b a : Int32) (r : List Value) (r' : List qV), stc = .int b :: .int a :: r ∧ T = (y, lv, r', w) ∧ qS E r' (.int (a &&& b) :: r) := by
  unfold qand at hs
  split at hs
  · rename_i a b r
    obtain ⟨va, sa, rfl, ha, hs1⟩ := qS_c hst
    obtain ⟨vb, sb, rfl, hb, hs2⟩ := qS_c hs1
    obtain ⟨ta, hs⟩ := qg_beq hs
    obtain ⟨t1, hs⟩ := qg_beq hs
    obtain ⟨t2, hs⟩ := qg_beq hs
    obtain ⟨tb, hs⟩ := qg_beq hs
    obtain ⟨h1, hs⟩ := qg_ble hs
    obtain ⟨x, rfl, x1, x2⟩ := qR_int ha ta
    obtain ⟨z, rfl, hz⟩ := qR_head hb tb
    cases hs
    have hx : x = 31 := q31 (by omega) (by omega)
    subst hx
    have e := qsmall (k := b.2.1) (by omega)
    exact ⟨31, z, sb, _, rfl, rfl, qR_mkI (by rw [hz, e]; simp only [q_ad]; omega) (by rw [hz, e]; simp only [q_ad]; omega), hs2⟩
  · cases hs
theorem qnn {x : Int32} {lo : Nat} (h1 : (lo : Int) ≤ x.toInt + 2147483648) (h2 : 2147483648 ≤ lo) : ∃ a : Nat, a < 2147483648 ∧ x = nI a ∧ (a : Int) = x.toInt := by
  have hb := fb_rng x
  refine ⟨x.toInt.toNat, by omega, ?_, by omega⟩
  rw [fa_eq, nI_toInt (by omega)]
  omega
theorem qdiv_ok {E : mE} {y : Nat} {lv : qL} {st : List qV} {w : qW} {T : qT} {stc : List Value} (hs : qdiv y lv st w = some T) (hst : qS E st stc) : ∃ (b a : Int32) (r : List Value) (r' : List qV), stc = .int b :: .int a :: r ∧ b ≠ 0 ∧ T = (y, lv, r', w) ∧ qS E r' (.int (a / b) :: r) := by
  unfold qdiv at hs
  split at hs
  · rename_i a b r
    obtain ⟨va, sa, rfl, ha, hs1⟩ := qS_c hst
    obtain ⟨vb, sb, rfl, hb, hs2⟩ := qS_c hs1
    obtain ⟨ta, hs⟩ := qg_beq hs
    obtain ⟨tb, hs⟩ := qg_beq hs
    obtain ⟨h0, hs⟩ := qg_beq hs
    obtain ⟨h1, hs⟩ := qg_ble hs
    obtain ⟨h2, hs⟩ := qg_ble hs
    obtain ⟨x, rfl, x1, x2⟩ := qR_int ha ta
    obtain ⟨z, rfl, z1, z2⟩ := qR_int hb tb
    cases hs
    obtain ⟨d, d1, rfl, d3⟩ := qnn x1 (by omega)
    obtain ⟨n, n1, rfl, n3⟩ := qnn z1 h2
    have hd : a.2.1 - 2147483648 = d := by omega
    have hd0 : 0 < d := by omega
    have e : (nI n / nI d).toInt = ((n / d : Nat) : Int) := by
      rw [pk_div n1 hd0 d1, nI_toInt (Nat.lt_of_le_of_lt (Nat.div_le_self _ _) n1)]
    have l1 : (b.2.1 - 2147483648) / d ≤ n / d := Nat.div_le_div_right (by omega)
    have l2 : n / d ≤ (b.2.2 - 2147483648) / d := Nat.div_le_div_right (by omega)
    refine ⟨nI d, nI n, sb, _, rfl, fun h9 => ?_, rfl, qR_mkI ?_ ?_, hs2⟩
    · have h8 := congrArg Int32.toInt h9
      rw [nI_toInt d1] at h8
      have h7 : (0 : Int32).toInt = 0 := rfl
      omega
    · rw [e]; clear e; simp only [q_ad, q_sb, q_dv, hd]; omega
    · rw [e]; clear e; simp only [q_ad, q_sb, q_dv, hd]; omega
  · cases hs
theorem q_hn {lo hi n : Nat} {t : Int} (z1 : (lo : Int) ≤ t + 2147483648) (z2 : t + 2147483648 ≤ (hi : Int)) (n3 : (n : Int) = t) (h2 : 2147483648 ≤ lo) (h : lo = hi) : lo - 2147483648 = n := by omega
theorem qrem_ok {E : mE} {y : Nat} {lv : qL} {st : List qV} {w : qW} {T : qT} {stc : List Value} (hs : qrem y lv st w = some T) (hst : qS E st stc) : ∃ (b a : Int32) (r : List Value) (r' : List qV), stc = .int b :: .int a :: r ∧ b ≠ 0 ∧ T = (y, lv, r', w) ∧ qS E r' (.int (a - a / b * b) :: r) := by
  unfold qrem at hs
  split at hs
  · rename_i a b r
    obtain ⟨va, sa, rfl, ha, hs1⟩ := qS_c hst
    obtain ⟨vb, sb, rfl, hb, hs2⟩ := qS_c hs1
    obtain ⟨ta, hs⟩ := qg_beq hs
    obtain ⟨tb, hs⟩ := qg_beq hs
    obtain ⟨h0, hs⟩ := qg_beq hs
    obtain ⟨h1, hs⟩ := qg_ble hs
    obtain ⟨h2, hs⟩ := qg_ble hs
    obtain ⟨x, rfl, x1, x2⟩ := qR_int ha ta
    obtain ⟨z, rfl, z1, z2⟩ := qR_int hb tb
    cases hs
    obtain ⟨d, d1, rfl, d3⟩ := qnn x1 (by omega)
    obtain ⟨n, n1, rfl, n3⟩ := qnn z1 h2
    have hd : a.2.1 - 2147483648 = d := by omega
    have hd0 : 0 < d := by omega
    have hnx : b.2.1 = b.2.2 → b.2.1 - 2147483648 = n := fun h => q_hn z1 z2 n3 h2 h
    have hda : a.2.1 = d + 2147483648 := by omega
    have hup : 2147483648 + (n % d : Nat) ≤ a.2.1 - 1 := by
      have hlt : n % d < d := Nat.mod_lt _ hd0
      rw [hda]
      generalize n % d = k at hlt ⊢
      clear x1 x2 z1 z2 hd h0 h1 h2
      omega
    have hlt : n % d < d := Nat.mod_lt _ hd0
    have e : (nI n - nI n / nI d * nI d).toInt = ((n % d : Nat) : Int) := by
      rw [pk_rem n1 hd0 d1, nI_toInt (by omega)]
    refine ⟨nI d, nI n, sb, _, rfl, fun h9 => ?_, rfl, ?_, hs2⟩
    · have h8 := congrArg Int32.toInt h9
      rw [nI_toInt d1] at h8
      have h7 : (0 : Int32).toInt = 0 := rfl
      omega
    · rw [qif_beq]
      by_cases hx : b.2.1 = b.2.2
      · rw [if_pos hx]
        have hn : b.2.1 - 2147483648 = n := hnx hx
        exact qR_mkI (by rw [e]; clear e hup; simp only [q_ad, q_sb, q_md, hd, hn]; omega) (by rw [e]; clear e hup; simp only [q_ad, q_sb, q_md, hd, hn]; omega)
      · rw [if_neg hx]
        exact qR_mkI (by rw [e]; clear e; omega) (by rw [e]; clear e; simp only [q_sb]; omega)
  · cases hs
theorem qshr_ok {E : mE} {y : Nat} {lv : qL} {st : List qV} {w : qW} {T : qT} {stc : List Value} (hs : qshr y lv st w = some T) (hst : qS E st stc) : ∃ (b a : Int32) (r : List Value) (r' : List qV), stc = .int b :: .int a :: r ∧ T = (y, lv, r', w) ∧ qS E r' (.int (a >>> (b &&& 31)) :: r) := by
  unfold qshr at hs
  split at hs
  · rename_i a b r
    obtain ⟨va, sa, rfl, ha, hs1⟩ := qS_c hst
    obtain ⟨vb, sb, rfl, hb, hs2⟩ := qS_c hs1
    obtain ⟨ta, hs⟩ := qg_beq hs
    obtain ⟨tb, hs⟩ := qg_beq hs
    obtain ⟨h0, hs⟩ := qg_beq hs
    obtain ⟨h1, hs⟩ := qg_beq hs
    obtain ⟨h2, hs⟩ := qg_ble hs
    obtain ⟨x, rfl, x1, x2⟩ := qR_int ha ta
    obtain ⟨z, rfl, z1, z2⟩ := qR_int hb tb
    cases hs
    have hx : x = 1 := by
      rw [fa_eq]
      show x.toInt = 1
      omega
    subst hx
    obtain ⟨n, n1, rfl, n3⟩ := qnn z1 h2
    have e : (nI n >>> ((1 : Int32) &&& 31)).toInt = ((n / 2 : Nat) : Int) := by
      rw [pk_shrN n1 _ 1 (by decide), nI_toInt (by omega)]
    have l1 : (b.2.1 - 2147483648) / 2 ≤ n / 2 := Nat.div_le_div_right (by omega)
    have l2 : n / 2 ≤ (b.2.2 - 2147483648) / 2 := Nat.div_le_div_right (by omega)
    exact ⟨1, nI n, sb, _, rfl, rfl, qR_mkI (by rw [e]; clear e; simp only [q_ad, q_sb, q_dv]; omega) (by rw [e]; clear e; simp only [q_ad, q_sb, q_dv]; omega), hs2⟩
  · cases hs
theorem qlong_mod (n : Nat) : Int64.ofNat (n % 18446744073709551616) = Int64.ofNat n := by
  apply Int64.toBitVec.inj
  show BitVec.ofNat 64 (n % 18446744073709551616) = BitVec.ofNat 64 n
  apply BitVec.eq_of_toNat_eq
  simp [BitVec.toNat_ofNat]
theorem qladd_ok {E : mE} {y : Nat} {lv : qL} {st : List qV} {w : qW} {T : qT} {stc : List Value} (hs : qladd y lv st w = some T) (hst : qS E st stc) : ∃ (b a : Int64) (r : List Value) (r' : List qV), stc = .long b :: .long a :: r ∧ T = (y, lv, r', w) ∧ qS E r' (.long (a + b) :: r) := by
  unfold qladd at hs
  split at hs
  · rename_i a b r
    obtain ⟨va, sa, rfl, ha, hs1⟩ := qS_c hst
    obtain ⟨vb, sb, rfl, hb, hs2⟩ := qS_c hs1
    obtain ⟨ta, hs⟩ := qg_beq hs
    obtain ⟨tb, hs⟩ := qg_beq hs
    rw [qR_long ha ta, qR_long hb tb]
    cases hs
    refine ⟨_, _, sb, _, rfl, rfl, ?_, hs2⟩
    have e : Int64.ofNat b.2.1 + Int64.ofNat a.2.1 = Int64.ofNat (Nat.mod (Nat.add b.2.1 a.2.1) 18446744073709551616) := (lN_add _ _).trans (qlong_mod _).symm
    rw [e]
    exact qR_mkL
  · cases hs
theorem qlmul_ok {E : mE} {y : Nat} {lv : qL} {st : List qV} {w : qW} {T : qT} {stc : List Value} (hs : qlmul y lv st w = some T) (hst : qS E st stc) : ∃ (b a : Int64) (r : List Value) (r' : List qV), stc = .long b :: .long a :: r ∧ T = (y, lv, r', w) ∧ qS E r' (.long (a * b) :: r) := by
  unfold qlmul at hs
  split at hs
  · rename_i a b r
    obtain ⟨va, sa, rfl, ha, hs1⟩ := qS_c hst
    obtain ⟨vb, sb, rfl, hb, hs2⟩ := qS_c hs1
    obtain ⟨ta, hs⟩ := qg_beq hs
    obtain ⟨tb, hs⟩ := qg_beq hs
    rw [qR_long ha ta, qR_long hb tb]
    cases hs
    refine ⟨_, _, sb, _, rfl, rfl, ?_, hs2⟩
    have e : Int64.ofNat b.2.1 * Int64.ofNat a.2.1 = Int64.ofNat (Nat.mod (Nat.mul b.2.1 a.2.1) 18446744073709551616) := (lN_mul _ _).trans (qlong_mod _).symm
    rw [e]
    exact qR_mkL
  · cases hs
theorem qi2l_ok {E : mE} {y : Nat} {lv : qL} {st : List qV} {w : qW} {T : qT} {stc : List Value} (hs : qi2l y lv st w = some T) (hst : qS E st stc) : ∃ (a : Int32) (r : List Value) (r' : List qV), stc = .int a :: r ∧ T = (y, lv, r', w) ∧ qS E r' (.long a.toInt64 :: r) := by
  unfold qi2l at hs
  split at hs
  · rename_i a r
    obtain ⟨va, sa, rfl, ha, hs1⟩ := qS_c hst
    obtain ⟨ta, hs⟩ := qg_beq hs
    obtain ⟨h0, hs⟩ := qg_beq hs
    obtain ⟨x, rfl, x1, x2⟩ := qR_int ha ta
    cases hs
    refine ⟨x, sa, _, rfl, rfl, ?_, hs1⟩
    have e : x.toInt64 = Int64.ofNat (qif (Nat.ble 2147483648 a.2.1) (Nat.sub a.2.1 2147483648) (Nat.sub (Nat.add a.2.1 18446744073709551616) 2147483648)) := by
      have hb := fb_rng x
      rw [qif_ble]
      apply Int64.toInt_inj.mp
      rw [Int32.toInt_toInt64, Int64.toInt_ofNat']
      have h9 : ((2 ^ 64 : Nat) : Int) = 18446744073709551616 := rfl
      by_cases h : 2147483648 ≤ a.2.1
      · rw [if_pos h]
        simp only [q_sb]
        have h3 : ((a.2.1 - 2147483648 : Nat) : Int) = x.toInt := by omega
        rw [h3]
        simp only [Int.bmod, h9]
        split <;> omega
      · rw [if_neg h]
        simp only [q_sb, q_ad]
        have h3 : ((a.2.1 + 18446744073709551616 - 2147483648 : Nat) : Int) = x.toInt + 18446744073709551616 := by omega
        rw [h3]
        simp only [Int.bmod, h9]
        split <;> omega
    rw [e]
    exact qR_mkL
  · cases hs
theorem qlcmp_ok {E : mE} {y : Nat} {lv : qL} {st : List qV} {w : qW} {T : qT} {stc : List Value} (hs : qlcmp y lv st w = some T) (hst : qS E st stc) : ∃ (b a : Int64) (r : List Value) (r' : List qV), stc = .long b :: .long a :: r ∧ T = (y, lv, r', w) ∧ qS E r' (.int (lg_cmp a b) :: r) := by
  unfold qlcmp at hs
  split at hs
  · rename_i a b r
    obtain ⟨va, sa, rfl, ha, hs1⟩ := qS_c hst
    obtain ⟨vb, sb, rfl, hb, hs2⟩ := qS_c hs1
    obtain ⟨ta, hs⟩ := qg_beq hs
    obtain ⟨tb, hs⟩ := qg_beq hs
    obtain ⟨tc, hs⟩ := qg_beq hs
    rw [qR_long ha ta, qR_long hb tb, tc]
    cases hs
    refine ⟨_, _, sb, _, rfl, rfl, ?_, hs2⟩
    have e : lg_cmp (Int64.ofNat b.2.1) (Int64.ofNat b.2.1) = 0 := by
      unfold lg_cmp
      rw [if_neg (by simp), if_pos rfl]
    rw [e]
    exact qR_mkI (by decide) (by decide)
  · cases hs
theorem qcmp_ok {z l1 h1 l2 h2 x y t : Nat} {a b : Int} (hq : qcmp z l1 h1 l2 h2 x y = some t) (a1 : (l1 : Int) ≤ a) (a2 : a ≤ h1) (b1 : (l2 : Int) ≤ b) (b2 : b ≤ h2) : (z = 0 → t = if a < b then x else y) ∧ (z = 1 → t = if b < a then x else y) ∧ (z = 2 → t = if a = b then x else y) := by
  unfold qcmp at hq
  simp only [qif_beq, qif_ble] at hq
  by_cases hz0 : z = 0
  · rw [if_pos hz0] at hq
    refine ⟨fun _ => ?_, fun e => by omega, fun e => by omega⟩
    by_cases hc : Nat.succ h1 ≤ l2
    · rw [if_pos hc] at hq
      cases hq
      rw [if_pos (by omega)]
    · rw [if_neg hc] at hq
      obtain ⟨hd, hq⟩ := qg_ble hq
      cases hq
      rw [if_neg (by omega)]
  · rw [if_neg hz0] at hq
    by_cases hz1 : z = 1
    · rw [if_pos hz1] at hq
      refine ⟨fun e => by omega, fun _ => ?_, fun e => by omega⟩
      by_cases hc : Nat.succ h2 ≤ l1
      · rw [if_pos hc] at hq
        cases hq
        rw [if_pos (by omega)]
      · rw [if_neg hc] at hq
        obtain ⟨hd, hq⟩ := qg_ble hq
        cases hq
        rw [if_neg (by omega)]
    · rw [if_neg hz1] at hq
      refine ⟨fun e => by omega, fun e => by omega, fun _ => ?_⟩
      by_cases hc : Nat.succ h1 ≤ l2
      · rw [if_pos hc] at hq
        cases hq
        rw [if_neg (by omega)]
      · rw [if_neg hc] at hq
        by_cases hd : Nat.succ h2 ≤ l1
        · rw [if_pos hd] at hq
          cases hq
          rw [if_neg (by omega)]
        · rw [if_neg hd] at hq
          obtain ⟨he, hq⟩ := qg_beq hq
          obtain ⟨hf, hq⟩ := qg_beq hq
          obtain ⟨hg, hq⟩ := qg_beq hq
          cases hq
          rw [if_pos (by omega)]
theorem qifc_ok {E : mE} {x y z : Nat} {lv : qL} {st : List qV} {w : qW} {T : qT} {stc : List Value} (hs : qifc x y z lv st w = some T) (hst : qS E st stc) : ∃ (a : Int32) (r : List Value) (r' : List qV) (t : Nat), stc = .int a :: r ∧ T = (t, lv, r', w) ∧ qS E r' r ∧ (z = 0 → t = if a.toInt < 0 then x else y) ∧ (z = 1 → t = if 0 < a.toInt then x else y) ∧ (z = 2 → t = if a.toInt = 0 then x else y) := by
  unfold qifc at hs
  split at hs
  · rename_i a r
    obtain ⟨va, sa, rfl, ha, hs1⟩ := qS_c hst
    obtain ⟨ta, hs⟩ := qg_beq hs
    obtain ⟨i, rfl, x1, x2⟩ := qR_int ha ta
    split at hs
    · rename_i t ht
      cases hs
      obtain ⟨g0, g1, g2⟩ := qcmp_ok (a := i.toInt + 2147483648) (b := 2147483648) ht x1 x2 (by decide) (by decide)
      refine ⟨i, sa, _, t, rfl, rfl, hs1, fun e => ?_, fun e => ?_, fun e => ?_⟩
      · rw [g0 e]; exact q_ifc (by omega)
      · rw [g1 e]; exact q_ifc (by omega)
      · rw [g2 e]; exact q_ifc (by omega)
    · cases hs
  · cases hs
theorem qicmp_ok {E : mE} {x y z : Nat} {lv : qL} {st : List qV} {w : qW} {T : qT} {stc : List Value} (hs : qicmp x y z lv st w = some T) (hst : qS E st stc) : ∃ (b a : Int32) (r : List Value) (r' : List qV) (t : Nat), stc = .int b :: .int a :: r ∧ T = (t, lv, r', w) ∧ qS E r' r ∧ (z = 0 → t = if a.toInt < b.toInt then x else y) ∧ (z = 1 → t = if b.toInt < a.toInt then x else y) ∧ (z = 2 → t = if a.toInt = b.toInt then x else y) := by
  unfold qicmp at hs
  split at hs
  · rename_i a b r
    obtain ⟨va, sa, rfl, ha, hs1⟩ := qS_c hst
    obtain ⟨vb, sb, rfl, hb, hs2⟩ := qS_c hs1
    obtain ⟨ta, hs⟩ := qg_beq hs
    obtain ⟨tb, hs⟩ := qg_beq hs
    obtain ⟨i, rfl, x1, x2⟩ := qR_int ha ta
    obtain ⟨j, rfl, y1, y2⟩ := qR_int hb tb
    split at hs
    · rename_i t ht
      cases hs
      obtain ⟨g0, g1, g2⟩ := qcmp_ok (a := j.toInt + 2147483648) (b := i.toInt + 2147483648) ht y1 y2 x1 x2
      refine ⟨i, j, sb, _, t, rfl, rfl, hs2, fun e => ?_, fun e => ?_, fun e => ?_⟩
      · rw [g0 e]; exact q_ifc (by omega)
      · rw [g1 e]; exact q_ifc (by omega)
      · rw [g2 e]; exact q_ifc (by omega)
    · cases hs
  · cases hs
theorem qacmp_ok {E : mE} {x : Nat} {lv : qL} {st : List qV} {w : qW} {T : qT} {stc : List Value} (hs : qacmp x lv st w = some T) (hst : qS E st stc) : ∃ (q : Nat) (r : List Value) (r' : List qV), stc = .ref q :: .ref q :: r ∧ T = (x, lv, r', w) ∧ qS E r' r := by
  unfold qacmp at hs
  split at hs
  · rename_i a b r
    obtain ⟨va, sa, rfl, ha, hs1⟩ := qS_c hst
    obtain ⟨vb, sb, rfl, hb, hs2⟩ := qS_c hs1
    obtain ⟨ta, hs⟩ := qg_beq hs
    obtain ⟨tb, hs⟩ := qg_beq hs
    obtain ⟨tc, hs⟩ := qg_beq hs
    rw [qR_ref ha ta, qR_ref hb tb, tc]
    cases hs
    exact ⟨_, sb, _, rfl, rfl, hs2⟩
  · cases hs
theorem qswitch_ok {E : mE} {e : mIns} {lv : qL} {st : List qV} {w : qW} {T : qT} {stc : List Value} (hs : qswitch e lv st w = some T) (hst : qS E st stc) : ∃ (a : Int32) (r : List Value) (r' : List qV) (t : Nat × mLv × List Value), stc = .int a :: r ∧ T = (t.1, lv, r', w) ∧ qS E r' r ∧ mpure 0 e [] [.int a] = some t := by
  unfold qswitch at hs
  split at hs
  · rename_i a r
    obtain ⟨va, sa, rfl, ha, hs1⟩ := qS_c hst
    obtain ⟨ta, hs⟩ := qg_beq hs
    obtain ⟨tb, hs⟩ := qg_beq hs
    obtain ⟨i, rfl, x1, x2⟩ := qR_int ha ta
    have e9 : Int32.ofInt (Int.subNatNat a.2.1 2147483648) = i := by
      rw [Int.subNatNat_eq_coe, show ((a.2.1 : Nat) : Int) - ((2147483648 : Nat) : Int) = i.toInt by omega]
      exact fb_asI i
    rw [e9] at hs
    split at hs
    · rename_i t ht
      cases hs
      exact ⟨i, sa, _, t, rfl, rfl, hs1, ht⟩
    · cases hs
  · cases hs
theorem qdup_ok {E : mE} {y : Nat} {lv : qL} {st : List qV} {w : qW} {T : qT} {stc : List Value} (hs : qdup y lv st w = some T) (hst : qS E st stc) : ∃ (v : Value) (r : List Value) (r' : List qV), stc = v :: r ∧ v.category = 1 ∧ T = (y, lv, r', w) ∧ qS E r' (v :: v :: r) := by
  unfold qdup at hs
  split at hs
  · rename_i a r
    obtain ⟨va, sa, rfl, ha, hs1⟩ := qS_c hst
    obtain ⟨ta, hs⟩ := qg_ble hs
    cases hs
    exact ⟨va, sa, _, rfl, (qR_cat ha).2.1 (by omega), rfl, ha, ha, hs1⟩
  · cases hs
theorem qpop_ok {E : mE} {y : Nat} {lv : qL} {st : List qV} {w : qW} {T : qT} {stc : List Value} (hs : qpop y lv st w = some T) (hst : qS E st stc) : ∃ (v : Value) (r : List Value) (r' : List qV), stc = v :: r ∧ v.category = 1 ∧ T = (y, lv, r', w) ∧ qS E r' r := by
  unfold qpop at hs
  split at hs
  · rename_i a r
    obtain ⟨va, sa, rfl, ha, hs1⟩ := qS_c hst
    obtain ⟨ta, hs⟩ := qg_ble hs
    cases hs
    exact ⟨va, sa, _, rfl, (qR_cat ha).2.1 (by omega), rfl, hs1⟩
  · cases hs
theorem qdupx_ok {E : mE} {y : Nat} {lv : qL} {st : List qV} {w : qW} {T : qT} {stc : List Value} (hs : qdupx y lv st w = some T) (hst : qS E st stc) : ∃ (v u : Value) (r : List Value) (r' : List qV), stc = v :: u :: r ∧ (v.category = 1 ∧ u.category = 1) ∧ T = (y, lv, r', w) ∧ qS E r' (v :: u :: v :: r) := by
  unfold qdupx at hs
  split at hs
  · rename_i a b r
    obtain ⟨va, sa, rfl, ha, hs1⟩ := qS_c hst
    obtain ⟨vb, sb, rfl, hb, hs2⟩ := qS_c hs1
    obtain ⟨ta, hs⟩ := qg_ble hs
    obtain ⟨tb, hs⟩ := qg_ble hs
    cases hs
    exact ⟨va, vb, sb, _, rfl, ⟨(qR_cat ha).2.1 (by omega), (qR_cat hb).2.1 (by omega)⟩, rfl, ha, hb, ha, hs2⟩
  · cases hs
theorem qbias_ok {E : mE} (x : Int32) : qR E (0, qbias x, qbias x) (.int x) := by
  have hb := fb_rng x
  refine qR_mkI ?_ ?_ <;> (unfold qbias; omega)
end
section
/-! ===== each step of the abstract machine: what reads, writes or makes something of the heap ===== -/
theorem mobjE_at {E : mE} {h : List mO} {a : Nat} {o : Nat × List Value} (h1 : E.length ≤ a) (h2 : h[a - E.length]? = some (.inr o)) : mobjE E h a = some o := by
  unfold mobjE
  rw [if_neg (by omega), h2]
theorem mobjE_out {E : mE} {h : List mO} {a : Nat} {o : Nat × List Value} (h1 : a < E.length) (h2 : E[a]? = some (.inr o)) : mobjE E h a = some o := by
  unfold mobjE
  rw [if_pos h1, h2]
theorem mget_at2 {X : Nat} {h : List mO} {a : Nat} {o : mO} (h1 : X ≤ a) (h2 : h[a - X]? = some o) : mget X h a = some o := by
  unfold mget
  rw [if_neg (by omega), h2]
theorem mrow_at {X t : Nat} {h : List mO} {a : Nat} {x : Nat × List (Nat × Value)} (h1 : X ≤ a) (h2 : h[a - X]? = some (.inl (t, x))) : mrow X t h a = some x := by
  unfold mrow
  rw [mget_at2 h1 h2]
  dsimp only
  rw [if_pos rfl]
theorem qgetf_ok {E : mE} {X x y z : Nat} {lv : qL} {st : List qV} {w : qW} {T : qT} {stc : List Value} {h : mH} (hs : qgetf X x y z lv st w = some T) (hX : X = E.length) (hst : qS E st stc) (hw : qWr E w h) (hcl : (mCl[z]?).isSome = true) : ∃ (st' : List qV) (stc' : List Value), T = (y, lv, st', w) ∧ qS E st' stc' ∧ ∀ pc idx n k : Nat, pc + 3 = y → mheap E (pc, .getfield idx, n, z, x, k) stc h = some (y, stc', h) := by
  unfold qgetf at hs
  split at hs
  · rename_i a r
    obtain ⟨va, sa, rfl, ha, hs1⟩ := qS_c hst
    obtain ⟨ta, hs⟩ := qg_beq hs
    obtain ⟨t1, hs⟩ := qg_ble hs
    obtain ⟨t2, hs⟩ := qg_ble hs
    split at hs
    rename_i k c n f he
    obtain ⟨t3, hs⟩ := qg_beq hs
    obtain ⟨t4, hs⟩ := qg_beq hs
    obtain ⟨t5, hs⟩ := qg_ble hs
    cases hs
    rw [qR_ref ha ta]
    obtain ⟨xo, ho, g1, g2, g3⟩ := qW_obj hw (by omega) t2 he t3
    have hlt : x < xo.2.length := by omega
    have hv := List.getElem?_eq_getElem hlt
    refine ⟨_, xo.2[x] :: sa, rfl, ⟨g3 x _ hv, hs1⟩, fun pc idx n9 k9 hy => ?_⟩
    obtain ⟨cl, hcl⟩ := Option.isSome_iff_exists.mp hcl
    simp only [mheap]
    rw [mobjE_at (by omega) ho]
    dsimp only
    rw [if_pos (by omega), hcl]
    dsimp only
    rw [hv, hy]
  · cases hs
theorem qfit_ok {E : mE} {u : Nat} {v : qV} {val : Value} {ty : FieldType} (hf : qfit u v = true) (hu : u = qfk ty) (hr : qR E v val) : narrow ty val = val ∧ fits ty val = true := by
  unfold qfit at hf
  simp only [qif_beq, qif_ble] at hf
  subst hu
  have hi : v.1 = 0 → ∃ i, val = .int i := fun e => by
    obtain ⟨i, hi, -⟩ := qR_int hr e
    exact ⟨i, hi⟩
  have href : (if v.1 = 1 then true else Nat.beq v.1 2) = true → ∀ ty9 : FieldType, (∃ C, ty9 = .object C) ∨ (∃ C, ty9 = .array C) → narrow ty9 val = val ∧ fits ty9 val = true := by
    intro e ty9 h9
    have hv : (∃ q, val = .ref q) ∨ val = .null := by
      by_cases e1 : v.1 = 1
      · exact Or.inl ⟨_, qR_ref hr e1⟩
      · rw [if_neg e1] at e
        exact Or.inr (qR_null hr (Nat.eq_of_beq_eq_true e))
    rcases h9 with ⟨C, rfl⟩ | ⟨C, rfl⟩ <;> rcases hv with ⟨q, rfl⟩ | rfl <;> exact ⟨rfl, rfl⟩
  cases ty
  case int =>
    obtain ⟨i, rfl⟩ := hi (Nat.eq_of_beq_eq_true (by simpa [qfk] using hf))
    exact ⟨rfl, rfl⟩
  case boolean =>
    simp only [qfk, if_neg (show ¬ (1 : Nat) = 0 by decide), if_true] at hf
    by_cases e : v.1 = 0
    · rw [if_pos e] at hf
      by_cases e1 : 2147483648 ≤ v.2.1
      · rw [if_pos e1] at hf
        have e2 := Nat.le_of_ble_eq_true hf
        obtain ⟨i, rfl, i1, i2⟩ := qR_int hr e
        have h3 : i = 0 ∨ i = 1 := by
          rw [fa_eq, fa_eq]
          show i.toInt = 0 ∨ i.toInt = 1
          omega
        rcases h3 with rfl | rfl <;> exact ⟨rfl, rfl⟩
      · rw [if_neg e1] at hf; cases hf
    · rw [if_neg e] at hf; cases hf
  case object C => exact href (by simpa [qfk] using hf) _ (Or.inl ⟨C, rfl⟩)
  case array C => exact href (by simpa [qfk] using hf) _ (Or.inr ⟨C, rfl⟩)
  all_goals simp [qfk] at hf
theorem qputf_ok {E : mE} {X x y z u : Nat} {lv : qL} {st : List qV} {w : qW} {T : qT} {stc : List Value} {h : mH} (hs : qputf X x y z u lv st w = some T) (hX : X = E.length) (hst : qS E st stc) (hw : qWr E w h) (hcl : (mCl[z]?).isSome = true) (hu : u = qfk (mfty z x)) : ∃ (st' : List qV) (stc' : List Value) (w' : qW) (h' : mH), T = (y, lv, st', w') ∧ qS E st' stc' ∧ qWr E w' h' ∧ ∀ pc idx n k : Nat, pc + 3 = y → mheap E (pc, .putfield idx, n, z, x, k) stc h = some (y, stc', h') := by
  unfold qputf at hs
  split at hs
  · rename_i v a r
    obtain ⟨vv, sv, rfl, hv, hs1⟩ := qS_c hst
    obtain ⟨va, sa, rfl, ha, hs2⟩ := qS_c hs1
    obtain ⟨t0, hs⟩ := qg_some hs
    obtain ⟨ta, hs⟩ := qg_beq hs
    obtain ⟨t1, hs⟩ := qg_ble hs
    obtain ⟨t2, hs⟩ := qg_ble hs
    split at hs
    rename_i k c n f he
    obtain ⟨t3, hs⟩ := qg_beq hs
    obtain ⟨t4, hs⟩ := qg_beq hs
    obtain ⟨t5, hs⟩ := qg_ble hs
    cases hs
    rw [qR_ref ha ta]
    obtain ⟨xo, ho, g1, g2, g3⟩ := qW_obj hw (by omega) t2 he t3
    have hlt : x < xo.2.length := by omega
    obtain ⟨f1, f2⟩ := qfit_ok t0 hu hv
    have hnew : qOr E (1, c, n, qfld f x v) (.inr (xo.1, xo.2.set x vv)) := by
      refine ⟨rfl, g1, by rw [List.length_set]; exact g2, fun j u9 hj => ?_⟩
      show qR E (qif (Nat.beq j x) v (f j)) u9
      rw [qif_beq]
      rw [List.getElem?_set] at hj
      by_cases e : x = j
      · rw [if_pos e.symm]
        rw [if_pos e] at hj
        have hj2 : some vv = some u9 := by
          rw [← hj]
          simp [hlt]
        cases hj2
        exact hv
      · rw [if_neg (fun e9 => e e9.symm)]
        rw [if_neg e] at hj
        exact g3 j u9 hj
    refine ⟨_, sa, _, _, rfl, hs2, qW_put hw (by omega) hnew, fun pc idx n9 k9 hy => ?_⟩
    obtain ⟨cl, hcl⟩ := Option.isSome_iff_exists.mp hcl
    simp only [mheap]
    rw [mget_at2 (by omega) ho]
    dsimp only
    rw [if_pos (by omega), hcl]
    dsimp only
    rw [if_pos ⟨hlt, f1, f2⟩, hy]
  · cases hs
theorem qald_ok {E : mE} {X t y : Nat} {bx : qX} {lv : qL} {st : List qV} {w : qW} {T : qT} {stc : List Value} {h : mH} (hs : qald X bx t y lv st w = some T) (hE : qEok E X bx) (hst : qS E st stc) (hw : qWr E w h) : ∃ (st' : List qV) (stc' : List Value), T = (y, lv, st', w) ∧ qS E st' stc' ∧ (t = 0 → ∀ pc n a b k : Nat, pc + 1 = y → mheap E (pc, .iaload, n, a, b, k) stc h = some (y, stc', h)) ∧ (t = 1 → ∀ pc n a b k : Nat, pc + 1 = y → mheap E (pc, .laload, n, a, b, k) stc h = some (y, stc', h)) ∧ (t = 3 → ∀ pc n a b k : Nat, pc + 1 = y → mheap E (pc, .aaload, n, a, b, k) stc h = some (y, stc', h)) := by
  obtain ⟨hX, ⟨fs, hfs, hfb⟩, -, ⟨fc, hfc, hfq⟩⟩ := hE
  unfold qald at hs
  split at hs
  · rename_i i a r
    obtain ⟨vi, si, rfl, hi, hs1⟩ := qS_c hst
    obtain ⟨va, sa, rfl, ha, hs2⟩ := qS_c hs1
    obtain ⟨ti, hs⟩ := qg_beq hs
    obtain ⟨ta, hs⟩ := qg_beq hs
    obtain ⟨t1, hs⟩ := qg_ble hs
    obtain ⟨iv, rfl, i1, i2⟩ := qR_int hi ti
    rw [qR_ref ha ta]
    rw [qif_ble] at hs
    by_cases hq : X ≤ a.2.1
    · rw [if_pos hq] at hs
      obtain ⟨t2, hs⟩ := qg_ble hs
      obtain ⟨t3, hs⟩ := qg_beq hs
      split at hs
      rename_i k c n f he
      obtain ⟨t4, hs⟩ := qg_beq hs
      obtain ⟨t5, hs⟩ := qg_beq hs
      obtain ⟨t6, hs⟩ := qg_ble hs
      cases hs
      obtain ⟨⟨t0, n0, u0⟩, ho, g1, g2, g3⟩ := qW_row hw (by omega) t2 he t4
      dsimp only at g1 g2 g3
      have ht0 : t0 = t := by omega
      subst ht0
      obtain ⟨k1, k2⟩ := qnat (x := iv) (n := i.2.1) (by omega) t1
      have hlt : i.2.1 - 2147483648 < n0 := by
        have h9 : Nat.succ (Nat.sub i.2.1 2147483648) ≤ n := t6
        rw [q_sb] at h9
        omega
      have hcond : ¬ (iv < 0 ∨ n0 ≤ i.2.1 - 2147483648) := fun h9 => h9.elim k2 (fun h8 => by omega)
      have hv := g3 _ hlt
      refine ⟨_, mval t0 u0 (i.2.1 - 2147483648) :: sa, rfl, ⟨hv, hs2⟩, fun e pc n9 a9 b9 k9 hy => ?_, fun e pc n9 a9 b9 k9 hy => ?_, fun e pc n9 a9 b9 k9 hy => ?_⟩
      · subst e
        simp only [mheap]
        rw [if_neg (show ¬ a.2.1 < E.length by omega), mrow_at (by omega) ho]
        dsimp only
        rw [k1, if_neg hcond, hy]
        rfl
      · subst e
        simp only [mheap]
        rw [mrow_at (by omega) ho]
        dsimp only
        rw [if_pos (show mTys[1]? = some .long from rfl), k1, if_neg hcond, hy]
        rfl
      · subst e
        simp only [mheap]
        rw [if_neg (show ¬ a.2.1 < E.length by omega), mrow_at (by omega) ho]
        dsimp only
        rw [show (mTys[3]? : Option FieldType) = some (.object "java/lang/Object") from rfl]
        dsimp only
        rw [k1, if_neg hcond, hy]
        rfl
    · rw [if_neg hq, qif_beq] at hs
      by_cases ht : t = 0
      · rw [if_pos ht] at hs
        obtain ⟨t2, hs⟩ := qg_beq hs
        obtain ⟨t3, hs⟩ := qg_beq hs
        obtain ⟨t4, hs⟩ := qg_ble hs
        cases hs
        obtain ⟨k1, k2⟩ := qnat (x := iv) (n := i.2.1) (by omega) t1
        have hlt : i.2.1 - 2147483648 < bx.1 := t4
        have hcond : ¬ (iv < 0 ∨ bx.1 ≤ i.2.1 - 2147483648) := fun h9 => h9.elim k2 (fun h8 => by omega)
        refine ⟨_, .int (fs (i.2.1 - 2147483648)) :: sa, rfl, ⟨hfb _ hlt, hs2⟩, fun e pc n9 a9 b9 k9 hy => ?_, fun e => by omega, fun e => by omega⟩
        simp only [mheap]
        rw [if_pos (show a.2.1 < E.length by omega), t2, hfs]
        rw [k1]
        show (if (iv < 0 ∨ bx.1 ≤ i.2.1 - 2147483648) then none else some (pc + 1, Value.int (fs (i.2.1 - 2147483648)) :: sa, h)) = _
        rw [if_neg hcond, hy]
      · rw [if_neg ht] at hs
        obtain ⟨t2, hs⟩ := qg_beq hs
        obtain ⟨t3, hs⟩ := qg_beq hs
        obtain ⟨t4, hs⟩ := qg_ble hs
        cases hs
        have k2 : ¬ iv < 0 := fun h9 => by
          have := qlt0.mp h9
          omega
        have k1 : iv.toNatClampNeg < 256 := by
          show iv.toInt.toNat < 256
          omega
        obtain ⟨q, g, f1, f2, f3⟩ := hfq _ k1
        have hcond : ¬ (iv < 0 ∨ 256 ≤ iv.toNatClampNeg) := fun h9 => h9.elim k2 (fun h8 => by omega)
        refine ⟨_, .ref q :: sa, rfl, ⟨⟨q, g, rfl, f2, f3⟩, hs2⟩, fun e => by omega, fun e => by omega, fun e pc n9 a9 b9 k9 hy => ?_⟩
        simp only [mheap]
        rw [if_pos (show a.2.1 < E.length by omega), t3, hfc]
        dsimp only
        rw [show (mETys[4]? : Option FieldType) = some (.object "java/lang/Integer") from rfl]
        dsimp only
        rw [if_neg hcond, f1, hy]
        rfl
  · cases hs
theorem mval_0 (u : List (Nat × Value)) (i j : Nat) (x : Int32) : mval 0 ((i, .int x) :: u) j = if i = j then .int x else mval 0 u j := by
  by_cases h : i = j
  · simp [mval, mupI, mup, h]
  · simp [mval, mupI, mup, h]
theorem mval_1 (u : List (Nat × Value)) (i j : Nat) (x : Int64) : mval 1 ((i, .long x) :: u) j = if i = j then .long x else mval 1 u j := by
  by_cases h : i = j
  · simp [mval, mupL, mup, h]
  · simp [mval, mupL, mup, h]
theorem mval_3 (u : List (Nat × Value)) (i j x : Nat) : mval 3 ((i, .ref x) :: u) j = if i = j then .ref x else mval 3 u j := by
  by_cases h : i = j
  · simp [mval, mupR, mup, h, va_rf]
  · simp [mval, mupR, mup, h]
theorem qcast0 : mcast 0 "java/lang/Object" = true := by decide +kernel
theorem qast_ok {E : mE} {X t y : Nat} {lv : qL} {st : List qV} {w : qW} {T : qT} {stc : List Value} {h : mH} (hs : qast X t y lv st w = some T) (hX : X = E.length) (hst : qS E st stc) (hw : qWr E w h) : ∃ (st' : List qV) (stc' : List Value) (w' : qW) (h' : mH), T = (y, lv, st', w') ∧ qS E st' stc' ∧ qWr E w' h' ∧ (t = 0 → ∀ pc n a b k : Nat, pc + 1 = y → mheap E (pc, .iastore, n, a, b, k) stc h = some (y, stc', h')) ∧ (t = 1 → ∀ pc n a b k : Nat, pc + 1 = y → mheap E (pc, .lastore, n, a, b, k) stc h = some (y, stc', h')) ∧ (t = 3 → ∀ pc n a b k : Nat, pc + 1 = y → mheap E (pc, .aastore, n, a, b, k) stc h = some (y, stc', h')) := by
  unfold qast at hs
  split at hs
  · rename_i v i a r
    obtain ⟨vv, sv, rfl, hv, hs0⟩ := qS_c hst
    obtain ⟨vi, si, rfl, hi, hs1⟩ := qS_c hs0
    obtain ⟨va, sa, rfl, ha, hs2⟩ := qS_c hs1
    obtain ⟨tv, hs⟩ := qg_some hs
    obtain ⟨ti, hs⟩ := qg_beq hs
    obtain ⟨t3, hs⟩ := qg_beq hs
    obtain ⟨ta, hs⟩ := qg_beq hs
    obtain ⟨t1, hs⟩ := qg_ble hs
    obtain ⟨hq, hs⟩ := qg_ble hs
    obtain ⟨t2, hs⟩ := qg_ble hs
    obtain ⟨iv, rfl, i1, i2⟩ := qR_int hi ti
    rw [qR_ref ha ta]
    split at hs
    rename_i k c n f he
    obtain ⟨t4, hs⟩ := qg_beq hs
    obtain ⟨t5, hs⟩ := qg_beq hs
    obtain ⟨t6, hs⟩ := qg_ble hs
    cases hs
    obtain ⟨⟨t0, n0, u0⟩, ho, g1, g2, g3⟩ := qW_row hw (by omega) t2 he t4
    dsimp only at g1 g2 g3
    have ht0 : t0 = t := by omega
    subst ht0
    obtain ⟨k1, k2⟩ := qnat (x := iv) (n := i.2.1) (by omega) t1
    have hlt : i.2.1 - 2147483648 < n0 := by
      have h9 : Nat.succ (Nat.sub i.2.1 2147483648) ≤ n := t6
      rw [q_sb] at h9
      omega
    have hcond : ¬ (iv < 0 ∨ n0 ≤ i.2.1 - 2147483648) := fun h9 => h9.elim k2 (fun h8 => by omega)
    have hnew : (∀ j, mval t0 ((i.2.1 - 2147483648, vv) :: u0) j = if i.2.1 - 2147483648 = j then vv else mval t0 u0 j) → qOr E (0, c, n, qfld f (Nat.sub i.2.1 2147483648) v) (.inl (t0, n0, (i.2.1 - 2147483648, vv) :: u0)) := by
      intro hmv
      refine ⟨rfl, g1, g2, fun j hj => ?_⟩
      show qR E (qif (Nat.beq j (Nat.sub i.2.1 2147483648)) v (f j)) (mval t0 ((i.2.1 - 2147483648, vv) :: u0) j)
      rw [qif_beq, hmv, q_sb]
      by_cases e : j = i.2.1 - 2147483648
      · rw [if_pos e, if_pos e.symm]; exact hv
      · rw [if_neg e, if_neg (fun e9 => e e9.symm)]; exact g3 j hj
    unfold qel at tv
    simp only [qif_beq] at tv
    by_cases e0 : t0 = 0
    · rw [if_pos e0] at tv
      obtain ⟨x, rfl, -⟩ := qR_int hv (Nat.eq_of_beq_eq_true tv)
      subst e0
      refine ⟨_, sa, _, _, rfl, hs2, qW_put hw (by omega) (hnew (fun j => mval_0 u0 _ j x)), fun e pc n9 a9 b9 k9 hy => ?_, fun e => by omega, fun e => by omega⟩
      simp only [mheap]
      rw [mrow_at (by omega) ho]
      dsimp only
      rw [k1, if_neg hcond, hy]
    · rw [if_neg e0] at tv
      by_cases e1 : t0 = 1
      · rw [if_pos e1] at tv
        have hvl := qR_long hv (Nat.eq_of_beq_eq_true tv)
        subst hvl
        subst e1
        refine ⟨_, sa, _, _, rfl, hs2, qW_put hw (by omega) (hnew (fun j => mval_1 u0 _ j _)), fun e => by omega, fun e pc n9 a9 b9 k9 hy => ?_, fun e => by omega⟩
        simp only [mheap]
        rw [mrow_at (by omega) ho]
        dsimp only
        rw [if_pos (show mTys[1]? = some .long from rfl), k1, if_neg hcond, hy]
      · rw [if_neg e1] at tv
        by_cases e3 : t0 = 3
        · rw [if_pos e3] at tv
          obtain ⟨q, g, rfl, f2, f3⟩ := qR_box hv (Nat.eq_of_beq_eq_true tv)
          subst e3
          refine ⟨_, sa, _, _, rfl, hs2, qW_put hw (by omega) (hnew (fun j => mval_3 u0 _ j q)), fun e => by omega, fun e => by omega, fun e pc n9 a9 b9 k9 hy => ?_⟩
          simp only [mheap]
          rw [mrow_at (by omega) ho, mobjE_out f2 f3]
          dsimp only
          rw [show (mTys[3]? : Option FieldType) = some (.object "java/lang/Object") from rfl]
          dsimp only
          rw [if_pos qcast0, k1, if_neg hcond, hy]
        · rw [if_neg e3] at tv; cases tv
  · cases hs
theorem qlen_ok {E : mE} {X y : Nat} {bx : qX} {lv : qL} {st : List qV} {w : qW} {T : qT} {stc : List Value} {h : mH} (hs : qlen X bx y lv st w = some T) (hE : qEok E X bx) (hst : qS E st stc) (hw : qWr E w h) : ∃ (st' : List qV) (stc' : List Value), T = (y, lv, st', w) ∧ qS E st' stc' ∧ ∀ pc n a b k : Nat, pc + 1 = y → mheap E (pc, .arraylength, n, a, b, k) stc h = some (y, stc', h) := by
  obtain ⟨hX, ⟨fs, hfs, hfb⟩, ⟨fe, hfe⟩, ⟨fc, hfc, hfq⟩⟩ := hE
  have h0l : 0 < E.length := (List.getElem?_eq_some_iff.mp hfs).1
  have h2l : 2 < E.length := (List.getElem?_eq_some_iff.mp hfe).1
  have hmk : ∀ n : Nat, n ≤ 2147483647 → qR E (0, Nat.add n 2147483648, Nat.add n 2147483648) (.int (Int32.ofNat n)) := fun n hn => by
    have e := qsmall (k := n) (by omega)
    exact qR_mkI (by rw [e, q_ad]; omega) (by rw [e, q_ad]; omega)
  unfold qlen at hs
  split at hs
  · rename_i a r
    obtain ⟨va, sa, rfl, ha, hs2⟩ := qS_c hst
    obtain ⟨ta, hs⟩ := qg_beq hs
    rw [qR_ref ha ta]
    rw [qif_ble] at hs
    by_cases hq : X ≤ a.2.1
    · rw [if_pos hq] at hs
      obtain ⟨t2, hs⟩ := qg_ble hs
      split at hs
      rename_i k c n f he
      obtain ⟨t4, hs⟩ := qg_beq hs
      obtain ⟨t5, hs⟩ := qg_ble hs
      obtain ⟨t6, hs⟩ := qg_ble hs
      cases hs
      obtain ⟨⟨t0, n0, u0⟩, ho, g1, g2, g3⟩ := qW_row hw (by omega) t2 he t4
      dsimp only at g1 g2 g3
      subst g1
      subst g2
      refine ⟨_, .int (Int32.ofNat n) :: sa, rfl, ⟨hmk n t6, hs2⟩, fun pc n9 a9 b9 k9 hy => ?_⟩
      simp only [mheap]
      rw [if_neg (show ¬ a.2.1 < E.length by omega), mget_at2 (by omega) ho]
      dsimp only
      obtain ⟨ty, hty⟩ : ∃ ty, mTys[c]? = some ty := by
        match c, t5 with
        | 0, _ => exact ⟨_, rfl⟩
        | 1, _ => exact ⟨_, rfl⟩
        | 2, _ => exact ⟨_, rfl⟩
        | 3, _ => exact ⟨_, rfl⟩
      rw [if_pos t5, hty, hy]
    · rw [if_neg hq, qif_beq] at hs
      by_cases h0 : a.2.1 = 0
      · rw [if_pos h0] at hs
        obtain ⟨t6, hs⟩ := qg_ble hs
        cases hs
        refine ⟨_, .int (Int32.ofNat bx.1) :: sa, rfl, ⟨hmk bx.1 t6, hs2⟩, fun pc n9 a9 b9 k9 hy => ?_⟩
        simp only [mheap]
        rw [if_pos (show a.2.1 < E.length by omega), h0, hfs]
        dsimp only
        rw [show (mTys[0]? : Option FieldType) = some .int from rfl, hy]
      · rw [if_neg h0] at hs
        obtain ⟨h2, hs⟩ := qg_beq hs
        cases hs
        refine ⟨_, .int (Int32.ofNat 0) :: sa, rfl, ⟨qR_mkI (by decide) (by decide), hs2⟩, fun pc n9 a9 b9 k9 hy => ?_⟩
        simp only [mheap]
        rw [if_pos (show a.2.1 < E.length by omega), h2, hfe]
        dsimp only
        rw [show (mTys[3]? : Option FieldType) = some (.object "java/lang/Object") from rfl, hy]
  · cases hs
theorem qdef_ok {E : mE} {a N j : Nat} {v : Value} (hf : (List.range N).all (fun j => decide (mfty a j ≠ .float)) = true) (hv : (mdef a N)[j]? = some v) : qR E (qdef a j) v := by
  unfold mdef at hv
  rw [List.getElem?_map] at hv
  obtain ⟨k, hk, hv⟩ := Option.map_eq_some_iff.mp hv
  obtain ⟨hlt, hk2⟩ := List.getElem?_eq_some_iff.mp hk
  rw [List.getElem_range] at hk2
  subst hk2
  rw [List.length_range] at hlt
  have h1 := of_decide_eq_true (List.all_eq_true.mp hf j (List.mem_range.mpr hlt))
  subst hv
  unfold qdef
  cases hty : mfty a j
  case float => exact absurd hty h1
  case long => exact qR_mkL (n := 0) (m := 0)
  case double => exact ⟨_, rfl⟩
  case object C => exact (show Value.null = Value.null from rfl)
  case array C => exact (show Value.null = Value.null from rfl)
  all_goals exact qR_mkI (by decide) (by decide)
theorem mdef_len (a N : Nat) : (mdef a N).length = N := by simp [mdef]
theorem qnew_ok {E : mE} {x y z : Nat} {lv : qL} {st : List qV} {w : qW} {T : qT} {stc : List Value} {h : mH} (hs : qnew x y z lv st w = some T) (hst : qS E st stc) (hw : qWr E w h) {cl : vw_C} (hcl : mCl[z]? = some cl) (hN : cl.2.2 = x) (hf : (List.range x).all (fun j => decide (mfty z j ≠ .float)) = true) : ∃ (st' : List qV) (stc' : List Value) (w' : qW) (h' : mH), T = (y, lv, st', w') ∧ qS E st' stc' ∧ qWr E w' h' ∧ ∀ pc idx n b k : Nat, pc + 3 = y → mheap E (pc, .new idx, n, z, b, k) stc h = some (y, stc', h') := by
  unfold qnew at hs
  cases hs
  subst hN
  refine ⟨_, .ref (E.length + h.1.length) :: stc, _, _, rfl, ⟨?_, hst⟩, qW_push hw (c := .inr (z, mdef z cl.2.2)) ⟨rfl, rfl, (mdef_len _ _).symm, fun j v hv => qdef_ok hf hv⟩, fun pc idx n b k hy => ?_⟩
  · rw [← hw.1]; exact qR_mkR
  · simp only [mheap]
    rw [hcl, hy]
theorem qdefR_ok {E : mE} (t j : Nat) : qR E (qdefR t) (mval t [] j) := by
  unfold qdefR
  simp only [qif_beq]
  match t with
  | 0 => exact qR_mkI (x := 0) (by decide) (by decide)
  | 1 => exact qR_mkL (n := 0) (m := 0)
  | 2 => exact ⟨_, rfl⟩
  | k + 3 => exact (show Value.null = Value.null from rfl)
theorem qnewa_ok {E : mE} {y z : Nat} {lv : qL} {st : List qV} {w : qW} {T : qT} {stc : List Value} {h : mH} (hs : qnewa y z lv st w = some T) (hst : qS E st stc) (hw : qWr E w h) : ∃ (n : Int32) (rc : List Value) (st' : List qV) (w' : qW), stc = .int n :: rc ∧ ¬ n < 0 ∧ n.toNatClampNeg * 8 ≤ 536870912 ∧ T = (y, lv, st', w') ∧ qS E st' (.ref (E.length + h.1.length) :: rc) ∧ qWr E w' (h.1 ++ [.inl (z, n.toNatClampNeg, [])], h.2.1 + 1, h.2.2 + n.toNatClampNeg) := by
  unfold qnewa at hs
  split at hs
  · rename_i a r
    obtain ⟨va, sa, rfl, ha, hs2⟩ := qS_c hst
    obtain ⟨ta, hs⟩ := qg_beq hs
    obtain ⟨t1, hs⟩ := qg_beq hs
    obtain ⟨t2, hs⟩ := qg_ble hs
    obtain ⟨t3, hs⟩ := qg_ble hs
    obtain ⟨iv, rfl, i1, i2⟩ := qR_int ha ta
    obtain ⟨k1, k2⟩ := qnat (x := iv) (n := a.2.1) (by omega) t2
    cases hs
    refine ⟨iv, sa, _, _, rfl, k2, by rw [k1]; omega, rfl, ⟨by rw [← hw.1]; exact qR_mkR, hs2⟩, ?_⟩
    rw [k1]
    exact qW_push hw ⟨rfl, rfl, rfl, fun j _ => qdefR_ok z j⟩
  · cases hs
theorem qmw {E : mE} {r : List qV} {rc : List Value} (hs : qS E r rc) (hl : r.length ≤ 4) : mwords rc ≤ 8 := by
  have h1 := mwords_le rc (fun v _ => cat_le v)
  have h2 := qS_len hs
  omega
theorem qgetc_ok {E : mE} {X x y : Nat} {lv : qL} {st : List qV} {w : qW} {T : qT} {stc : List Value} {h : mH} (hs : qgetc X x y lv st w = some T) (hX : X = E.length) (hst : qS E st stc) (hw : qWr E w h) {z : String × Nat} (hz : mMir[0]? = some z) (hz1 : z.1 = "[Ljava/lang/Object;" ∧ mTys[3]? = some (.object "java/lang/Object")) (hx : x = z.2) : ∃ (st' : List qV) (stc' : List Value), T = (y, lv, st', w) ∧ qS E st' stc' ∧ ∀ pc idx n b k : Nat, pc + 3 = y → mheap E (pc, .invokevirtual idx, n, 994, b, k) stc h = some (y, stc', h) := by
  unfold qgetc at hs
  split at hs
  · rename_i a r
    obtain ⟨va, sa, rfl, ha, hs2⟩ := qS_c hst
    obtain ⟨ta, hs⟩ := qg_beq hs
    obtain ⟨t1, hs⟩ := qg_ble hs
    obtain ⟨t2, hs⟩ := qg_ble hs
    split at hs
    rename_i k c n f he
    obtain ⟨t4, hs⟩ := qg_beq hs
    obtain ⟨t5, hs⟩ := qg_beq hs
    obtain ⟨t6, hs⟩ := qg_ble hs
    cases hs
    rw [qR_ref ha ta]
    obtain ⟨⟨t0, n0, u0⟩, ho, g1, g2, g3⟩ := qW_row hw (by omega) t2 he t4
    dsimp only at g1 g2 g3
    have h3 : t0 = 3 := by omega
    subst h3
    refine ⟨_, .ref x :: sa, rfl, ⟨qR_mkR, hs2⟩, fun pc idx n b k hy => ?_⟩
    simp only [mheap]
    rw [if_true, mrow_at (by omega) ho, hz]
    dsimp only
    rw [if_pos ⟨hz1.2, hz1.1, qmw hs2 t6⟩, hy, hx]
  · cases hs
theorem qall_ok (f : Nat → qV) (sp : Nat) : ∀ n : Nat, qall f sp n = true → ∀ i, i < n → (f (sp + i)).1 = 3 ∨ (f (sp + i)).1 = 2 := by
  intro n
  induction n with
  | zero => intro _ i hi; exact absurd hi (Nat.not_lt_zero i)
  | succ n ih =>
    intro h i hi
    have h1 : qif (qif (Nat.beq (f (Nat.add sp n)).1 3) true (Nat.beq (f (Nat.add sp n)).1 2)) (qall f sp n) false = true := h
    have h2 : qif (Nat.beq (f (Nat.add sp n)).1 3) true (Nat.beq (f (Nat.add sp n)).1 2) = true ∧ qall f sp n = true := by
      cases hb : qif (Nat.beq (f (Nat.add sp n)).1 3) true (Nat.beq (f (Nat.add sp n)).1 2)
      · rw [hb] at h1; cases h1
      · rw [hb] at h1; exact ⟨rfl, h1⟩
    by_cases e : i = n
    · subst e
      have h3 := h2.1
      rw [qif_beq] at h3
      by_cases e3 : (f (Nat.add sp i)).1 = 3
      · exact Or.inl e3
      · rw [if_neg e3] at h3
        exact Or.inr (Nat.eq_of_beq_eq_true h3)
    · exact ih h2.2 i (by omega)
theorem mcpW_val (u y : List (Nat × Value)) (sp dp n j : Nat) : mval 3 (mcpW u sp dp n ++ y) j = if dp ≤ j ∧ j < dp + n then mval 3 u (sp + (j - dp)) else mval 3 y j := by
  show va_rf (mupR (mcpW u sp dp n ++ y) j) = _
  unfold mupR mcpW
  rw [mup_app, mup_rng dp (fun i => va_rf (mupR u (sp + i)))]
  by_cases h : dp ≤ j ∧ j < dp + n
  · rw [if_pos h, if_pos h]
    dsimp only
    show _ = va_rf (mupR u (sp + (j - dp)))
    cases mupR u (sp + (j - dp)) <;> rfl
  · rw [if_neg h, if_neg h]
    rfl
theorem qcopy_el {E : mE} {fs fd : Nat → qV} {u y : List (Nat × Value)} {S D N n0 n9 j : Nat} (g3 : ∀ j, j < n0 → qR E (fs j) (mval 3 u j)) (e3 : ∀ j, j < n9 → qR E (fd j) (mval 3 y j)) (hS : S + N ≤ n0) (hj : j < n9) : qR E (qif (Nat.ble D j) (qif (Nat.ble (Nat.succ j) (Nat.add D N)) (fs (Nat.add S (Nat.sub j D))) (fd j)) (fd j)) (mval 3 (mcpW u S D N ++ y) j) := by
  rw [qif_ble, qif_ble, mcpW_val, q_ad, q_ad, q_sb]
  by_cases h1 : D ≤ j
  · rw [if_pos h1]
    by_cases h2 : Nat.succ j ≤ D + N
    · rw [if_pos h2, if_pos ⟨h1, h2⟩]
      exact g3 _ (by omega)
    · rw [if_neg h2, if_neg (fun h9 => h2 h9.2)]
      exact e3 j hj
  · rw [if_neg h1, if_neg (fun h9 => h1 h9.1)]
    exact e3 j hj
theorem qcopy1_ok {E : mE} {X y N D S d s : Nat} {lv : qL} {r : List qV} {w : qW} {T : qT} {ss : List Value} {h : mH} {iN iD iS : Int32} (hs : qcopy1 X y N D S d s lv r w = some T) (hX : X = E.length) (hs5 : qS E r ss) (hw : qWr E w h) (hty : mTys[3]? = some (.object "java/lang/Object")) (hca : mcast 0 "java/lang/Object" = true) (kN : iN.toNatClampNeg = N) (kD : iD.toNatClampNeg = D) (kS : iS.toNatClampNeg = S) (zN : ¬ iN < 0) (zD : ¬ iD < 0) (zS : ¬ iS < 0) : ∃ (w' : qW) (h' : mH), T = (y, lv, r, w') ∧ qWr E w' h' ∧ ∀ pc idx n b k : Nat, pc + 3 = y → mheap E (pc, .invokestatic idx, n, 993, b, k) (.int iN :: .int iD :: .ref d :: .int iS :: .ref s :: ss) h = some (y, ss, h') := by
  unfold qcopy1 at hs
  obtain ⟨b3, hs⟩ := qg_ble hs
  obtain ⟨b4, hs⟩ := qg_ble hs
  obtain ⟨b5, hs⟩ := qg_ble hs
  obtain ⟨b6, hs⟩ := qg_ble hs
  obtain ⟨b7, hs⟩ := qg_ble hs
  split at hs
  rename_i ks cs ns fs kd cd nd fd hes hed
  obtain ⟨c1, hs⟩ := qg_beq hs
  obtain ⟨c2, hs⟩ := qg_beq hs
  obtain ⟨c3, hs⟩ := qg_beq hs
  obtain ⟨c4, hs⟩ := qg_beq hs
  obtain ⟨c5, hs⟩ := qg_ble hs
  obtain ⟨c6, hs⟩ := qg_ble hs
  obtain ⟨c7, hs⟩ := qg_some hs
  cases hs
  simp only [q_ad] at c5 c6
  obtain ⟨⟨t0, n0, u0⟩, ho, g1, g2, g3⟩ := qW_row hw (by omega) b6 hes c1
  obtain ⟨⟨t9, n9, u9⟩, ho9, e1, e2, e3⟩ := qW_row hw (by omega) b5 hed c3
  dsimp only at g1 g2 g3 e1 e2 e3
  have h30 : t0 = 3 := by omega
  have h39 : t9 = 3 := by omega
  subst h30
  subst h39
  have hall := qall_ok _ _ _ c7
  have hok : (List.range N).all (mcpO E h.1 u0 S) = true := by
    rw [List.all_eq_true]
    intro i hi
    have hi2 := List.mem_range.mp hi
    have hr := g3 (S + i) (by omega)
    unfold mcpO
    rcases hall i hi2 with h9 | h9
    · obtain ⟨q, g, f1, f2, f3⟩ := qR_box hr h9
      have f1' : va_rf (mupR u0 (S + i)) = .ref q := f1
      cases hm : mupR u0 (S + i) with
      | none => rfl
      | some q2 =>
        rw [hm] at f1'
        cases f1'
        dsimp only
        rw [mobjE_out f2 f3]
        rfl
    · have f1' : va_rf (mupR u0 (S + i)) = .null := qR_null hr h9
      cases hm : mupR u0 (S + i) with
      | none => rfl
      | some q2 => rw [hm] at f1'; cases f1'
  refine ⟨_, (h.1.set (d - E.length) (.inl (3, n9, mcpW u0 S D N ++ u9)), h.2), rfl, qW_put hw (by omega) ⟨rfl, e1, e2, fun j hj => ?_⟩, fun pc idx n8 b8 k8 hy => ?_⟩
  · exact qcopy_el (S := S) (D := D) (N := N) g3 e3 (by rw [← g2]; exact c5) hj
  · simp only [mheap]
    rw [if_true, mrow_at (by omega) ho, mrow_at (by omega) ho9]
    dsimp only
    have hw8 := qmw hs5 b7
    rw [kN, kD, kS, if_neg (fun h9 => by
      rcases h9 with (h9 | h9 | h9) | (h9 | h9) | h9
      · exact zS h9
      · exact zD h9
      · exact zN h9
      · omega
      · omega
      · omega), if_pos ⟨hty, hca, hok⟩, hy]
theorem qnat2 {x : Int32} {n : Nat} (h1 : (n : Int) = x.toInt + 2147483648) (h2 : 2147483648 ≤ n) : x.toNatClampNeg = Nat.sub n 2147483648 ∧ ¬ x < 0 := by
  rw [q_sb]
  exact qnat h1 h2
theorem qcopy_ok {E : mE} {X y : Nat} {lv : qL} {st : List qV} {w : qW} {T : qT} {stc : List Value} {h : mH} (hs : qcopy X y lv st w = some T) (hX : X = E.length) (hst : qS E st stc) (hw : qWr E w h) (hty : mTys[3]? = some (.object "java/lang/Object")) (hca : mcast 0 "java/lang/Object" = true) : ∃ (st' : List qV) (stc' : List Value) (w' : qW) (h' : mH), T = (y, lv, st', w') ∧ qS E st' stc' ∧ qWr E w' h' ∧ ∀ pc idx n b k : Nat, pc + 3 = y → mheap E (pc, .invokestatic idx, n, 993, b, k) stc h = some (y, stc', h') := by
  unfold qcopy at hs
  split at hs
  · rename_i n dp d sp s r
    obtain ⟨vn, sn, rfl, hn, hs1⟩ := qS_c hst
    obtain ⟨vdp, sdp, rfl, hdp, hs2⟩ := qS_c hs1
    obtain ⟨vd, sd, rfl, hd, hs3⟩ := qS_c hs2
    obtain ⟨vsp, ssp, rfl, hsp, hs4⟩ := qS_c hs3
    obtain ⟨vs, ss, rfl, hsr, hs5⟩ := qS_c hs4
    obtain ⟨a1, hs⟩ := qg_beq hs
    obtain ⟨a2, hs⟩ := qg_beq hs
    obtain ⟨a3, hs⟩ := qg_beq hs
    obtain ⟨a4, hs⟩ := qg_beq hs
    obtain ⟨a5, hs⟩ := qg_beq hs
    obtain ⟨a6, hs⟩ := qg_beq hs
    obtain ⟨a7, hs⟩ := qg_ble hs
    obtain ⟨a8, hs⟩ := qg_ble hs
    obtain ⟨a9, hs⟩ := qg_ble hs
    obtain ⟨b1, hs⟩ := qg_beq hs
    obtain ⟨b2, hs⟩ := qg_beq hs
    obtain ⟨iN, rfl, n1, n2⟩ := qR_int hn a1
    obtain ⟨iD, rfl, d1, d2⟩ := qR_int hdp a2
    obtain ⟨iS, rfl, s1, s2⟩ := qR_int hsp a3
    have eN : (n.2.1 : Int) = iN.toInt + 2147483648 := by clear hs; omega
    have eD : (dp.2.1 : Int) = iD.toInt + 2147483648 := by clear hs; omega
    have eS : (sp.2.1 : Int) = iS.toInt + 2147483648 := by clear hs; omega
    obtain ⟨kN, zN⟩ := qnat2 eN a7
    obtain ⟨kD, zD⟩ := qnat2 eD a8
    obtain ⟨kS, zS⟩ := qnat2 eS a9
    rw [qR_ref hd b1, qR_ref hsr b2]
    obtain ⟨w', h', g1, g2, g3⟩ := qcopy1_ok hs hX hs5 hw hty hca kN kD kS zN zD zS
    exact ⟨r, ss, w', h', g1, hs5, g2, g3⟩
  · cases hs
end
section
/-! ===== a step of the abstract machine is a step of the small one ===== -/
theorem q_ifn {P Q : Prop} [Decidable P] [Decidable Q] {x y : Nat} (h : P ↔ ¬ Q) : (if P then x else y) = (if Q then y else x) := by
  by_cases hq : Q
  · rw [if_pos hq, if_neg (fun hp => h.mp hp hq)]
  · rw [if_neg hq, if_pos (h.mpr hq)]
theorem q0I : (0 : Int32).toInt = 0 := rfl
theorem q_lt0 {a : Int32} : a < 0 ↔ a.toInt < 0 := fa_lt a 0
theorem q_0le {a : Int32} : 0 ≤ a ↔ ¬ a.toInt < 0 := by
  rw [fa_le, q0I]
  omega
theorem q_0lt {a : Int32} : 0 < a ↔ 0 < a.toInt := fa_lt 0 a
theorem q_le0 {a : Int32} : a ≤ 0 ↔ ¬ 0 < a.toInt := by
  rw [fa_le, q0I]
  omega
theorem q_eq0 {a : Int32} : a = 0 ↔ a.toInt = 0 := fa_eq a 0
theorem q_le {a b : Int32} : a ≤ b ↔ ¬ b.toInt < a.toInt := by
  rw [fa_le]
  omega
theorem q_cong {α : Type} {x y : Nat} {b : α} (h : x = y) : some (x, b) = some (y, b) := by rw [h]
def qConc (E : mE) (nL : Nat) (e : mIns) (lvc : mLv) (stc : List Value) (h : mH) (T : qT) : Prop := ∃ (lvc' : mLv) (stc' : List Value) (h' : mH), ((mpure nL e lvc stc = some (T.1, lvc', stc') ∧ h' = h) ∨ (mpure nL e lvc stc = none ∧ lvc' = lvc ∧ mheap E e stc h = some (T.1, stc', h'))) ∧ qLr E T.2.1 lvc' ∧ qS E T.2.2.1 stc' ∧ qWr E T.2.2.2 h' ∧ minv e = false ∧ mterm e = false
theorem qpush_ok {y : Nat} {v : qV} {lv : qL} {st : List qV} {w : qW} {T : qT} (hs : qpush y v lv st w = some T) : T = (y, lv, v :: st, w) := by
  unfold qpush at hs
  cases hs
  rfl
set_option maxHeartbeats 4000000 in
theorem qstep_ok0 {E : mE} {X nL : Nat} {bx : qX} (hE : qEok E X bx) {e : mIns} {lv : qL} {st : List qV} {w : qW} {T : qT} (hs : qstep X bx nL (qenc e).1 (qenc e).2.1 (qenc e).2.2.1 (qenc e).2.2.2.1 (qenc e).2.2.2.2 e lv st w = some T) {lvc : mLv} {stc : List Value} {h : mH} (hl : qLr E lv lvc) (hst : qS E st stc) (hw : qWr E w h) : qConc E nL e lvc stc h T := by
  obtain ⟨pc, i, n, a, b, k⟩ := e
  have no : ∀ {op' x' y' z' u' : Nat} {e' : mIns}, op' = 99 ∨ (40 ≤ op' ∧ op' ≤ 46) → ∀ {T' : qT}, qstep X bx nL op' x' y' z' u' e' lv st w = some T' → False := by
    intro op' x' y' z' u' e' ho T' h9
    have h8 : (none : Option qT) = some T' := by
      rcases ho with rfl | ho
      · exact h9
      · have : op' = 40 ∨ op' = 41 ∨ op' = 42 ∨ op' = 43 ∨ op' = 44 ∨ op' = 45 ∨ op' = 46 := by omega
        rcases this with rfl | rfl | rfl | rfl | rfl | rfl | rfl <;> exact h9
    cases h8
  cases i
  case iconst m =>
    have hs2 := qpush_ok (y := pc + 1) (v := (0, qbias (Int32.ofInt m), qbias (Int32.ofInt m))) hs
    subst hs2
    exact ⟨lvc, _, h, Or.inl ⟨rfl, rfl⟩, hl, ⟨qbias_ok _, hst⟩, hw, rfl, rfl⟩
  case bipush m =>
    have hs2 := qpush_ok (y := pc + 2) (v := (0, qbias ((Int8.ofInt m).toInt32), qbias ((Int8.ofInt m).toInt32))) hs
    subst hs2
    exact ⟨lvc, _, h, Or.inl ⟨rfl, rfl⟩, hl, ⟨qbias_ok _, hst⟩, hw, rfl, rfl⟩
  case sipush m =>
    have hs2 := qpush_ok (y := pc + 3) (v := (0, qbias ((Int16.ofInt m).toInt32), qbias ((Int16.ofInt m).toInt32))) hs
    subst hs2
    exact ⟨lvc, _, h, Or.inl ⟨rfl, rfl⟩, hl, ⟨qbias_ok _, hst⟩, hw, rfl, rfl⟩
  case lconst m =>
    have hs2 := qpush_ok (y := pc + 1) (v := (5, (m : Nat), 0)) hs
    subst hs2
    exact ⟨lvc, _, h, Or.inl ⟨rfl, rfl⟩, hl, ⟨qR_mkL, hst⟩, hw, rfl, rfl⟩
  case dconst m =>
    by_cases h0 : (m : Nat) = 0
    · have he2 : qenc (pc, .dconst m, n, a, b, k) = (3, 0, pc + 1, 0, 0) := by simp only [qenc]; rw [if_pos h0]
      rw [he2] at hs
      have hs2 := qpush_ok (y := pc + 1) (v := (6, 0, 0)) hs
      subst hs2
      exact ⟨lvc, .double FP.dconst0 :: stc, h, Or.inl ⟨by simp only [mpure]; rw [if_pos h0], rfl⟩, hl, ⟨⟨_, rfl⟩, hst⟩, hw, rfl, rfl⟩
    · have he2 : qenc (pc, .dconst m, n, a, b, k) = (99, 0, 0, 0, 0) := by simp only [qenc]; rw [if_neg h0]
      rw [he2] at hs
      exact (no (Or.inl rfl) hs).elim
  case iload_n m =>
    obtain ⟨rfl, v, hv, hr, h9, -, -, -⟩ := qload_ok (x := (m : Nat)) (y := pc + 1) (z := 0) hs hl (Or.inl rfl)
    obtain ⟨i9, rfl⟩ := h9 rfl
    exact ⟨lvc, .int i9 :: stc, h, Or.inl ⟨by simp only [mpure]; rw [hv], rfl⟩, hl, ⟨hr, hst⟩, hw, rfl, rfl⟩
  case iload m =>
    obtain ⟨rfl, v, hv, hr, h9, -, -, -⟩ := qload_ok (x := m) (y := pc + 2) (z := 0) hs hl (Or.inl rfl)
    obtain ⟨i9, rfl⟩ := h9 rfl
    exact ⟨lvc, .int i9 :: stc, h, Or.inl ⟨by simp only [mpure]; rw [hv], rfl⟩, hl, ⟨hr, hst⟩, hw, rfl, rfl⟩
  case aload_n m =>
    obtain ⟨rfl, v, hv, hr, -, h9, -, -⟩ := qload_ok (x := (m : Nat)) (y := pc + 1) (z := 1) hs hl (Or.inr (Or.inl rfl))
    obtain ⟨i9, rfl⟩ := h9 rfl
    exact ⟨lvc, .ref i9 :: stc, h, Or.inl ⟨by simp only [mpure]; rw [hv], rfl⟩, hl, ⟨hr, hst⟩, hw, rfl, rfl⟩
  case aload m =>
    obtain ⟨rfl, v, hv, hr, -, h9, -, -⟩ := qload_ok (x := m) (y := pc + 2) (z := 1) hs hl (Or.inr (Or.inl rfl))
    obtain ⟨i9, rfl⟩ := h9 rfl
    exact ⟨lvc, .ref i9 :: stc, h, Or.inl ⟨by simp only [mpure]; rw [hv], rfl⟩, hl, ⟨hr, hst⟩, hw, rfl, rfl⟩
  case lload_n m =>
    obtain ⟨rfl, v, hv, hr, -, -, h9, -⟩ := qload_ok (x := (m : Nat)) (y := pc + 1) (z := 5) hs hl (Or.inr (Or.inr (Or.inl rfl)))
    obtain ⟨i9, rfl⟩ := h9 rfl
    exact ⟨lvc, .long i9 :: stc, h, Or.inl ⟨by simp only [mpure]; rw [hv], rfl⟩, hl, ⟨hr, hst⟩, hw, rfl, rfl⟩
  case lload m =>
    obtain ⟨rfl, v, hv, hr, -, -, h9, -⟩ := qload_ok (x := m) (y := pc + 2) (z := 5) hs hl (Or.inr (Or.inr (Or.inl rfl)))
    obtain ⟨i9, rfl⟩ := h9 rfl
    exact ⟨lvc, .long i9 :: stc, h, Or.inl ⟨by simp only [mpure]; rw [hv], rfl⟩, hl, ⟨hr, hst⟩, hw, rfl, rfl⟩
  case dload_n m =>
    obtain ⟨rfl, v, hv, hr, -, -, -, h9⟩ := qload_ok (x := (m : Nat)) (y := pc + 1) (z := 6) hs hl (Or.inr (Or.inr (Or.inr rfl)))
    obtain ⟨i9, rfl⟩ := h9 rfl
    exact ⟨lvc, .double i9 :: stc, h, Or.inl ⟨by simp only [mpure]; rw [hv], rfl⟩, hl, ⟨hr, hst⟩, hw, rfl, rfl⟩
  case dload m =>
    obtain ⟨rfl, v, hv, hr, -, -, -, h9⟩ := qload_ok (x := m) (y := pc + 2) (z := 6) hs hl (Or.inr (Or.inr (Or.inr rfl)))
    obtain ⟨i9, rfl⟩ := h9 rfl
    exact ⟨lvc, .double i9 :: stc, h, Or.inl ⟨by simp only [mpure]; rw [hv], rfl⟩, hl, ⟨hr, hst⟩, hw, rfl, rfl⟩
  case istore_n m =>
    obtain ⟨v, rc, lv2, r2, rfl, rfl, hq, h9, -, -, -⟩ := qstore_ok (x := (m : Nat)) (y := pc + 1) (z := 0) hs hl hst (Or.inl rfl)
    obtain ⟨⟨i9, rfl⟩, h8, h7⟩ := h9 rfl
    exact ⟨_, rc, h, Or.inl ⟨by simp only [mpure]; rw [if_pos h8], rfl⟩, h7, hq, hw, rfl, rfl⟩
  case istore m =>
    obtain ⟨v, rc, lv2, r2, rfl, rfl, hq, h9, -, -, -⟩ := qstore_ok (x := m) (y := pc + 2) (z := 0) hs hl hst (Or.inl rfl)
    obtain ⟨⟨i9, rfl⟩, h8, h7⟩ := h9 rfl
    exact ⟨_, rc, h, Or.inl ⟨by simp only [mpure]; rw [if_pos h8], rfl⟩, h7, hq, hw, rfl, rfl⟩
  case astore_n m =>
    obtain ⟨v, rc, lv2, r2, rfl, rfl, hq, -, h9, -, -⟩ := qstore_ok (x := (m : Nat)) (y := pc + 1) (z := 1) hs hl hst (Or.inr (Or.inl rfl))
    obtain ⟨⟨i9, rfl⟩, h8, h7⟩ := h9 rfl
    exact ⟨_, rc, h, Or.inl ⟨by simp only [mpure]; rw [if_pos h8], rfl⟩, h7, hq, hw, rfl, rfl⟩
  case astore m =>
    obtain ⟨v, rc, lv2, r2, rfl, rfl, hq, -, h9, -, -⟩ := qstore_ok (x := m) (y := pc + 2) (z := 1) hs hl hst (Or.inr (Or.inl rfl))
    obtain ⟨⟨i9, rfl⟩, h8, h7⟩ := h9 rfl
    exact ⟨_, rc, h, Or.inl ⟨by simp only [mpure]; rw [if_pos h8], rfl⟩, h7, hq, hw, rfl, rfl⟩
  case lstore_n m =>
    obtain ⟨v, rc, lv2, r2, rfl, rfl, hq, -, -, h9, -⟩ := qstore_ok (x := (m : Nat)) (y := pc + 1) (z := 5) hs hl hst (Or.inr (Or.inr (Or.inl rfl)))
    obtain ⟨⟨i9, rfl⟩, h8, h7⟩ := h9 rfl
    exact ⟨_, rc, h, Or.inl ⟨by simp only [mpure]; rw [if_pos h8], rfl⟩, h7, hq, hw, rfl, rfl⟩
  case lstore m =>
    obtain ⟨v, rc, lv2, r2, rfl, rfl, hq, -, -, h9, -⟩ := qstore_ok (x := m) (y := pc + 2) (z := 5) hs hl hst (Or.inr (Or.inr (Or.inl rfl)))
    obtain ⟨⟨i9, rfl⟩, h8, h7⟩ := h9 rfl
    exact ⟨_, rc, h, Or.inl ⟨by simp only [mpure]; rw [if_pos h8], rfl⟩, h7, hq, hw, rfl, rfl⟩
  case dstore_n m =>
    obtain ⟨v, rc, lv2, r2, rfl, rfl, hq, -, -, -, h9⟩ := qstore_ok (x := (m : Nat)) (y := pc + 1) (z := 6) hs hl hst (Or.inr (Or.inr (Or.inr rfl)))
    obtain ⟨⟨i9, rfl⟩, h8, h7⟩ := h9 rfl
    exact ⟨_, rc, h, Or.inl ⟨by simp only [mpure]; rw [if_pos h8], rfl⟩, h7, hq, hw, rfl, rfl⟩
  case dstore m =>
    obtain ⟨v, rc, lv2, r2, rfl, rfl, hq, -, -, -, h9⟩ := qstore_ok (x := m) (y := pc + 2) (z := 6) hs hl hst (Or.inr (Or.inr (Or.inr rfl)))
    obtain ⟨⟨i9, rfl⟩, h8, h7⟩ := h9 rfl
    exact ⟨_, rc, h, Or.inl ⟨by simp only [mpure]; rw [if_pos h8], rfl⟩, h7, hq, hw, rfl, rfl⟩
  case iinc m d =>
    obtain ⟨i9, lv2, hv, h8, rfl, h7⟩ := qiinc_ok (x := m) (y := pc + 3) hs hl
    exact ⟨_, stc, h, Or.inl ⟨by simp only [mpure]; rw [hv]; dsimp only; rw [if_pos h8], rfl⟩, h7, hst, hw, rfl, rfl⟩
  case iadd =>
    obtain ⟨b9, a9, r, r2, rfl, rfl, hq⟩ := qadd_ok (y := pc + 1) hs hst
    exact ⟨lvc, _, h, Or.inl ⟨rfl, rfl⟩, hl, hq, hw, rfl, rfl⟩
  case isub =>
    obtain ⟨b9, a9, r, r2, rfl, rfl, hq⟩ := qsub_ok (y := pc + 1) hs hst
    exact ⟨lvc, _, h, Or.inl ⟨rfl, rfl⟩, hl, hq, hw, rfl, rfl⟩
  case iand =>
    obtain ⟨b9, a9, r, r2, rfl, rfl, hq⟩ := qand_ok (y := pc + 1) hs hst
    exact ⟨lvc, _, h, Or.inl ⟨rfl, rfl⟩, hl, hq, hw, rfl, rfl⟩
  case ishr =>
    obtain ⟨b9, a9, r, r2, rfl, rfl, hq⟩ := qshr_ok (y := pc + 1) hs hst
    exact ⟨lvc, _, h, Or.inl ⟨rfl, rfl⟩, hl, hq, hw, rfl, rfl⟩
  case ladd =>
    obtain ⟨b9, a9, r, r2, rfl, rfl, hq⟩ := qladd_ok (y := pc + 1) hs hst
    exact ⟨lvc, _, h, Or.inl ⟨rfl, rfl⟩, hl, hq, hw, rfl, rfl⟩
  case lmul =>
    obtain ⟨b9, a9, r, r2, rfl, rfl, hq⟩ := qlmul_ok (y := pc + 1) hs hst
    exact ⟨lvc, _, h, Or.inl ⟨rfl, rfl⟩, hl, hq, hw, rfl, rfl⟩
  case lcmp =>
    obtain ⟨b9, a9, r, r2, rfl, rfl, hq⟩ := qlcmp_ok (y := pc + 1) hs hst
    exact ⟨lvc, _, h, Or.inl ⟨rfl, rfl⟩, hl, hq, hw, rfl, rfl⟩
  case idiv =>
    obtain ⟨b9, a9, r, r2, rfl, h0, rfl, hq⟩ := qdiv_ok (y := pc + 1) hs hst
    exact ⟨lvc, _, h, Or.inl ⟨by simp only [mpure]; rw [if_neg h0], rfl⟩, hl, hq, hw, rfl, rfl⟩
  case irem =>
    obtain ⟨b9, a9, r, r2, rfl, h0, rfl, hq⟩ := qrem_ok (y := pc + 1) hs hst
    exact ⟨lvc, _, h, Or.inl ⟨by simp only [mpure]; rw [if_neg h0], rfl⟩, hl, hq, hw, rfl, rfl⟩
  case i2l =>
    obtain ⟨a9, r, r2, rfl, rfl, hq⟩ := qi2l_ok (y := pc + 1) hs hst
    exact ⟨lvc, _, h, Or.inl ⟨rfl, rfl⟩, hl, hq, hw, rfl, rfl⟩
  case dup =>
    obtain ⟨v, r, r2, rfl, h0, rfl, hq⟩ := qdup_ok (y := pc + 1) hs hst
    exact ⟨lvc, _, h, Or.inl ⟨by simp only [mpure]; rw [if_pos h0], rfl⟩, hl, hq, hw, rfl, rfl⟩
  case pop =>
    obtain ⟨v, r, r2, rfl, h0, rfl, hq⟩ := qpop_ok (y := pc + 1) hs hst
    exact ⟨lvc, _, h, Or.inl ⟨by simp only [mpure]; rw [if_pos h0], rfl⟩, hl, hq, hw, rfl, rfl⟩
  case dup_x1 =>
    obtain ⟨v, u9, r, r2, rfl, h0, rfl, hq⟩ := qdupx_ok (y := pc + 1) hs hst
    exact ⟨lvc, _, h, Or.inl ⟨by simp only [mpure]; rw [if_pos h0], rfl⟩, hl, hq, hw, rfl, rfl⟩
  case goto off =>
    by_cases hc : mjmp pc off = true
    · have he2 : qenc (pc, .goto off, n, a, b, k) = (21, mtgt pc off, 0, 0, 0) := by simp only [qenc]; rw [if_pos hc]
      rw [he2] at hs
      have hs2 : some (mtgt pc off, lv, st, w) = some T := hs
      cases hs2
      exact ⟨lvc, stc, h, Or.inl ⟨by simp only [mpure]; rw [if_pos hc], rfl⟩, hl, hst, hw, rfl, rfl⟩
    · have he2 : qenc (pc, .goto off, n, a, b, k) = (99, 0, 0, 0, 0) := by simp only [qenc]; rw [if_neg hc]
      rw [he2] at hs
      exact (no (Or.inl rfl) hs).elim
  case ifCond cd off =>
    cases cd
    case eq =>
      by_cases hc : mjmp pc off = true
      · have he2 : qenc (pc, .ifCond .eq off, n, a, b, k) = (22, mtgt pc off, pc + 3, 2, 0) := by simp only [qenc]; rw [if_pos hc]
        rw [he2] at hs
        obtain ⟨a9, r, r2, t, rfl, rfl, hq, -, -, g⟩ := qifc_ok (x := mtgt pc off) (y := pc + 3) (z := 2) hs hst
        exact ⟨lvc, r, h, Or.inl ⟨by simp only [mpure]; rw [if_pos hc, g rfl]; exact q_cong (q_ifc q_eq0), rfl⟩, hl, hq, hw, rfl, rfl⟩
      · have he2 : qenc (pc, .ifCond .eq off, n, a, b, k) = (99, 0, 0, 0, 0) := by simp only [qenc]; rw [if_neg hc]
        rw [he2] at hs
        exact (no (Or.inl rfl) hs).elim
    case ne =>
      by_cases hc : mjmp pc off = true
      · have he2 : qenc (pc, .ifCond .ne off, n, a, b, k) = (22, pc + 3, mtgt pc off, 2, 0) := by simp only [qenc]; rw [if_pos hc]
        rw [he2] at hs
        obtain ⟨a9, r, r2, t, rfl, rfl, hq, -, -, g⟩ := qifc_ok (x := pc + 3) (y := mtgt pc off) (z := 2) hs hst
        exact ⟨lvc, r, h, Or.inl ⟨by simp only [mpure]; rw [if_pos hc, g rfl]; exact q_cong (q_ifc q_eq0), rfl⟩, hl, hq, hw, rfl, rfl⟩
      · have he2 : qenc (pc, .ifCond .ne off, n, a, b, k) = (99, 0, 0, 0, 0) := by simp only [qenc]; rw [if_neg hc]
        rw [he2] at hs
        exact (no (Or.inl rfl) hs).elim
    case lt =>
      by_cases hc : mjmp pc off = true
      · have he2 : qenc (pc, .ifCond .lt off, n, a, b, k) = (22, mtgt pc off, pc + 3, 0, 0) := by simp only [qenc]; rw [if_pos hc]
        rw [he2] at hs
        obtain ⟨a9, r, r2, t, rfl, rfl, hq, g, -, -⟩ := qifc_ok (x := mtgt pc off) (y := pc + 3) (z := 0) hs hst
        exact ⟨lvc, r, h, Or.inl ⟨by simp only [mpure]; rw [if_pos hc, g rfl]; exact q_cong (q_ifc q_lt0), rfl⟩, hl, hq, hw, rfl, rfl⟩
      · have he2 : qenc (pc, .ifCond .lt off, n, a, b, k) = (99, 0, 0, 0, 0) := by simp only [qenc]; rw [if_neg hc]
        rw [he2] at hs
        exact (no (Or.inl rfl) hs).elim
    case ge =>
      by_cases hc : mjmp pc off = true
      · have he2 : qenc (pc, .ifCond .ge off, n, a, b, k) = (22, pc + 3, mtgt pc off, 0, 0) := by simp only [qenc]; rw [if_pos hc]
        rw [he2] at hs
        obtain ⟨a9, r, r2, t, rfl, rfl, hq, g, -, -⟩ := qifc_ok (x := pc + 3) (y := mtgt pc off) (z := 0) hs hst
        exact ⟨lvc, r, h, Or.inl ⟨by simp only [mpure]; rw [if_pos hc, g rfl]; exact q_cong (q_ifn q_0le), rfl⟩, hl, hq, hw, rfl, rfl⟩
      · have he2 : qenc (pc, .ifCond .ge off, n, a, b, k) = (99, 0, 0, 0, 0) := by simp only [qenc]; rw [if_neg hc]
        rw [he2] at hs
        exact (no (Or.inl rfl) hs).elim
    case gt =>
      by_cases hc : mjmp pc off = true
      · have he2 : qenc (pc, .ifCond .gt off, n, a, b, k) = (22, mtgt pc off, pc + 3, 1, 0) := by simp only [qenc]; rw [if_pos hc]
        rw [he2] at hs
        obtain ⟨a9, r, r2, t, rfl, rfl, hq, -, g, -⟩ := qifc_ok (x := mtgt pc off) (y := pc + 3) (z := 1) hs hst
        exact ⟨lvc, r, h, Or.inl ⟨by simp only [mpure]; rw [if_pos hc, g rfl]; exact q_cong (q_ifc q_0lt), rfl⟩, hl, hq, hw, rfl, rfl⟩
      · have he2 : qenc (pc, .ifCond .gt off, n, a, b, k) = (99, 0, 0, 0, 0) := by simp only [qenc]; rw [if_neg hc]
        rw [he2] at hs
        exact (no (Or.inl rfl) hs).elim
    case le =>
      by_cases hc : mjmp pc off = true
      · have he2 : qenc (pc, .ifCond .le off, n, a, b, k) = (22, pc + 3, mtgt pc off, 1, 0) := by simp only [qenc]; rw [if_pos hc]
        rw [he2] at hs
        obtain ⟨a9, r, r2, t, rfl, rfl, hq, -, g, -⟩ := qifc_ok (x := pc + 3) (y := mtgt pc off) (z := 1) hs hst
        exact ⟨lvc, r, h, Or.inl ⟨by simp only [mpure]; rw [if_pos hc, g rfl]; exact q_cong (q_ifn q_le0), rfl⟩, hl, hq, hw, rfl, rfl⟩
      · have he2 : qenc (pc, .ifCond .le off, n, a, b, k) = (99, 0, 0, 0, 0) := by simp only [qenc]; rw [if_neg hc]
        rw [he2] at hs
        exact (no (Or.inl rfl) hs).elim
  case if_icmp cd off =>
    cases cd
    case eq =>
      by_cases hc : mjmp pc off = true
      · have he2 : qenc (pc, .if_icmp .eq off, n, a, b, k) = (23, mtgt pc off, pc + 3, 2, 0) := by simp only [qenc]; rw [if_pos hc]
        rw [he2] at hs
        obtain ⟨b9, a9, r, r2, t, rfl, rfl, hq, -, -, g⟩ := qicmp_ok (x := mtgt pc off) (y := pc + 3) (z := 2) hs hst
        exact ⟨lvc, r, h, Or.inl ⟨by simp only [mpure]; rw [if_pos hc, g rfl]; exact q_cong (q_ifc (fa_eq _ _)), rfl⟩, hl, hq, hw, rfl, rfl⟩
      · have he2 : qenc (pc, .if_icmp .eq off, n, a, b, k) = (99, 0, 0, 0, 0) := by simp only [qenc]; rw [if_neg hc]
        rw [he2] at hs
        exact (no (Or.inl rfl) hs).elim
    case ne =>
      by_cases hc : mjmp pc off = true
      · have he2 : qenc (pc, .if_icmp .ne off, n, a, b, k) = (23, pc + 3, mtgt pc off, 2, 0) := by simp only [qenc]; rw [if_pos hc]
        rw [he2] at hs
        obtain ⟨b9, a9, r, r2, t, rfl, rfl, hq, -, -, g⟩ := qicmp_ok (x := pc + 3) (y := mtgt pc off) (z := 2) hs hst
        exact ⟨lvc, r, h, Or.inl ⟨by simp only [mpure]; rw [if_pos hc, g rfl]; exact q_cong (q_ifc (fa_eq _ _)), rfl⟩, hl, hq, hw, rfl, rfl⟩
      · have he2 : qenc (pc, .if_icmp .ne off, n, a, b, k) = (99, 0, 0, 0, 0) := by simp only [qenc]; rw [if_neg hc]
        rw [he2] at hs
        exact (no (Or.inl rfl) hs).elim
    case lt =>
      by_cases hc : mjmp pc off = true
      · have he2 : qenc (pc, .if_icmp .lt off, n, a, b, k) = (23, mtgt pc off, pc + 3, 0, 0) := by simp only [qenc]; rw [if_pos hc]
        rw [he2] at hs
        obtain ⟨b9, a9, r, r2, t, rfl, rfl, hq, g, -, -⟩ := qicmp_ok (x := mtgt pc off) (y := pc + 3) (z := 0) hs hst
        exact ⟨lvc, r, h, Or.inl ⟨by simp only [mpure]; rw [if_pos hc, g rfl]; exact q_cong (q_ifc (fa_lt _ _)), rfl⟩, hl, hq, hw, rfl, rfl⟩
      · have he2 : qenc (pc, .if_icmp .lt off, n, a, b, k) = (99, 0, 0, 0, 0) := by simp only [qenc]; rw [if_neg hc]
        rw [he2] at hs
        exact (no (Or.inl rfl) hs).elim
    case ge =>
      by_cases hc : mjmp pc off = true
      · have he2 : qenc (pc, .if_icmp .ge off, n, a, b, k) = (23, pc + 3, mtgt pc off, 0, 0) := by simp only [qenc]; rw [if_pos hc]
        rw [he2] at hs
        obtain ⟨b9, a9, r, r2, t, rfl, rfl, hq, g, -, -⟩ := qicmp_ok (x := pc + 3) (y := mtgt pc off) (z := 0) hs hst
        exact ⟨lvc, r, h, Or.inl ⟨by simp only [mpure]; rw [if_pos hc, g rfl]; exact q_cong (q_ifn q_le), rfl⟩, hl, hq, hw, rfl, rfl⟩
      · have he2 : qenc (pc, .if_icmp .ge off, n, a, b, k) = (99, 0, 0, 0, 0) := by simp only [qenc]; rw [if_neg hc]
        rw [he2] at hs
        exact (no (Or.inl rfl) hs).elim
    case gt =>
      by_cases hc : mjmp pc off = true
      · have he2 : qenc (pc, .if_icmp .gt off, n, a, b, k) = (23, mtgt pc off, pc + 3, 1, 0) := by simp only [qenc]; rw [if_pos hc]
        rw [he2] at hs
        obtain ⟨b9, a9, r, r2, t, rfl, rfl, hq, -, g, -⟩ := qicmp_ok (x := mtgt pc off) (y := pc + 3) (z := 1) hs hst
        exact ⟨lvc, r, h, Or.inl ⟨by simp only [mpure]; rw [if_pos hc, g rfl]; exact q_cong (q_ifc (fa_lt _ _)), rfl⟩, hl, hq, hw, rfl, rfl⟩
      · have he2 : qenc (pc, .if_icmp .gt off, n, a, b, k) = (99, 0, 0, 0, 0) := by simp only [qenc]; rw [if_neg hc]
        rw [he2] at hs
        exact (no (Or.inl rfl) hs).elim
    case le =>
      by_cases hc : mjmp pc off = true
      · have he2 : qenc (pc, .if_icmp .le off, n, a, b, k) = (23, pc + 3, mtgt pc off, 1, 0) := by simp only [qenc]; rw [if_pos hc]
        rw [he2] at hs
        obtain ⟨b9, a9, r, r2, t, rfl, rfl, hq, -, g, -⟩ := qicmp_ok (x := pc + 3) (y := mtgt pc off) (z := 1) hs hst
        exact ⟨lvc, r, h, Or.inl ⟨by simp only [mpure]; rw [if_pos hc, g rfl]; exact q_cong (q_ifn q_le), rfl⟩, hl, hq, hw, rfl, rfl⟩
      · have he2 : qenc (pc, .if_icmp .le off, n, a, b, k) = (99, 0, 0, 0, 0) := by simp only [qenc]; rw [if_neg hc]
        rw [he2] at hs
        exact (no (Or.inl rfl) hs).elim
  case if_acmp cd off =>
    cases cd
    case eq =>
      by_cases hc : mjmp pc off = true
      · have he2 : qenc (pc, .if_acmp .eq off, n, a, b, k) = (24, mtgt pc off, 0, 0, 0) := by simp only [qenc]; rw [if_pos hc]
        rw [he2] at hs
        obtain ⟨q, r, r2, rfl, rfl, hq⟩ := qacmp_ok (x := mtgt pc off) hs hst
        exact ⟨lvc, r, h, Or.inl ⟨by simp only [mpure]; rw [if_pos ⟨trivial, hc⟩], rfl⟩, hl, hq, hw, rfl, rfl⟩
      · have he2 : qenc (pc, .if_acmp .eq off, n, a, b, k) = (99, 0, 0, 0, 0) := by simp only [qenc]; rw [if_neg hc]
        rw [he2] at hs
        exact (no (Or.inl rfl) hs).elim
    case ne =>
      by_cases hc : mjmp pc off = true
      · have he2 : qenc (pc, .if_acmp .ne off, n, a, b, k) = (24, pc + 3, 0, 0, 0) := by simp only [qenc]; rw [if_pos hc]
        rw [he2] at hs
        obtain ⟨q, r, r2, rfl, rfl, hq⟩ := qacmp_ok (x := pc + 3) hs hst
        exact ⟨lvc, r, h, Or.inl ⟨by simp only [mpure]; rw [if_pos ⟨trivial, hc⟩], rfl⟩, hl, hq, hw, rfl, rfl⟩
      · have he2 : qenc (pc, .if_acmp .ne off, n, a, b, k) = (99, 0, 0, 0, 0) := by simp only [qenc]; rw [if_neg hc]
        rw [he2] at hs
        exact (no (Or.inl rfl) hs).elim
  case tableswitch dflt lo hi offs =>
    obtain ⟨a9, r, r2, t, rfl, rfl, hq, ht⟩ := qswitch_ok hs hst
    refine ⟨lvc, r, h, Or.inl ⟨?_, rfl⟩, hl, hq, hw, rfl, rfl⟩
    simp only [mpure] at ht ⊢
    split at ht
    · rename_i h0
      rw [if_pos h0]
      split at ht
      · rename_i h1
        rw [if_pos h1]
        cases ht
        rfl
      · cases ht
    · rename_i h0
      rw [if_neg h0]
      split at ht
      · rename_i off ho
        try rw [ho]
        try dsimp only
        split at ht
        · rename_i h1
          rw [if_pos h1]
          cases ht
          rfl
        · cases ht
      · cases ht
  case lookupswitch dflt ps =>
    obtain ⟨a9, r, r2, t, rfl, rfl, hq, ht⟩ := qswitch_ok hs hst
    refine ⟨lvc, r, h, Or.inl ⟨?_, rfl⟩, hl, hq, hw, rfl, rfl⟩
    simp only [mpure] at ht ⊢
    split at ht
    · rename_i h0
      rw [if_pos h0]
      split at ht
      · rename_i h1
        rw [if_pos h1]
        cases ht
        rfl
      · cases ht
    · cases ht
  case getfield idx =>
    by_cases hc : (mCl[a]?).isSome = true
    · have he2 : qenc (pc, .getfield idx, n, a, b, k) = (27, b, pc + 3, a, 0) := by simp only [qenc]; rw [if_pos hc]
      rw [he2] at hs
      obtain ⟨st2, stc2, rfl, g1, g2⟩ := qgetf_ok (x := b) (y := pc + 3) (z := a) hs hE.1 hst hw hc
      exact ⟨lvc, stc2, h, Or.inr ⟨rfl, rfl, g2 pc idx n k rfl⟩, hl, g1, hw, rfl, rfl⟩
    · have he2 : qenc (pc, .getfield idx, n, a, b, k) = (99, 0, 0, 0, 0) := by simp only [qenc]; rw [if_neg hc]
      rw [he2] at hs
      exact (no (Or.inl rfl) hs).elim
  case putfield idx =>
    by_cases hc : (mCl[a]?).isSome = true
    · have he2 : qenc (pc, .putfield idx, n, a, b, k) = (28, b, pc + 3, a, qfk (mfty a b)) := by simp only [qenc]; rw [if_pos hc]
      rw [he2] at hs
      obtain ⟨st2, stc2, w2, h2, rfl, g1, g2, g3⟩ := qputf_ok (x := b) (y := pc + 3) (z := a) hs hE.1 hst hw hc rfl
      exact ⟨lvc, stc2, h2, Or.inr ⟨rfl, rfl, g3 pc idx n k rfl⟩, hl, g1, g2, rfl, rfl⟩
    · have he2 : qenc (pc, .putfield idx, n, a, b, k) = (99, 0, 0, 0, 0) := by simp only [qenc]; rw [if_neg hc]
      rw [he2] at hs
      exact (no (Or.inl rfl) hs).elim
  case iaload =>
    obtain ⟨st2, stc2, rfl, g1, g, -, -⟩ := qald_ok (t := 0) (y := pc + 1) hs hE hst hw
    exact ⟨lvc, stc2, h, Or.inr ⟨rfl, rfl, g rfl pc n a b k rfl⟩, hl, g1, hw, rfl, rfl⟩
  case laload =>
    obtain ⟨st2, stc2, rfl, g1, -, g, -⟩ := qald_ok (t := 1) (y := pc + 1) hs hE hst hw
    exact ⟨lvc, stc2, h, Or.inr ⟨rfl, rfl, g rfl pc n a b k rfl⟩, hl, g1, hw, rfl, rfl⟩
  case aaload =>
    obtain ⟨st2, stc2, rfl, g1, -, -, g⟩ := qald_ok (t := 3) (y := pc + 1) hs hE hst hw
    exact ⟨lvc, stc2, h, Or.inr ⟨rfl, rfl, g rfl pc n a b k rfl⟩, hl, g1, hw, rfl, rfl⟩
  case iastore =>
    obtain ⟨st2, stc2, w2, h2, rfl, g1, g2, g, -, -⟩ := qast_ok (t := 0) (y := pc + 1) hs hE.1 hst hw
    exact ⟨lvc, stc2, h2, Or.inr ⟨rfl, rfl, g rfl pc n a b k rfl⟩, hl, g1, g2, rfl, rfl⟩
  case lastore =>
    obtain ⟨st2, stc2, w2, h2, rfl, g1, g2, -, g, -⟩ := qast_ok (t := 1) (y := pc + 1) hs hE.1 hst hw
    exact ⟨lvc, stc2, h2, Or.inr ⟨rfl, rfl, g rfl pc n a b k rfl⟩, hl, g1, g2, rfl, rfl⟩
  case aastore =>
    obtain ⟨st2, stc2, w2, h2, rfl, g1, g2, -, -, g⟩ := qast_ok (t := 3) (y := pc + 1) hs hE.1 hst hw
    exact ⟨lvc, stc2, h2, Or.inr ⟨rfl, rfl, g rfl pc n a b k rfl⟩, hl, g1, g2, rfl, rfl⟩
  case arraylength =>
    obtain ⟨st2, stc2, rfl, g1, g2⟩ := qlen_ok (y := pc + 1) hs hE hst hw
    exact ⟨lvc, stc2, h, Or.inr ⟨rfl, rfl, g2 pc n a b k rfl⟩, hl, g1, hw, rfl, rfl⟩
  case new idx =>
    by_cases h5 : a = 995
    · have he2 : qenc (pc, .new idx, n, a, b, k) = (46, b, 0, 0, 0) := by simp only [qenc]; rw [if_pos h5]
      rw [he2] at hs
      exact (no (Or.inr ⟨by decide, by decide⟩) hs).elim
    · cases hcl : mCl[a]? with
      | none =>
        have he2 : qenc (pc, .new idx, n, a, b, k) = (99, 0, 0, 0, 0) := by simp only [qenc]; rw [if_neg h5, hcl]
        rw [he2] at hs
        exact (no (Or.inl rfl) hs).elim
      | some cl =>
        by_cases hf : (List.range cl.2.2).all (fun j => decide (mfty a j ≠ .float)) = true
        · have he2 : qenc (pc, .new idx, n, a, b, k) = (32, cl.2.2, pc + 3, a, 0) := by simp only [qenc]; rw [if_neg h5, hcl]; dsimp only; rw [if_pos hf]
          rw [he2] at hs
          obtain ⟨st2, stc2, w2, h2, rfl, g1, g2, g3⟩ := qnew_ok (x := cl.2.2) (y := pc + 3) (z := a) hs hst hw hcl rfl hf
          exact ⟨lvc, stc2, h2, Or.inr ⟨rfl, rfl, g3 pc idx n b k rfl⟩, hl, g1, g2, rfl, decide_eq_false h5⟩
        · have he2 : qenc (pc, .new idx, n, a, b, k) = (99, 0, 0, 0, 0) := by simp only [qenc]; rw [if_neg h5, hcl]; dsimp only; rw [if_neg hf]
          rw [he2] at hs
          exact (no (Or.inl rfl) hs).elim
  case newarray ty =>
    by_cases hc : a ≤ 2 ∧ mTys[a]? = some (newarray.typeOf ty)
    · have he2 : qenc (pc, .newarray ty, n, a, b, k) = (33, 0, pc + 2, a, 0) := by simp only [qenc]; rw [if_pos hc]
      rw [he2] at hs
      obtain ⟨m, rc, st2, w2, rfl, k1, k2, rfl, g1, g2⟩ := qnewa_ok (y := pc + 2) (z := a) hs hst hw
      exact ⟨lvc, _, _, Or.inr ⟨rfl, rfl, by simp only [mheap]; rw [if_neg k1, if_pos ⟨k2, hc.1⟩, if_pos hc.2]⟩, hl, g1, g2, rfl, rfl⟩
    · have he2 : qenc (pc, .newarray ty, n, a, b, k) = (99, 0, 0, 0, 0) := by simp only [qenc]; rw [if_neg hc]
      rw [he2] at hs
      exact (no (Or.inl rfl) hs).elim
  case anewarray idx =>
    by_cases hc : a = 3 ∧ mTys[3]? = some (.object "java/lang/Object") ∧ Cond.arrayOver (.object "java/lang/Object") ∈ mXw
    · have he2 : qenc (pc, .anewarray idx, n, a, b, k) = (33, 0, pc + 3, 3, 0) := by simp only [qenc]; rw [if_pos hc]
      rw [he2] at hs
      obtain ⟨m, rc, st2, w2, rfl, k1, k2, rfl, g1, g2⟩ := qnewa_ok (y := pc + 3) (z := 3) hs hst hw
      obtain ⟨ha3, hc2, hc3⟩ := hc
      subst ha3
      exact ⟨lvc, _, _, Or.inr ⟨rfl, rfl, by simp only [mheap]; rw [if_neg k1, if_pos ⟨k2, trivial⟩, hc2]; dsimp only; rw [if_pos hc3]⟩, hl, g1, g2, rfl, rfl⟩
    · have he2 : qenc (pc, .anewarray idx, n, a, b, k) = (99, 0, 0, 0, 0) := by simp only [qenc]; rw [if_neg hc]
      rw [he2] at hs
      exact (no (Or.inl rfl) hs).elim
  case ldc idx =>
    by_cases h0 : n = 0
    · have he2 : qenc (pc, .ldc idx, n, a, b, k) = (1, qbias (Int32.ofNat a), pc + 2, 0, 0) := by simp only [qenc]; rw [if_pos h0]
      rw [he2] at hs
      have hs2 := qpush_ok (y := pc + 2) (v := (0, qbias (Int32.ofNat a), qbias (Int32.ofNat a))) hs
      subst hs2
      exact ⟨lvc, .int (Int32.ofNat a) :: stc, h, Or.inr ⟨rfl, rfl, by simp only [mheap]; rw [if_pos h0]⟩, hl, ⟨qbias_ok _, hst⟩, hw, rfl, rfl⟩
    · by_cases h1 : n = 1
      · cases hz : mMir[a]? with
        | none =>
          have he2 : qenc (pc, .ldc idx, n, a, b, k) = (99, 0, 0, 0, 0) := by simp only [qenc]; rw [if_neg h0, if_pos h1, hz]
          rw [he2] at hs
          exact (no (Or.inl rfl) hs).elim
        | some q =>
          have he2 : qenc (pc, .ldc idx, n, a, b, k) = (36, q.2, pc + 2, 0, 0) := by simp only [qenc]; rw [if_neg h0, if_pos h1, hz]
          rw [he2] at hs
          have hs2 := qpush_ok (y := pc + 2) (v := (1, q.2, 0)) hs
          subst hs2
          exact ⟨lvc, .ref q.2 :: stc, h, Or.inr ⟨rfl, rfl, by simp only [mheap]; rw [if_neg h0, if_pos h1, hz]⟩, hl, ⟨qR_mkR, hst⟩, hw, rfl, rfl⟩
      · have he2 : qenc (pc, .ldc idx, n, a, b, k) = (99, 0, 0, 0, 0) := by simp only [qenc]; rw [if_neg h0, if_neg h1]
        rw [he2] at hs
        exact (no (Or.inl rfl) hs).elim
  case ldc2_w idx =>
    by_cases hc : n = 0
    · have he2 : qenc (pc, .ldc2_w idx, n, a, b, k) = (2, a, pc + 3, 0, 0) := by simp only [qenc]; rw [if_pos hc]
      rw [he2] at hs
      have hs2 := qpush_ok (y := pc + 3) (v := (5, a, 0)) hs
      subst hs2
      exact ⟨lvc, .long (Int64.ofNat a) :: stc, h, Or.inr ⟨rfl, rfl, by simp only [mheap]; rw [if_pos hc]⟩, hl, ⟨qR_mkL, hst⟩, hw, rfl, rfl⟩
    · have he2 : qenc (pc, .ldc2_w idx, n, a, b, k) = (99, 0, 0, 0, 0) := by simp only [qenc]; rw [if_neg hc]
      rw [he2] at hs
      exact (no (Or.inl rfl) hs).elim
  case getstatic idx =>
    by_cases h0 : n = 0
    · cases hz : mStat[a]? with
      | none =>
        have he2 : qenc (pc, .getstatic idx, n, a, b, k) = (99, 0, 0, 0, 0) := by simp only [qenc]; rw [if_pos h0, hz]
        rw [he2] at hs
        exact (no (Or.inl rfl) hs).elim
      | some q =>
        obtain ⟨q1, q2, q3, q4⟩ := q
        cases q4
        case int i9 =>
          have he2 : qenc (pc, .getstatic idx, n, a, b, k) = (1, qbias i9, pc + 3, 0, 0) := by simp only [qenc]; rw [if_pos h0, hz]
          rw [he2] at hs
          have hs2 := qpush_ok (y := pc + 3) (v := (0, qbias i9, qbias i9)) hs
          subst hs2
          exact ⟨lvc, .int i9 :: stc, h, Or.inr ⟨rfl, rfl, by simp only [mheap]; rw [hz]; dsimp only; rw [if_pos h0]⟩, hl, ⟨qbias_ok _, hst⟩, hw, rfl, rfl⟩
        case ref i9 =>
          have he2 : qenc (pc, .getstatic idx, n, a, b, k) = (36, i9, pc + 3, 0, 0) := by simp only [qenc]; rw [if_pos h0, hz]
          rw [he2] at hs
          have hs2 := qpush_ok (y := pc + 3) (v := (1, i9, 0)) hs
          subst hs2
          exact ⟨lvc, .ref i9 :: stc, h, Or.inr ⟨rfl, rfl, by simp only [mheap]; rw [hz]; dsimp only; rw [if_pos h0]⟩, hl, ⟨qR_mkR, hst⟩, hw, rfl, rfl⟩
        all_goals
          have he2 : qenc (pc, .getstatic idx, n, a, b, k) = (99, 0, 0, 0, 0) := by simp only [qenc]; rw [if_pos h0, hz]
          rw [he2] at hs
          exact (no (Or.inl rfl) hs).elim
    · have he2 : qenc (pc, .getstatic idx, n, a, b, k) = (99, 0, 0, 0, 0) := by simp only [qenc]; rw [if_neg h0]
      rw [he2] at hs
      exact (no (Or.inl rfl) hs).elim
  case invokevirtual idx =>
    by_cases h5 : a = 994
    · cases hz : mMir[0]? with
      | none =>
        have he2 : qenc (pc, .invokevirtual idx, n, a, b, k) = (99, 0, 0, 0, 0) := by simp only [qenc]; rw [if_pos h5, hz]
        rw [he2] at hs
        exact (no (Or.inl rfl) hs).elim
      | some q =>
        by_cases hc : q.1 = "[Ljava/lang/Object;" ∧ mTys[3]? = some (.object "java/lang/Object")
        · have he2 : qenc (pc, .invokevirtual idx, n, a, b, k) = (38, q.2, pc + 3, 0, 0) := by simp only [qenc]; rw [if_pos h5, hz]; dsimp only; rw [if_pos hc]
          rw [he2] at hs
          obtain ⟨st2, stc2, rfl, g1, g2⟩ := qgetc_ok (x := q.2) (y := pc + 3) hs hE.1 hst hw hz hc rfl
          subst h5
          exact ⟨lvc, stc2, h, Or.inr ⟨rfl, rfl, g2 pc idx n b k rfl⟩, hl, g1, hw, rfl, rfl⟩
        · have he2 : qenc (pc, .invokevirtual idx, n, a, b, k) = (99, 0, 0, 0, 0) := by simp only [qenc]; rw [if_pos h5, hz]; dsimp only; rw [if_neg hc]
          rw [he2] at hs
          exact (no (Or.inl rfl) hs).elim
    · have he2 : qenc (pc, .invokevirtual idx, n, a, b, k) = (40, a, pc + 3, 0, 2) := by simp only [qenc]; rw [if_neg h5]
      rw [he2] at hs
      exact (no (Or.inr ⟨by decide, by decide⟩) hs).elim
  case invokespecial idx =>
    by_cases h5 : a = 998
    · have he2 : qenc (pc, .invokespecial idx, n, a, b, k) = (41, 0, pc + 3, 0, 0) := by simp only [qenc]; rw [if_pos h5]
      rw [he2] at hs
      exact (no (Or.inr ⟨by decide, by decide⟩) hs).elim
    · have he2 : qenc (pc, .invokespecial idx, n, a, b, k) = (40, a, pc + 3, 0, 1) := by simp only [qenc]; rw [if_neg h5]
      rw [he2] at hs
      exact (no (Or.inr ⟨by decide, by decide⟩) hs).elim
  case invokestatic idx =>
    by_cases h5 : a = 993
    · by_cases hc : mTys[3]? = some (.object "java/lang/Object") ∧ mcast 0 "java/lang/Object" = true
      · have he2 : qenc (pc, .invokestatic idx, n, a, b, k) = (37, 0, pc + 3, 0, 0) := by simp only [qenc]; rw [if_pos h5, if_pos hc]
        rw [he2] at hs
        obtain ⟨st2, stc2, w2, h2, rfl, g1, g2, g3⟩ := qcopy_ok (y := pc + 3) hs hE.1 hst hw hc.1 hc.2
        subst h5
        exact ⟨lvc, stc2, h2, Or.inr ⟨rfl, rfl, g3 pc idx n b k rfl⟩, hl, g1, g2, rfl, rfl⟩
      · have he2 : qenc (pc, .invokestatic idx, n, a, b, k) = (99, 0, 0, 0, 0) := by simp only [qenc]; rw [if_pos h5, if_neg hc]
        rw [he2] at hs
        exact (no (Or.inl rfl) hs).elim
    · by_cases h6 : a = 997
      · have he2 : qenc (pc, .invokestatic idx, n, a, b, k) = (42, 0, pc + 3, 0, 0) := by simp only [qenc]; rw [if_neg h5, if_pos h6]
        rw [he2] at hs
        exact (no (Or.inr ⟨by decide, by decide⟩) hs).elim
      · by_cases h7 : a = 996
        · have he2 : qenc (pc, .invokestatic idx, n, a, b, k) = (43, 0, pc + 3, 0, 0) := by simp only [qenc]; rw [if_neg h5, if_neg h6, if_pos h7]
          rw [he2] at hs
          exact (no (Or.inr ⟨by decide, by decide⟩) hs).elim
        · have he2 : qenc (pc, .invokestatic idx, n, a, b, k) = (40, a, pc + 3, 0, 0) := by simp only [qenc]; rw [if_neg h5, if_neg h6, if_neg h7]
          rw [he2] at hs
          exact (no (Or.inr ⟨by decide, by decide⟩) hs).elim
  case ireturn =>
    exact (no (Or.inr ⟨by decide, by decide⟩) hs).elim
  case areturn =>
    exact (no (Or.inr ⟨by decide, by decide⟩) hs).elim
  case lreturn =>
    exact (no (Or.inr ⟨by decide, by decide⟩) hs).elim
  case dreturn =>
    exact (no (Or.inr ⟨by decide, by decide⟩) hs).elim
  case return_ =>
    exact (no (Or.inr ⟨by decide, by decide⟩) hs).elim
  all_goals exact (no (Or.inl rfl) hs).elim
theorem qstep_ok {E : mE} {X nL : Nat} {bx : qX} (hE : qEok E X bx) {e : mIns} {op x y z u : Nat} (he : qenc e = (op, x, y, z, u)) {lv : qL} {st : List qV} {w : qW} {T : qT} (hs : qstep X bx nL op x y z u e lv st w = some T) {lvc : mLv} {stc : List Value} {h : mH} (hl : qLr E lv lvc) (hst : qS E st stc) (hw : qWr E w h) : qConc E nL e lvc stc h T := qstep_ok0 hE (by rw [he]; exact hs) hl hst hw
end
