section
-- ===== PART A: goes FIRST, ahead of the names: the tables' words, and 'selects' of the private methods out of them =====
/-- a private method of a class that the tables say can be made, by its rows of tables_1 -/
def lw_okq (q : MethodName × Nat) : Prop := (q.1.cls ≠ "java/lang/invoke/MethodHandle" ∧ q.1.cls ≠ "java/lang/invoke/VarHandle") ∧ Cond.instantiable q.1.cls q.2 ∈ tables_1 ∧ Cond.privateMethod q.1 ∈ tables_1 ∧ Cond.instanceMethod q.1 ∈ tables_1
theorem lw_p0 : lw_okq (⟨"Tallow", "tableNow", "()LTallow$Table;"⟩, 7) := ⟨⟨by decide +kernel, by decide +kernel⟩, List.mem_of_getElem? (i := 33) (by decide +kernel), List.mem_of_getElem? (i := 267) (by decide +kernel), List.mem_of_getElem? (i := 268) (by decide +kernel)⟩
theorem lw_p1 : lw_okq (⟨"Tallow", "readText", "()V"⟩, 7) := ⟨⟨by decide +kernel, by decide +kernel⟩, List.mem_of_getElem? (i := 33) (by decide +kernel), List.mem_of_getElem? (i := 271) (by decide +kernel), List.mem_of_getElem? (i := 272) (by decide +kernel)⟩
theorem lw_p2 : lw_okq (⟨"Tallow$Reading", "isMoreToRead", "(LTallow$Text;I)Z"⟩, 14) := ⟨⟨by decide +kernel, by decide +kernel⟩, List.mem_of_getElem? (i := 101) (by decide +kernel), List.mem_of_getElem? (i := 279) (by decide +kernel), List.mem_of_getElem? (i := 280) (by decide +kernel)⟩
theorem lw_p3 : lw_okq (⟨"Tallow$Reading", "readQuoted", "(LTallow$Text;II)I"⟩, 14) := ⟨⟨by decide +kernel, by decide +kernel⟩, List.mem_of_getElem? (i := 101) (by decide +kernel), List.mem_of_getElem? (i := 287) (by decide +kernel), List.mem_of_getElem? (i := 288) (by decide +kernel)⟩
theorem lw_p4 : lw_okq (⟨"Tallow$Reading", "takeSigns", "(LTallow$Text;II)V"⟩, 14) := ⟨⟨by decide +kernel, by decide +kernel⟩, List.mem_of_getElem? (i := 101) (by decide +kernel), List.mem_of_getElem? (i := 291) (by decide +kernel), List.mem_of_getElem? (i := 292) (by decide +kernel)⟩
theorem lw_p5 : lw_okq (⟨"Tallow$Reading", "endOfCell", "(LTallow$Text;II)I"⟩, 14) := ⟨⟨by decide +kernel, by decide +kernel⟩, List.mem_of_getElem? (i := 101) (by decide +kernel), List.mem_of_getElem? (i := 296) (by decide +kernel), List.mem_of_getElem? (i := 297) (by decide +kernel)⟩
theorem lw_p6 : lw_okq (⟨"Tallow$Reading", "readPlain", "(LTallow$Text;II)I"⟩, 14) := ⟨⟨by decide +kernel, by decide +kernel⟩, List.mem_of_getElem? (i := 101) (by decide +kernel), List.mem_of_getElem? (i := 300) (by decide +kernel), List.mem_of_getElem? (i := 301) (by decide +kernel)⟩
theorem lw_p7 : lw_okq (⟨"Tallow$Reading", "closeCell", "(IZ)V"⟩, 14) := ⟨⟨by decide +kernel, by decide +kernel⟩, List.mem_of_getElem? (i := 101) (by decide +kernel), List.mem_of_getElem? (i := 304) (by decide +kernel), List.mem_of_getElem? (i := 305) (by decide +kernel)⟩
theorem lw_p8 : lw_okq (⟨"Tallow$Reading", "closeRow", "()V"⟩, 14) := ⟨⟨by decide +kernel, by decide +kernel⟩, List.mem_of_getElem? (i := 101) (by decide +kernel), List.mem_of_getElem? (i := 308) (by decide +kernel), List.mem_of_getElem? (i := 309) (by decide +kernel)⟩
theorem lw_p9 : lw_okq (⟨"Tallow$Reading", "findUsualWidth", "()V"⟩, 14) := ⟨⟨by decide +kernel, by decide +kernel⟩, List.mem_of_getElem? (i := 101) (by decide +kernel), List.mem_of_getElem? (i := 315) (by decide +kernel), List.mem_of_getElem? (i := 316) (by decide +kernel)⟩
theorem lw_p10 : lw_okq (⟨"Tallow$Reading", "rowsOfWidth", "(I)I"⟩, 14) := ⟨⟨by decide +kernel, by decide +kernel⟩, List.mem_of_getElem? (i := 101) (by decide +kernel), List.mem_of_getElem? (i := 319) (by decide +kernel), List.mem_of_getElem? (i := 320) (by decide +kernel)⟩
theorem lw_p11 : lw_okq (⟨"Tallow", "unsettleAll", "()V"⟩, 7) := ⟨⟨by decide +kernel, by decide +kernel⟩, List.mem_of_getElem? (i := 33) (by decide +kernel), List.mem_of_getElem? (i := 323) (by decide +kernel), List.mem_of_getElem? (i := 324) (by decide +kernel)⟩
theorem lw_p12 : lw_okq (⟨"Tallow", "guessedParter", "()I"⟩, 7) := ⟨⟨by decide +kernel, by decide +kernel⟩, List.mem_of_getElem? (i := 33) (by decide +kernel), List.mem_of_getElem? (i := 328) (by decide +kernel), List.mem_of_getElem? (i := 329) (by decide +kernel)⟩
theorem lw_p13 : lw_okq (⟨"Tallow", "tableWith", "(I)LTallow$Table;"⟩, 7) := ⟨⟨by decide +kernel, by decide +kernel⟩, List.mem_of_getElem? (i := 33) (by decide +kernel), List.mem_of_getElem? (i := 340) (by decide +kernel), List.mem_of_getElem? (i := 341) (by decide +kernel)⟩
theorem lw_p14 : lw_okq (⟨"Tallow$Table", "guessedMark", "()I"⟩, 13) := ⟨⟨by decide +kernel, by decide +kernel⟩, List.mem_of_getElem? (i := 95) (by decide +kernel), List.mem_of_getElem? (i := 349) (by decide +kernel), List.mem_of_getElem? (i := 350) (by decide +kernel)⟩
theorem lw_p15 : lw_okq (⟨"Tallow$Table", "nameCell", "(I)V"⟩, 13) := ⟨⟨by decide +kernel, by decide +kernel⟩, List.mem_of_getElem? (i := 95) (by decide +kernel), List.mem_of_getElem? (i := 363) (by decide +kernel), List.mem_of_getElem? (i := 364) (by decide +kernel)⟩
def lw_privs_1 : List (MethodName × Nat) := [(⟨"Tallow", "tableNow", "()LTallow$Table;"⟩, 7), (⟨"Tallow", "readText", "()V"⟩, 7), (⟨"Tallow$Reading", "isMoreToRead", "(LTallow$Text;I)Z"⟩, 14), (⟨"Tallow$Reading", "readQuoted", "(LTallow$Text;II)I"⟩, 14), (⟨"Tallow$Reading", "takeSigns", "(LTallow$Text;II)V"⟩, 14), (⟨"Tallow$Reading", "endOfCell", "(LTallow$Text;II)I"⟩, 14), (⟨"Tallow$Reading", "readPlain", "(LTallow$Text;II)I"⟩, 14), (⟨"Tallow$Reading", "closeCell", "(IZ)V"⟩, 14), (⟨"Tallow$Reading", "closeRow", "()V"⟩, 14), (⟨"Tallow$Reading", "findUsualWidth", "()V"⟩, 14), (⟨"Tallow$Reading", "rowsOfWidth", "(I)I"⟩, 14), (⟨"Tallow", "unsettleAll", "()V"⟩, 7), (⟨"Tallow", "guessedParter", "()I"⟩, 7), (⟨"Tallow", "tableWith", "(I)LTallow$Table;"⟩, 7), (⟨"Tallow$Table", "guessedMark", "()I"⟩, 13), (⟨"Tallow$Table", "nameCell", "(I)V"⟩, 13)]
theorem lw_r1 : ∀ q ∈ lw_privs_1, lw_okq q := List.forall_mem_cons.mpr ⟨lw_p0, List.forall_mem_cons.mpr ⟨lw_p1, List.forall_mem_cons.mpr ⟨lw_p2, List.forall_mem_cons.mpr ⟨lw_p3, List.forall_mem_cons.mpr ⟨lw_p4, List.forall_mem_cons.mpr ⟨lw_p5, List.forall_mem_cons.mpr ⟨lw_p6, List.forall_mem_cons.mpr ⟨lw_p7, List.forall_mem_cons.mpr ⟨lw_p8, List.forall_mem_cons.mpr ⟨lw_p9, List.forall_mem_cons.mpr ⟨lw_p10, List.forall_mem_cons.mpr ⟨lw_p11, List.forall_mem_cons.mpr ⟨lw_p12, List.forall_mem_cons.mpr ⟨lw_p13, List.forall_mem_cons.mpr ⟨lw_p14, List.forall_mem_cons.mpr ⟨lw_p15, fun _ h => absurd h List.not_mem_nil⟩⟩⟩⟩⟩⟩⟩⟩⟩⟩⟩⟩⟩⟩⟩⟩
theorem lw_p16 : lw_okq (⟨"Tallow$Table", "guessedHeading", "(I)I"⟩, 13) := ⟨⟨by decide +kernel, by decide +kernel⟩, List.mem_of_getElem? (i := 95) (by decide +kernel), List.mem_of_getElem? (i := 406) (by decide +kernel), List.mem_of_getElem? (i := 407) (by decide +kernel)⟩
theorem lw_p17 : lw_okq (⟨"Tallow$Table", "talliedFilled", "()I"⟩, 13) := ⟨⟨by decide +kernel, by decide +kernel⟩, List.mem_of_getElem? (i := 95) (by decide +kernel), List.mem_of_getElem? (i := 428) (by decide +kernel), List.mem_of_getElem? (i := 429) (by decide +kernel)⟩
theorem lw_p18 : lw_okq (⟨"Tallow$Table", "markRepeats", "(I)V"⟩, 13) := ⟨⟨by decide +kernel, by decide +kernel⟩, List.mem_of_getElem? (i := 95) (by decide +kernel), List.mem_of_getElem? (i := 432) (by decide +kernel), List.mem_of_getElem? (i := 433) (by decide +kernel)⟩
theorem lw_p19 : lw_okq (⟨"Tallow$Table", "isAhead", "(III)Z"⟩, 13) := ⟨⟨by decide +kernel, by decide +kernel⟩, List.mem_of_getElem? (i := 95) (by decide +kernel), List.mem_of_getElem? (i := 436) (by decide +kernel), List.mem_of_getElem? (i := 437) (by decide +kernel)⟩
theorem lw_p20 : lw_okq (⟨"Tallow$Table", "findFaults", "(LTallow$Told;I)V"⟩, 13) := ⟨⟨by decide +kernel, by decide +kernel⟩, List.mem_of_getElem? (i := 95) (by decide +kernel), List.mem_of_getElem? (i := 444) (by decide +kernel), List.mem_of_getElem? (i := 445) (by decide +kernel)⟩
theorem lw_p21 : lw_okq (⟨"Tallow$Table", "faultOfCell", "(LTallow$Told;II)I"⟩, 13) := ⟨⟨by decide +kernel, by decide +kernel⟩, List.mem_of_getElem? (i := 95) (by decide +kernel), List.mem_of_getElem? (i := 453) (by decide +kernel), List.mem_of_getElem? (i := 454) (by decide +kernel)⟩
theorem lw_p22 : lw_okq (⟨"Tallow$Table", "isOfKind", "(II)Z"⟩, 13) := ⟨⟨by decide +kernel, by decide +kernel⟩, List.mem_of_getElem? (i := 95) (by decide +kernel), List.mem_of_getElem? (i := 457) (by decide +kernel), List.mem_of_getElem? (i := 458) (by decide +kernel)⟩
theorem lw_p23 : lw_okq (⟨"Tallow$Table", "keepOnce", "(I)V"⟩, 13) := ⟨⟨by decide +kernel, by decide +kernel⟩, List.mem_of_getElem? (i := 95) (by decide +kernel), List.mem_of_getElem? (i := 470) (by decide +kernel), List.mem_of_getElem? (i := 471) (by decide +kernel)⟩
theorem lw_p24 : lw_okq (⟨"Tallow$Table", "isSameRow", "(II)Z"⟩, 13) := ⟨⟨by decide +kernel, by decide +kernel⟩, List.mem_of_getElem? (i := 95) (by decide +kernel), List.mem_of_getElem? (i := 474) (by decide +kernel), List.mem_of_getElem? (i := 475) (by decide +kernel)⟩
theorem lw_p25 : lw_okq (⟨"Tallow$Table", "repeatsIn", "(I)I"⟩, 13) := ⟨⟨by decide +kernel, by decide +kernel⟩, List.mem_of_getElem? (i := 95) (by decide +kernel), List.mem_of_getElem? (i := 520) (by decide +kernel), List.mem_of_getElem? (i := 521) (by decide +kernel)⟩
theorem lw_p26 : lw_okq (⟨"Tallow$Table", "isFilledIn", "(II)Z"⟩, 13) := ⟨⟨by decide +kernel, by decide +kernel⟩, List.mem_of_getElem? (i := 95) (by decide +kernel), List.mem_of_getElem? (i := 528) (by decide +kernel), List.mem_of_getElem? (i := 529) (by decide +kernel)⟩
theorem lw_p27 : lw_okq (⟨"Tallow$Table", "cellOfKept", "(II)I"⟩, 13) := ⟨⟨by decide +kernel, by decide +kernel⟩, List.mem_of_getElem? (i := 95) (by decide +kernel), List.mem_of_getElem? (i := 532) (by decide +kernel), List.mem_of_getElem? (i := 533) (by decide +kernel)⟩
theorem lw_p28 : lw_okq (⟨"Tallow", "settledWith", "(I)LTallow$Table;"⟩, 7) := ⟨⟨by decide +kernel, by decide +kernel⟩, List.mem_of_getElem? (i := 33) (by decide +kernel), List.mem_of_getElem? (i := 551) (by decide +kernel), List.mem_of_getElem? (i := 552) (by decide +kernel)⟩
theorem lw_p29 : lw_okq (⟨"java/lang/Throwable", "fillInStackTrace", "(I)Ljava/lang/Throwable;"⟩, 6) := ⟨⟨by decide +kernel, by decide +kernel⟩, List.mem_of_getElem? (i := 605) (by decide +kernel), List.mem_of_getElem? (i := 603) (by decide +kernel), List.mem_of_getElem? (i := 604) (by decide +kernel)⟩
theorem lw_p30 : lw_okq (⟨"TallowModel", "start", "(ZI)Z"⟩, 5) := ⟨⟨by decide +kernel, by decide +kernel⟩, List.mem_of_getElem? (i := 886) (by decide +kernel), List.mem_of_getElem? (i := 952) (by decide +kernel), List.mem_of_getElem? (i := 953) (by decide +kernel)⟩
theorem lw_p31 : lw_okq (⟨"TallowModel", "refuse", "(ZI)Z"⟩, 5) := ⟨⟨by decide +kernel, by decide +kernel⟩, List.mem_of_getElem? (i := 886) (by decide +kernel), List.mem_of_getElem? (i := 956) (by decide +kernel), List.mem_of_getElem? (i := 957) (by decide +kernel)⟩
def lw_privs_2 : List (MethodName × Nat) := [(⟨"Tallow$Table", "guessedHeading", "(I)I"⟩, 13), (⟨"Tallow$Table", "talliedFilled", "()I"⟩, 13), (⟨"Tallow$Table", "markRepeats", "(I)V"⟩, 13), (⟨"Tallow$Table", "isAhead", "(III)Z"⟩, 13), (⟨"Tallow$Table", "findFaults", "(LTallow$Told;I)V"⟩, 13), (⟨"Tallow$Table", "faultOfCell", "(LTallow$Told;II)I"⟩, 13), (⟨"Tallow$Table", "isOfKind", "(II)Z"⟩, 13), (⟨"Tallow$Table", "keepOnce", "(I)V"⟩, 13), (⟨"Tallow$Table", "isSameRow", "(II)Z"⟩, 13), (⟨"Tallow$Table", "repeatsIn", "(I)I"⟩, 13), (⟨"Tallow$Table", "isFilledIn", "(II)Z"⟩, 13), (⟨"Tallow$Table", "cellOfKept", "(II)I"⟩, 13), (⟨"Tallow", "settledWith", "(I)LTallow$Table;"⟩, 7), (⟨"java/lang/Throwable", "fillInStackTrace", "(I)Ljava/lang/Throwable;"⟩, 6), (⟨"TallowModel", "start", "(ZI)Z"⟩, 5), (⟨"TallowModel", "refuse", "(ZI)Z"⟩, 5)]
theorem lw_r2 : ∀ q ∈ lw_privs_2, lw_okq q := List.forall_mem_cons.mpr ⟨lw_p16, List.forall_mem_cons.mpr ⟨lw_p17, List.forall_mem_cons.mpr ⟨lw_p18, List.forall_mem_cons.mpr ⟨lw_p19, List.forall_mem_cons.mpr ⟨lw_p20, List.forall_mem_cons.mpr ⟨lw_p21, List.forall_mem_cons.mpr ⟨lw_p22, List.forall_mem_cons.mpr ⟨lw_p23, List.forall_mem_cons.mpr ⟨lw_p24, List.forall_mem_cons.mpr ⟨lw_p25, List.forall_mem_cons.mpr ⟨lw_p26, List.forall_mem_cons.mpr ⟨lw_p27, List.forall_mem_cons.mpr ⟨lw_p28, List.forall_mem_cons.mpr ⟨lw_p29, List.forall_mem_cons.mpr ⟨lw_p30, List.forall_mem_cons.mpr ⟨lw_p31, fun _ h => absurd h List.not_mem_nil⟩⟩⟩⟩⟩⟩⟩⟩⟩⟩⟩⟩⟩⟩⟩⟩
theorem lw_p32 : lw_okq (⟨"java/util/ArrayList", "add", "(Ljava/lang/Object;[Ljava/lang/Object;I)V"⟩, 3) := ⟨⟨by decide +kernel, by decide +kernel⟩, List.mem_of_getElem? (i := 892) (by decide +kernel), List.mem_of_getElem? (i := 984) (by decide +kernel), List.mem_of_getElem? (i := 985) (by decide +kernel)⟩
theorem lw_p33 : lw_okq (⟨"java/util/ArrayList", "grow", "()[Ljava/lang/Object;"⟩, 3) := ⟨⟨by decide +kernel, by decide +kernel⟩, List.mem_of_getElem? (i := 892) (by decide +kernel), List.mem_of_getElem? (i := 988) (by decide +kernel), List.mem_of_getElem? (i := 989) (by decide +kernel)⟩
theorem lw_p34 : lw_okq (⟨"java/util/ArrayList", "grow", "(I)[Ljava/lang/Object;"⟩, 3) := ⟨⟨by decide +kernel, by decide +kernel⟩, List.mem_of_getElem? (i := 892) (by decide +kernel), List.mem_of_getElem? (i := 992) (by decide +kernel), List.mem_of_getElem? (i := 993) (by decide +kernel)⟩
theorem lw_p35 : lw_okq (⟨"TallowModel", "add", "(Ljava/util/ArrayList;)I"⟩, 5) := ⟨⟨by decide +kernel, by decide +kernel⟩, List.mem_of_getElem? (i := 886) (by decide +kernel), List.mem_of_getElem? (i := 1040) (by decide +kernel), List.mem_of_getElem? (i := 1041) (by decide +kernel)⟩
theorem lw_p36 : lw_okq (⟨"TallowModel", "sheet", "()LTallowModel$Sheet;"⟩, 5) := ⟨⟨by decide +kernel, by decide +kernel⟩, List.mem_of_getElem? (i := 886) (by decide +kernel), List.mem_of_getElem? (i := 1102) (by decide +kernel), List.mem_of_getElem? (i := 1103) (by decide +kernel)⟩
theorem lw_p37 : lw_okq (⟨"TallowModel", "parter", "()I"⟩, 5) := ⟨⟨by decide +kernel, by decide +kernel⟩, List.mem_of_getElem? (i := 886) (by decide +kernel), List.mem_of_getElem? (i := 1108) (by decide +kernel), List.mem_of_getElem? (i := 1109) (by decide +kernel)⟩
theorem lw_p38 : lw_okq (⟨"TallowModel", "scoreOf", "(I)I"⟩, 5) := ⟨⟨by decide +kernel, by decide +kernel⟩, List.mem_of_getElem? (i := 886) (by decide +kernel), List.mem_of_getElem? (i := 1112) (by decide +kernel), List.mem_of_getElem? (i := 1113) (by decide +kernel)⟩
theorem lw_p39 : lw_okq (⟨"TallowModel$Reader", "isOver", "()Z"⟩, 3) := ⟨⟨by decide +kernel, by decide +kernel⟩, List.mem_of_getElem? (i := 1116) (by decide +kernel), List.mem_of_getElem? (i := 1138) (by decide +kernel), List.mem_of_getElem? (i := 1139) (by decide +kernel)⟩
theorem lw_p40 : lw_okq (⟨"TallowModel$Reader", "cell", "()LTallowModel$Cell;"⟩, 3) := ⟨⟨by decide +kernel, by decide +kernel⟩, List.mem_of_getElem? (i := 1116) (by decide +kernel), List.mem_of_getElem? (i := 1162) (by decide +kernel), List.mem_of_getElem? (i := 1163) (by decide +kernel)⟩
theorem lw_p41 : lw_okq (⟨"TallowModel$Reader", "quoted", "(Ljava/util/ArrayList;)LTallowModel$Cell;"⟩, 3) := ⟨⟨by decide +kernel, by decide +kernel⟩, List.mem_of_getElem? (i := 1116) (by decide +kernel), List.mem_of_getElem? (i := 1185) (by decide +kernel), List.mem_of_getElem? (i := 1186) (by decide +kernel)⟩
theorem lw_p42 : lw_okq (⟨"TallowModel$Reader", "signs", "(Ljava/util/ArrayList;)[I"⟩, 3) := ⟨⟨by decide +kernel, by decide +kernel⟩, List.mem_of_getElem? (i := 1116) (by decide +kernel), List.mem_of_getElem? (i := 1191) (by decide +kernel), List.mem_of_getElem? (i := 1192) (by decide +kernel)⟩
theorem lw_p43 : lw_okq (⟨"TallowModel$Reader", "isEnd", "()Z"⟩, 3) := ⟨⟨by decide +kernel, by decide +kernel⟩, List.mem_of_getElem? (i := 1116) (by decide +kernel), List.mem_of_getElem? (i := 1219) (by decide +kernel), List.mem_of_getElem? (i := 1220) (by decide +kernel)⟩
theorem lw_p44 : lw_okq (⟨"java/util/ArrayList", "fastRemove", "([Ljava/lang/Object;I)V"⟩, 3) := ⟨⟨by decide +kernel, by decide +kernel⟩, List.mem_of_getElem? (i := 892) (by decide +kernel), List.mem_of_getElem? (i := 1231) (by decide +kernel), List.mem_of_getElem? (i := 1232) (by decide +kernel)⟩
theorem lw_p45 : lw_okq (⟨"TallowModel$Sheet", "decimals", "(I)I"⟩, 10) := ⟨⟨by decide +kernel, by decide +kernel⟩, List.mem_of_getElem? (i := 1106) (by decide +kernel), List.mem_of_getElem? (i := 1268) (by decide +kernel), List.mem_of_getElem? (i := 1269) (by decide +kernel)⟩
theorem lw_p46 : lw_okq (⟨"TallowModel$Cell", "begin", "()I"⟩, 3) := ⟨⟨by decide +kernel, by decide +kernel⟩, List.mem_of_getElem? (i := 1189) (by decide +kernel), List.mem_of_getElem? (i := 1280) (by decide +kernel), List.mem_of_getElem? (i := 1281) (by decide +kernel)⟩
theorem lw_p47 : lw_okq (⟨"TallowModel$Cell", "digits", "(I)I"⟩, 3) := ⟨⟨by decide +kernel, by decide +kernel⟩, List.mem_of_getElem? (i := 1189) (by decide +kernel), List.mem_of_getElem? (i := 1284) (by decide +kernel), List.mem_of_getElem? (i := 1285) (by decide +kernel)⟩
def lw_privs_3 : List (MethodName × Nat) := [(⟨"java/util/ArrayList", "add", "(Ljava/lang/Object;[Ljava/lang/Object;I)V"⟩, 3), (⟨"java/util/ArrayList", "grow", "()[Ljava/lang/Object;"⟩, 3), (⟨"java/util/ArrayList", "grow", "(I)[Ljava/lang/Object;"⟩, 3), (⟨"TallowModel", "add", "(Ljava/util/ArrayList;)I"⟩, 5), (⟨"TallowModel", "sheet", "()LTallowModel$Sheet;"⟩, 5), (⟨"TallowModel", "parter", "()I"⟩, 5), (⟨"TallowModel", "scoreOf", "(I)I"⟩, 5), (⟨"TallowModel$Reader", "isOver", "()Z"⟩, 3), (⟨"TallowModel$Reader", "cell", "()LTallowModel$Cell;"⟩, 3), (⟨"TallowModel$Reader", "quoted", "(Ljava/util/ArrayList;)LTallowModel$Cell;"⟩, 3), (⟨"TallowModel$Reader", "signs", "(Ljava/util/ArrayList;)[I"⟩, 3), (⟨"TallowModel$Reader", "isEnd", "()Z"⟩, 3), (⟨"java/util/ArrayList", "fastRemove", "([Ljava/lang/Object;I)V"⟩, 3), (⟨"TallowModel$Sheet", "decimals", "(I)I"⟩, 10), (⟨"TallowModel$Cell", "begin", "()I"⟩, 3), (⟨"TallowModel$Cell", "digits", "(I)I"⟩, 3)]
theorem lw_r3 : ∀ q ∈ lw_privs_3, lw_okq q := List.forall_mem_cons.mpr ⟨lw_p32, List.forall_mem_cons.mpr ⟨lw_p33, List.forall_mem_cons.mpr ⟨lw_p34, List.forall_mem_cons.mpr ⟨lw_p35, List.forall_mem_cons.mpr ⟨lw_p36, List.forall_mem_cons.mpr ⟨lw_p37, List.forall_mem_cons.mpr ⟨lw_p38, List.forall_mem_cons.mpr ⟨lw_p39, List.forall_mem_cons.mpr ⟨lw_p40, List.forall_mem_cons.mpr ⟨lw_p41, List.forall_mem_cons.mpr ⟨lw_p42, List.forall_mem_cons.mpr ⟨lw_p43, List.forall_mem_cons.mpr ⟨lw_p44, List.forall_mem_cons.mpr ⟨lw_p45, List.forall_mem_cons.mpr ⟨lw_p46, List.forall_mem_cons.mpr ⟨lw_p47, fun _ h => absurd h List.not_mem_nil⟩⟩⟩⟩⟩⟩⟩⟩⟩⟩⟩⟩⟩⟩⟩⟩
theorem lw_p48 : lw_okq (⟨"TallowModel$Cell", "isDigit", "(I)Z"⟩, 3) := ⟨⟨by decide +kernel, by decide +kernel⟩, List.mem_of_getElem? (i := 1189) (by decide +kernel), List.mem_of_getElem? (i := 1288) (by decide +kernel), List.mem_of_getElem? (i := 1289) (by decide +kernel)⟩
theorem lw_p49 : lw_okq (⟨"TallowModel$Cell", "decimals", "(I)I"⟩, 3) := ⟨⟨by decide +kernel, by decide +kernel⟩, List.mem_of_getElem? (i := 1189) (by decide +kernel), List.mem_of_getElem? (i := 1292) (by decide +kernel), List.mem_of_getElem? (i := 1293) (by decide +kernel)⟩
theorem lw_p50 : lw_okq (⟨"TallowModel$Cell", "isAt", "(II)Z"⟩, 3) := ⟨⟨by decide +kernel, by decide +kernel⟩, List.mem_of_getElem? (i := 1189) (by decide +kernel), List.mem_of_getElem? (i := 1296) (by decide +kernel), List.mem_of_getElem? (i := 1297) (by decide +kernel)⟩
theorem lw_p51 : lw_okq (⟨"TallowModel$Cell", "date", "()[I"⟩, 3) := ⟨⟨by decide +kernel, by decide +kernel⟩, List.mem_of_getElem? (i := 1189) (by decide +kernel), List.mem_of_getElem? (i := 1300) (by decide +kernel), List.mem_of_getElem? (i := 1301) (by decide +kernel)⟩
theorem lw_p52 : lw_okq (⟨"TallowModel$Cell", "number", "(II)I"⟩, 3) := ⟨⟨by decide +kernel, by decide +kernel⟩, List.mem_of_getElem? (i := 1189) (by decide +kernel), List.mem_of_getElem? (i := 1304) (by decide +kernel), List.mem_of_getElem? (i := 1305) (by decide +kernel)⟩
theorem lw_p53 : lw_okq (⟨"TallowModel$Sheet", "seemsHeading", "()Z"⟩, 10) := ⟨⟨by decide +kernel, by decide +kernel⟩, List.mem_of_getElem? (i := 1106) (by decide +kernel), List.mem_of_getElem? (i := 1314) (by decide +kernel), List.mem_of_getElem? (i := 1315) (by decide +kernel)⟩
theorem lw_p54 : lw_okq (⟨"TallowModel$Sheet", "look", "(I)V"⟩, 10) := ⟨⟨by decide +kernel, by decide +kernel⟩, List.mem_of_getElem? (i := 1106) (by decide +kernel), List.mem_of_getElem? (i := 1331) (by decide +kernel), List.mem_of_getElem? (i := 1332) (by decide +kernel)⟩
theorem lw_p55 : lw_okq (⟨"TallowModel$Sheet", "faultOf", "(II)I"⟩, 10) := ⟨⟨by decide +kernel, by decide +kernel⟩, List.mem_of_getElem? (i := 1106) (by decide +kernel), List.mem_of_getElem? (i := 1335) (by decide +kernel), List.mem_of_getElem? (i := 1336) (by decide +kernel)⟩
theorem lw_p56 : lw_okq (⟨"TallowModel", "count", "(LTallowModel$Sheet;I)I"⟩, 5) := ⟨⟨by decide +kernel, by decide +kernel⟩, List.mem_of_getElem? (i := 886) (by decide +kernel), List.mem_of_getElem? (i := 1405) (by decide +kernel), List.mem_of_getElem? (i := 1406) (by decide +kernel)⟩
theorem lw_p57 : lw_okq (⟨"TallowModel", "isNoCell", "(LTallowModel$Sheet;II)Z"⟩, 5) := ⟨⟨by decide +kernel, by decide +kernel⟩, List.mem_of_getElem? (i := 886) (by decide +kernel), List.mem_of_getElem? (i := 1422) (by decide +kernel), List.mem_of_getElem? (i := 1423) (by decide +kernel)⟩
theorem lw_p58 : lw_okq (⟨"TallowModel", "isNoColumn", "(LTallowModel$Sheet;I)Z"⟩, 5) := ⟨⟨by decide +kernel, by decide +kernel⟩, List.mem_of_getElem? (i := 886) (by decide +kernel), List.mem_of_getElem? (i := 1446) (by decide +kernel), List.mem_of_getElem? (i := 1447) (by decide +kernel)⟩
def lw_privs_4 : List (MethodName × Nat) := [(⟨"TallowModel$Cell", "isDigit", "(I)Z"⟩, 3), (⟨"TallowModel$Cell", "decimals", "(I)I"⟩, 3), (⟨"TallowModel$Cell", "isAt", "(II)Z"⟩, 3), (⟨"TallowModel$Cell", "date", "()[I"⟩, 3), (⟨"TallowModel$Cell", "number", "(II)I"⟩, 3), (⟨"TallowModel$Sheet", "seemsHeading", "()Z"⟩, 10), (⟨"TallowModel$Sheet", "look", "(I)V"⟩, 10), (⟨"TallowModel$Sheet", "faultOf", "(II)I"⟩, 10), (⟨"TallowModel", "count", "(LTallowModel$Sheet;I)I"⟩, 5), (⟨"TallowModel", "isNoCell", "(LTallowModel$Sheet;II)Z"⟩, 5), (⟨"TallowModel", "isNoColumn", "(LTallowModel$Sheet;I)Z"⟩, 5)]
theorem lw_r4 : ∀ q ∈ lw_privs_4, lw_okq q := List.forall_mem_cons.mpr ⟨lw_p48, List.forall_mem_cons.mpr ⟨lw_p49, List.forall_mem_cons.mpr ⟨lw_p50, List.forall_mem_cons.mpr ⟨lw_p51, List.forall_mem_cons.mpr ⟨lw_p52, List.forall_mem_cons.mpr ⟨lw_p53, List.forall_mem_cons.mpr ⟨lw_p54, List.forall_mem_cons.mpr ⟨lw_p55, List.forall_mem_cons.mpr ⟨lw_p56, List.forall_mem_cons.mpr ⟨lw_p57, List.forall_mem_cons.mpr ⟨lw_p58, fun _ h => absurd h List.not_mem_nil⟩⟩⟩⟩⟩⟩⟩⟩⟩⟩⟩
def lw_privs : List (MethodName × Nat) := lw_privs_1 ++ (lw_privs_2 ++ (lw_privs_3 ++ (lw_privs_4)))
def lw_tbl : List Cond := k2_sels lw_privs ++ tables_1
theorem lw_privs_ok : ∀ q ∈ lw_privs, lw_okq q := by
  show ∀ q ∈ lw_privs_1 ++ (lw_privs_2 ++ (lw_privs_3 ++ (lw_privs_4))), lw_okq q
  exact List.forall_mem_append.mpr ⟨lw_r1, List.forall_mem_append.mpr ⟨lw_r2, List.forall_mem_append.mpr ⟨lw_r3, lw_r4⟩⟩⟩
/-- the streams that the claim lets the run draw from -/
abbrev lw_cs : List Choice := [Jvm.Choice.named "NaN.bits"]
theorem lw_bits : nanBits ∈ lw_cs := by first | decide | exact List.mem_cons_self | simp [lw_cs, nanBits]
-- names: classes
def RX0 : String := "Tallow$Faults"
def RX1 : String := "Tallow$Kinds"
def RX2 : String := "Tallow$Numbers"
def RX3 : String := "Tallow$Reading"
def RX4 : String := "Tallow$Table"
def RX5 : String := "Tallow$Text"
def RX6 : String := "Tallow$Told"
def RX7 : String := "Tallow"
def RX8 : String := "TallowModel$Cell"
def RX9 : String := "TallowModel$Reader"
def RX10 : String := "TallowModel$Row"
def RX11 : String := "TallowModel$Sheet"
def RX12 : String := "TallowModel"
def RJ6 : String := "java/lang/Integer"
def RJ9 : String := "java/lang/Math"
def RJxd2413 : String := "java/lang/Number"
def RJxa1e45 : String := "java/util/AbstractCollection"
def RJxc12de : String := "java/util/AbstractList"
def RJx4a65c : String := "java/util/ArrayList"
def RJ7 : String := "java/util/Arrays"
def RJ15 : String := "java/util/Objects"
def RJ8 : String := "jdk/internal/util/ArraysSupport"
def RJ3 : String := "jdk/internal/util/Preconditions"
def RL : String := "TallowLaw"
def TJ6 : u_T := fun k => match k with
  | _ => ("java/lang/Integer", "value", "I", true)
def tyJ6 : Nat → FieldType := fun k => match k with
  | _ => .int
theorem nmJ6 : ∀ a, a < 1 → ∀ b, b < 1 → a ≠ b → (TJ6 a).2.1 ≠ (TJ6 b).2.1 := by decide +kernel
theorem tyJ6_ok : ∀ k, k < 1 → parseFieldDescriptor (TJ6 k).2.2.1 = some (tyJ6 k) := by decide +kernel
def TJx4a65c : u_T := fun k => match k with
  | 0 => ("java/util/AbstractList", "modCount", "I", false)
  | 1 => ("java/util/ArrayList", "elementData", "[Ljava/lang/Object;", false)
  | _ => ("java/util/ArrayList", "size", "I", false)
def tyJx4a65c : Nat → FieldType := fun k => match k with
  | 0 => .int
  | 1 => .array (.object "java/lang/Object")
  | _ => .int
theorem nmJx4a65c : ∀ a, a < 3 → ∀ b, b < 3 → a ≠ b → (TJx4a65c a).2.1 ≠ (TJx4a65c b).2.1 := by decide +kernel
theorem tyJx4a65c_ok : ∀ k, k < 3 → parseFieldDescriptor (TJx4a65c k).2.2.1 = some (tyJx4a65c k) := by decide +kernel
def TX0 : u_T := fun k => match k with
  | 0 => ("Tallow$Faults", "rows", "LTallow$Numbers;", true)
  | 1 => ("Tallow$Faults", "columns", "LTallow$Numbers;", true)
  | 2 => ("Tallow$Faults", "codes", "LTallow$Numbers;", true)
  | _ => ("Tallow$Faults", "count", "I", false)
def tyX0 : Nat → FieldType := fun k => match k with
  | 0 => .object "Tallow$Numbers"
  | 1 => .object "Tallow$Numbers"
  | 2 => .object "Tallow$Numbers"
  | _ => .int
theorem nmX0 : ∀ a, a < 4 → ∀ b, b < 4 → a ≠ b → (TX0 a).2.1 ≠ (TX0 b).2.1 := by decide +kernel
theorem tyX0_ok : ∀ k, k < 4 → parseFieldDescriptor (TX0 k).2.2.1 = some (tyX0 k) := by decide +kernel
def TX2 : u_T := fun k => match k with
  | _ => ("Tallow$Numbers", "held", "[I", true)
def tyX2 : Nat → FieldType := fun k => match k with
  | _ => .array .int
theorem nmX2 : ∀ a, a < 1 → ∀ b, b < 1 → a ≠ b → (TX2 a).2.1 ≠ (TX2 b).2.1 := by decide +kernel
theorem tyX2_ok : ∀ k, k < 1 → parseFieldDescriptor (TX2 k).2.2.1 = some (tyX2 k) := by decide +kernel
def TX3 : u_T := fun k => match k with
  | 0 => ("Tallow$Reading", "signs", "LTallow$Numbers;", true)
  | 1 => ("Tallow$Reading", "starts", "LTallow$Numbers;", true)
  | 2 => ("Tallow$Reading", "lengths", "LTallow$Numbers;", true)
  | 3 => ("Tallow$Reading", "quoted", "LTallow$Numbers;", true)
  | 4 => ("Tallow$Reading", "cellFaults", "LTallow$Numbers;", true)
  | 5 => ("Tallow$Reading", "firstCells", "LTallow$Numbers;", true)
  | 6 => ("Tallow$Reading", "widths", "LTallow$Numbers;", true)
  | 7 => ("Tallow$Reading", "signCount", "I", false)
  | 8 => ("Tallow$Reading", "cellCount", "I", false)
  | 9 => ("Tallow$Reading", "rowCount", "I", false)
  | 10 => ("Tallow$Reading", "openWidth", "I", false)
  | 11 => ("Tallow$Reading", "openFault", "I", false)
  | 12 => ("Tallow$Reading", "usualWidth", "I", false)
  | _ => ("Tallow$Reading", "usualRows", "I", false)
def tyX3 : Nat → FieldType := fun k => match k with
  | 0 => .object "Tallow$Numbers"
  | 1 => .object "Tallow$Numbers"
  | 2 => .object "Tallow$Numbers"
  | 3 => .object "Tallow$Numbers"
  | 4 => .object "Tallow$Numbers"
  | 5 => .object "Tallow$Numbers"
  | 6 => .object "Tallow$Numbers"
  | 7 => .int
  | 8 => .int
  | 9 => .int
  | 10 => .int
  | 11 => .int
  | 12 => .int
  | _ => .int
theorem nmX3 : ∀ a, a < 14 → ∀ b, b < 14 → a ≠ b → (TX3 a).2.1 ≠ (TX3 b).2.1 := by decide +kernel
theorem tyX3_ok : ∀ k, k < 14 → parseFieldDescriptor (TX3 k).2.2.1 = some (tyX3 k) := by decide +kernel
def TX4 : u_T := fun k => match k with
  | 0 => ("Tallow$Table", "reading", "LTallow$Reading;", true)
  | 1 => ("Tallow$Table", "faults", "LTallow$Faults;", true)
  | 2 => ("Tallow$Table", "keptRows", "LTallow$Numbers;", true)
  | 3 => ("Tallow$Table", "kinds", "LTallow$Numbers;", true)
  | 4 => ("Tallow$Table", "values", "LTallow$Numbers;", true)
  | 5 => ("Tallow$Table", "repeats", "LTallow$Numbers;", true)
  | 6 => ("Tallow$Table", "columnKinds", "LTallow$Numbers;", true)
  | 7 => ("Tallow$Table", "tally", "LTallow$Numbers;", true)
  | 8 => ("Tallow$Table", "parter", "I", true)
  | 9 => ("Tallow$Table", "mark", "I", false)
  | 10 => ("Tallow$Table", "heading", "I", false)
  | 11 => ("Tallow$Table", "keptCount", "I", false)
  | _ => ("Tallow$Table", "settled", "Z", false)
def tyX4 : Nat → FieldType := fun k => match k with
  | 0 => .object "Tallow$Reading"
  | 1 => .object "Tallow$Faults"
  | 2 => .object "Tallow$Numbers"
  | 3 => .object "Tallow$Numbers"
  | 4 => .object "Tallow$Numbers"
  | 5 => .object "Tallow$Numbers"
  | 6 => .object "Tallow$Numbers"
  | 7 => .object "Tallow$Numbers"
  | 8 => .int
  | 9 => .int
  | 10 => .int
  | 11 => .int
  | _ => .boolean
theorem nmX4 : ∀ a, a < 13 → ∀ b, b < 13 → a ≠ b → (TX4 a).2.1 ≠ (TX4 b).2.1 := by decide +kernel
theorem tyX4_ok : ∀ k, k < 13 → parseFieldDescriptor (TX4 k).2.2.1 = some (tyX4 k) := by decide +kernel
def TX5 : u_T := fun k => match k with
  | 0 => ("Tallow$Text", "signs", "LTallow$Numbers;", true)
  | _ => ("Tallow$Text", "count", "I", false)
def tyX5 : Nat → FieldType := fun k => match k with
  | 0 => .object "Tallow$Numbers"
  | _ => .int
theorem nmX5 : ∀ a, a < 2 → ∀ b, b < 2 → a ≠ b → (TX5 a).2.1 ≠ (TX5 b).2.1 := by decide +kernel
theorem tyX5_ok : ∀ k, k < 2 → parseFieldDescriptor (TX5 k).2.2.1 = some (tyX5 k) := by decide +kernel
def TX6 : u_T := fun k => match k with
  | 0 => ("Tallow$Told", "choices", "LTallow$Numbers;", true)
  | 1 => ("Tallow$Told", "rules", "LTallow$Numbers;", true)
  | _ => ("Tallow$Told", "share", "I", false)
def tyX6 : Nat → FieldType := fun k => match k with
  | 0 => .object "Tallow$Numbers"
  | 1 => .object "Tallow$Numbers"
  | _ => .int
theorem nmX6 : ∀ a, a < 3 → ∀ b, b < 3 → a ≠ b → (TX6 a).2.1 ≠ (TX6 b).2.1 := by decide +kernel
theorem tyX6_ok : ∀ k, k < 3 → parseFieldDescriptor (TX6 k).2.2.1 = some (tyX6 k) := by decide +kernel
def TX7 : u_T := fun k => match k with
  | 0 => ("Tallow", "text", "LTallow$Text;", true)
  | 1 => ("Tallow", "told", "LTallow$Told;", true)
  | 2 => ("Tallow", "byComma", "LTallow$Table;", true)
  | 3 => ("Tallow", "bySemicolon", "LTallow$Table;", true)
  | 4 => ("Tallow", "byTab", "LTallow$Table;", true)
  | 5 => ("Tallow", "byBar", "LTallow$Table;", true)
  | _ => ("Tallow", "textIsRead", "Z", false)
def tyX7 : Nat → FieldType := fun k => match k with
  | 0 => .object "Tallow$Text"
  | 1 => .object "Tallow$Told"
  | 2 => .object "Tallow$Table"
  | 3 => .object "Tallow$Table"
  | 4 => .object "Tallow$Table"
  | 5 => .object "Tallow$Table"
  | _ => .boolean
theorem nmX7 : ∀ a, a < 7 → ∀ b, b < 7 → a ≠ b → (TX7 a).2.1 ≠ (TX7 b).2.1 := by decide +kernel
theorem tyX7_ok : ∀ k, k < 7 → parseFieldDescriptor (TX7 k).2.2.1 = some (tyX7 k) := by decide +kernel
def TX8 : u_T := fun k => match k with
  | 0 => ("TallowModel$Cell", "signs", "[I", true)
  | 1 => ("TallowModel$Cell", "isQuoted", "Z", true)
  | _ => ("TallowModel$Cell", "fault", "I", true)
def tyX8 : Nat → FieldType := fun k => match k with
  | 0 => .array .int
  | 1 => .boolean
  | _ => .int
theorem nmX8 : ∀ a, a < 3 → ∀ b, b < 3 → a ≠ b → (TX8 a).2.1 ≠ (TX8 b).2.1 := by decide +kernel
theorem tyX8_ok : ∀ k, k < 3 → parseFieldDescriptor (TX8 k).2.2.1 = some (tyX8 k) := by decide +kernel
def TX9 : u_T := fun k => match k with
  | 0 => ("TallowModel$Reader", "parter", "I", true)
  | 1 => ("TallowModel$Reader", "at", "I", false)
  | _ => ("TallowModel$Reader", "this$0", "LTallowModel;", true)
def tyX9 : Nat → FieldType := fun k => match k with
  | 0 => .int
  | 1 => .int
  | _ => .object "TallowModel"
theorem nmX9 : ∀ a, a < 3 → ∀ b, b < 3 → a ≠ b → (TX9 a).2.1 ≠ (TX9 b).2.1 := by decide +kernel
theorem tyX9_ok : ∀ k, k < 3 → parseFieldDescriptor (TX9 k).2.2.1 = some (tyX9 k) := by decide +kernel
def TX10 : u_T := fun k => match k with
  | 0 => ("TallowModel$Row", "cells", "Ljava/util/ArrayList;", true)
  | _ => ("TallowModel$Row", "width", "I", false)
def tyX10 : Nat → FieldType := fun k => match k with
  | 0 => .object "java/util/ArrayList"
  | _ => .int
theorem nmX10 : ∀ a, a < 2 → ∀ b, b < 2 → a ≠ b → (TX10 a).2.1 ≠ (TX10 b).2.1 := by decide +kernel
theorem tyX10_ok : ∀ k, k < 2 → parseFieldDescriptor (TX10 k).2.2.1 = some (tyX10 k) := by decide +kernel
def TX11 : u_T := fun k => match k with
  | 0 => ("TallowModel$Sheet", "parter", "I", true)
  | 1 => ("TallowModel$Sheet", "rows", "Ljava/util/ArrayList;", true)
  | 2 => ("TallowModel$Sheet", "usual", "I", true)
  | 3 => ("TallowModel$Sheet", "columns", "I", true)
  | 4 => ("TallowModel$Sheet", "mark", "I", true)
  | 5 => ("TallowModel$Sheet", "hasHeading", "Z", true)
  | 6 => ("TallowModel$Sheet", "kinds", "[I", true)
  | 7 => ("TallowModel$Sheet", "faults", "Ljava/util/ArrayList;", true)
  | 8 => ("TallowModel$Sheet", "kept", "Ljava/util/ArrayList;", true)
  | _ => ("TallowModel$Sheet", "this$0", "LTallowModel;", true)
def tyX11 : Nat → FieldType := fun k => match k with
  | 0 => .int
  | 1 => .object "java/util/ArrayList"
  | 2 => .int
  | 3 => .int
  | 4 => .int
  | 5 => .boolean
  | 6 => .array .int
  | 7 => .object "java/util/ArrayList"
  | 8 => .object "java/util/ArrayList"
  | _ => .object "TallowModel"
theorem nmX11 : ∀ a, a < 10 → ∀ b, b < 10 → a ≠ b → (TX11 a).2.1 ≠ (TX11 b).2.1 := by decide +kernel
theorem tyX11_ok : ∀ k, k < 10 → parseFieldDescriptor (TX11 k).2.2.1 = some (tyX11 k) := by decide +kernel
def TX12 : u_T := fun k => match k with
  | 0 => ("TallowModel", "thrown", "I", false)
  | 1 => ("TallowModel", "text", "Ljava/util/ArrayList;", true)
  | 2 => ("TallowModel", "told", "[I", true)
  | 3 => ("TallowModel", "rules", "[I", true)
  | _ => ("TallowModel", "share", "I", false)
def tyX12 : Nat → FieldType := fun k => match k with
  | 0 => .int
  | 1 => .object "java/util/ArrayList"
  | 2 => .array .int
  | 3 => .array .int
  | _ => .int
theorem nmX12 : ∀ a, a < 5 → ∀ b, b < 5 → a ≠ b → (TX12 a).2.1 ≠ (TX12 b).2.1 := by decide +kernel
theorem tyX12_ok : ∀ k, k < 5 → parseFieldDescriptor (TX12 k).2.2.1 = some (tyX12 k) := by decide +kernel
abbrev mCl : List vw_C := [(RJ6, TJ6, 1), (RJx4a65c, TJx4a65c, 3), (RX0, TX0, 4), (RX2, TX2, 1), (RX3, TX3, 14), (RX4, TX4, 13), (RX5, TX5, 2), (RX6, TX6, 3), (RX7, TX7, 7), (RX8, TX8, 3), (RX9, TX9, 3), (RX10, TX10, 2), (RX11, TX11, 10), (RX12, TX12, 5)]
abbrev mFT : List (Nat → FieldType) := [tyJ6, tyJx4a65c, tyX0, tyX2, tyX3, tyX4, tyX5, tyX6, tyX7, tyX8, tyX9, tyX10, tyX11, tyX12]
-- names: methods
abbrev cX0_init : ByteArray := prog_2_method_1_code
def yX0_init : MethodName := ⟨RX0, "<init>", "()V"⟩
abbrev cX0_add : ByteArray := prog_2_method_2_code
def yX0_add : MethodName := ⟨RX0, "add", "(III)V"⟩
abbrev cX0_fact : ByteArray := prog_2_method_3_code
def yX0_fact : MethodName := ⟨RX0, "fact", "(II)I"⟩
abbrev cX0_inColumn : ByteArray := prog_2_method_4_code
def yX0_inColumn : MethodName := ⟨RX0, "inColumn", "(I)I"⟩
abbrev cX1_isWhole : ByteArray := prog_3_method_2_code
def yX1_isWhole : MethodName := ⟨RX1, "isWhole", "(LTallow$Numbers;II)Z"⟩
abbrev cX1_isDecimal : ByteArray := prog_3_method_3_code
def yX1_isDecimal : MethodName := ⟨RX1, "isDecimal", "(LTallow$Numbers;III)Z"⟩
abbrev cX1_isFlag : ByteArray := prog_3_method_4_code
def yX1_isFlag : MethodName := ⟨RX1, "isFlag", "(LTallow$Numbers;II)Z"⟩
abbrev cX1_wholeNumber : ByteArray := prog_3_method_5_code
def yX1_wholeNumber : MethodName := ⟨RX1, "wholeNumber", "(LTallow$Numbers;II)I"⟩
abbrev cX1_thousandths : ByteArray := prog_3_method_6_code
def yX1_thousandths : MethodName := ⟨RX1, "thousandths", "(LTallow$Numbers;II)I"⟩
abbrev cX1_dayNumber : ByteArray := prog_3_method_7_code
def yX1_dayNumber : MethodName := ⟨RX1, "dayNumber", "(LTallow$Numbers;II)I"⟩
abbrev cX1_isOneOrTwo : ByteArray := prog_3_method_8_code
def yX1_isOneOrTwo : MethodName := ⟨RX1, "isOneOrTwo", "(I)Z"⟩
abbrev cX1_behindMinus : ByteArray := prog_3_method_9_code
def yX1_behindMinus : MethodName := ⟨RX1, "behindMinus", "(LTallow$Numbers;II)I"⟩
abbrev cX1_digitsFrom : ByteArray := prog_3_method_10_code
def yX1_digitsFrom : MethodName := ⟨RX1, "digitsFrom", "(LTallow$Numbers;II)I"⟩
abbrev cX1_number : ByteArray := prog_3_method_11_code
def yX1_number : MethodName := ⟨RX1, "number", "(LTallow$Numbers;II)I"⟩
abbrev cX1_daysIn : ByteArray := prog_3_method_12_code
def yX1_daysIn : MethodName := ⟨RX1, "daysIn", "(II)I"⟩
abbrev cX1_daysAheadOfMonth : ByteArray := prog_3_method_13_code
def yX1_daysAheadOfMonth : MethodName := ⟨RX1, "daysAheadOfMonth", "(II)I"⟩
abbrev cX1_daysAheadOfYear : ByteArray := prog_3_method_14_code
def yX1_daysAheadOfYear : MethodName := ⟨RX1, "daysAheadOfYear", "(I)I"⟩
abbrev cX1_leapYearsTo : ByteArray := prog_3_method_15_code
def yX1_leapYearsTo : MethodName := ⟨RX1, "leapYearsTo", "(I)I"⟩
abbrev cX1_isLeap : ByteArray := prog_3_method_16_code
def yX1_isLeap : MethodName := ⟨RX1, "isLeap", "(I)Z"⟩
abbrev cX2_init : ByteArray := prog_4_method_1_code
def yX2_init : MethodName := ⟨RX2, "<init>", "(I)V"⟩
abbrev cX2_at : ByteArray := prog_4_method_2_code
def yX2_at : MethodName := ⟨RX2, "at", "(I)I"⟩
abbrev cX2_put : ByteArray := prog_4_method_3_code
def yX2_put : MethodName := ⟨RX2, "put", "(II)V"⟩
abbrev cX3_init : ByteArray := prog_5_method_1_code
def yX3_init : MethodName := ⟨RX3, "<init>", "()V"⟩
abbrev cX3_read : ByteArray := prog_5_method_2_code
def yX3_read : MethodName := ⟨RX3, "read", "(LTallow$Text;I)V"⟩
abbrev cX3_isMoreToRead : ByteArray := prog_5_method_3_code
def yX3_isMoreToRead : MethodName := ⟨RX3, "isMoreToRead", "(LTallow$Text;I)Z"⟩
abbrev cX3_readPlain : ByteArray := prog_5_method_4_code
def yX3_readPlain : MethodName := ⟨RX3, "readPlain", "(LTallow$Text;II)I"⟩
abbrev cX3_readQuoted : ByteArray := prog_5_method_5_code
def yX3_readQuoted : MethodName := ⟨RX3, "readQuoted", "(LTallow$Text;II)I"⟩
abbrev cX3_endOfCell : ByteArray := prog_5_method_6_code
def yX3_endOfCell : MethodName := ⟨RX3, "endOfCell", "(LTallow$Text;II)I"⟩
abbrev cX3_takeSigns : ByteArray := prog_5_method_7_code
def yX3_takeSigns : MethodName := ⟨RX3, "takeSigns", "(LTallow$Text;II)V"⟩
abbrev cX3_closeCell : ByteArray := prog_5_method_8_code
def yX3_closeCell : MethodName := ⟨RX3, "closeCell", "(IZ)V"⟩
abbrev cX3_closeRow : ByteArray := prog_5_method_9_code
def yX3_closeRow : MethodName := ⟨RX3, "closeRow", "()V"⟩
abbrev cX3_findUsualWidth : ByteArray := prog_5_method_10_code
def yX3_findUsualWidth : MethodName := ⟨RX3, "findUsualWidth", "()V"⟩
abbrev cX3_rowsOfWidth : ByteArray := prog_5_method_11_code
def yX3_rowsOfWidth : MethodName := ⟨RX3, "rowsOfWidth", "(I)I"⟩
abbrev cX3_columnCount : ByteArray := prog_5_method_12_code
def yX3_columnCount : MethodName := ⟨RX3, "columnCount", "()I"⟩
abbrev cX3_points : ByteArray := prog_5_method_13_code
def yX3_points : MethodName := ⟨RX3, "points", "()I"⟩
abbrev cX3_cellsIn : ByteArray := prog_5_method_14_code
def yX3_cellsIn : MethodName := ⟨RX3, "cellsIn", "(I)I"⟩
abbrev cX3_cellAt : ByteArray := prog_5_method_15_code
def yX3_cellAt : MethodName := ⟨RX3, "cellAt", "(II)I"⟩
abbrev cX3_haveSameSigns : ByteArray := prog_5_method_16_code
def yX3_haveSameSigns : MethodName := ⟨RX3, "haveSameSigns", "(II)Z"⟩
abbrev cX3_quotedCells : ByteArray := prog_5_method_17_code
def yX3_quotedCells : MethodName := ⟨RX3, "quotedCells", "()I"⟩
abbrev cX4_init : ByteArray := prog_6_method_1_code
def yX4_init : MethodName := ⟨RX4, "<init>", "(I)V"⟩
abbrev cX4_settle : ByteArray := prog_6_method_2_code
def yX4_settle : MethodName := ⟨RX4, "settle", "(LTallow$Told;)V"⟩
abbrev cX4_guessedMark : ByteArray := prog_6_method_3_code
def yX4_guessedMark : MethodName := ⟨RX4, "guessedMark", "()I"⟩
abbrev cX4_nameCell : ByteArray := prog_6_method_4_code
def yX4_nameCell : MethodName := ⟨RX4, "nameCell", "(I)V"⟩
abbrev cX4_guessedHeading : ByteArray := prog_6_method_5_code
def yX4_guessedHeading : MethodName := ⟨RX4, "guessedHeading", "(I)I"⟩
abbrev cX4_tallyKinds : ByteArray := prog_6_method_6_code
def yX4_tallyKinds : MethodName := ⟨RX4, "tallyKinds", "(II)V"⟩
abbrev cX4_talliedFilled : ByteArray := prog_6_method_7_code
def yX4_talliedFilled : MethodName := ⟨RX4, "talliedFilled", "()I"⟩
abbrev cX4_talliedKind : ByteArray := prog_6_method_8_code
def yX4_talliedKind : MethodName := ⟨RX4, "talliedKind", "(I)I"⟩
abbrev cX4_markRepeats : ByteArray := prog_6_method_9_code
def yX4_markRepeats : MethodName := ⟨RX4, "markRepeats", "(I)V"⟩
abbrev cX4_isAhead : ByteArray := prog_6_method_10_code
def yX4_isAhead : MethodName := ⟨RX4, "isAhead", "(III)Z"⟩
abbrev cX4_findFaults : ByteArray := prog_6_method_11_code
def yX4_findFaults : MethodName := ⟨RX4, "findFaults", "(LTallow$Told;I)V"⟩
abbrev cX4_faultOfCell : ByteArray := prog_6_method_12_code
def yX4_faultOfCell : MethodName := ⟨RX4, "faultOfCell", "(LTallow$Told;II)I"⟩
abbrev cX4_isOfKind : ByteArray := prog_6_method_13_code
def yX4_isOfKind : MethodName := ⟨RX4, "isOfKind", "(II)Z"⟩
abbrev cX4_keepOnce : ByteArray := prog_6_method_14_code
def yX4_keepOnce : MethodName := ⟨RX4, "keepOnce", "(I)V"⟩
abbrev cX4_isSameRow : ByteArray := prog_6_method_15_code
def yX4_isSameRow : MethodName := ⟨RX4, "isSameRow", "(II)Z"⟩
abbrev cX4_hasColumn : ByteArray := prog_6_method_16_code
def yX4_hasColumn : MethodName := ⟨RX4, "hasColumn", "(I)Z"⟩
abbrev cX4_hasKept : ByteArray := prog_6_method_17_code
def yX4_hasKept : MethodName := ⟨RX4, "hasKept", "(I)Z"⟩
abbrev cX4_choice : ByteArray := prog_6_method_18_code
def yX4_choice : MethodName := ⟨RX4, "choice", "(I)I"⟩
abbrev cX4_howMany : ByteArray := prog_6_method_19_code
def yX4_howMany : MethodName := ⟨RX4, "howMany", "(I)I"⟩
abbrev cX4_factOfCell : ByteArray := prog_6_method_20_code
def yX4_factOfCell : MethodName := ⟨RX4, "factOfCell", "(II)I"⟩
abbrev cX4_factOfColumn : ByteArray := prog_6_method_21_code
def yX4_factOfColumn : MethodName := ⟨RX4, "factOfColumn", "(II)I"⟩
abbrev cX4_repeatsIn : ByteArray := prog_6_method_22_code
def yX4_repeatsIn : MethodName := ⟨RX4, "repeatsIn", "(I)I"⟩
abbrev cX4_cellOfKept : ByteArray := prog_6_method_23_code
def yX4_cellOfKept : MethodName := ⟨RX4, "cellOfKept", "(II)I"⟩
abbrev cX4_valueIn : ByteArray := prog_6_method_24_code
def yX4_valueIn : MethodName := ⟨RX4, "valueIn", "(II)I"⟩
abbrev cX4_isFilledIn : ByteArray := prog_6_method_25_code
def yX4_isFilledIn : MethodName := ⟨RX4, "isFilledIn", "(II)Z"⟩
abbrev cX4_extremeOf : ByteArray := prog_6_method_26_code
def yX4_extremeOf : MethodName := ⟨RX4, "extremeOf", "(IZ)I"⟩
abbrev cX4_total : ByteArray := prog_6_method_27_code
def yX4_total : MethodName := ⟨RX4, "total", "(I)J"⟩
abbrev cX4_filledInKept : ByteArray := prog_6_method_28_code
def yX4_filledInKept : MethodName := ⟨RX4, "filledInKept", "(I)I"⟩
abbrev cX4_placeOf : ByteArray := prog_6_method_29_code
def yX4_placeOf : MethodName := ⟨RX4, "placeOf", "(II)I"⟩
abbrev cX5_init : ByteArray := prog_7_method_1_code
def yX5_init : MethodName := ⟨RX5, "<init>", "()V"⟩
abbrev cX5_hasRoomFor : ByteArray := prog_7_method_2_code
def yX5_hasRoomFor : MethodName := ⟨RX5, "hasRoomFor", "(I)Z"⟩
abbrev cX5_write : ByteArray := prog_7_method_3_code
def yX5_write : MethodName := ⟨RX5, "write", "(I)V"⟩
abbrev cX5_writeNumber : ByteArray := prog_7_method_4_code
def yX5_writeNumber : MethodName := ⟨RX5, "writeNumber", "(I)V"⟩
abbrev cX5_digitsOf : ByteArray := prog_7_method_5_code
def yX5_digitsOf : MethodName := ⟨RX5, "digitsOf", "(I)I"⟩
abbrev cX6_init : ByteArray := prog_8_method_1_code
def yX6_init : MethodName := ⟨RX6, "<init>", "()V"⟩
abbrev cX6_mustBeFilled : ByteArray := prog_8_method_2_code
def yX6_mustBeFilled : MethodName := ⟨RX6, "mustBeFilled", "(I)Z"⟩
abbrev cX6_mustDiffer : ByteArray := prog_8_method_3_code
def yX6_mustDiffer : MethodName := ⟨RX6, "mustDiffer", "(I)Z"⟩
abbrev cX7_init : ByteArray := prog_1_method_1_code
def yX7_init : MethodName := ⟨RX7, "<init>", "()V"⟩
abbrev cX7_sign : ByteArray := prog_1_method_2_code
def yX7_sign : MethodName := ⟨RX7, "sign", "(I)I"⟩
abbrev cX7_digits : ByteArray := prog_1_method_3_code
def yX7_digits : MethodName := ⟨RX7, "digits", "(I)I"⟩
abbrev cX7_letters : ByteArray := prog_1_method_4_code
def yX7_letters : MethodName := ⟨RX7, "letters", "(II)I"⟩
abbrev cX7_three : ByteArray := prog_1_method_5_code
def yX7_three : MethodName := ⟨RX7, "three", "(IIII)I"⟩
abbrev cX7_clear : ByteArray := prog_1_method_6_code
def yX7_clear : MethodName := ⟨RX7, "clear", "()I"⟩
abbrev cX7_tell : ByteArray := prog_1_method_7_code
def yX7_tell : MethodName := ⟨RX7, "tell", "(II)I"⟩
abbrev cX7_setShare : ByteArray := prog_1_method_8_code
def yX7_setShare : MethodName := ⟨RX7, "setShare", "(I)I"⟩
abbrev cX7_setRule : ByteArray := prog_1_method_9_code
def yX7_setRule : MethodName := ⟨RX7, "setRule", "(II)I"⟩
abbrev cX7_used : ByteArray := prog_1_method_10_code
def yX7_used : MethodName := ⟨RX7, "used", "(I)I"⟩
abbrev cX7_score : ByteArray := prog_1_method_11_code
def yX7_score : MethodName := ⟨RX7, "score", "(I)I"⟩
abbrev cX7_many : ByteArray := prog_1_method_12_code
def yX7_many : MethodName := ⟨RX7, "many", "(I)I"⟩
abbrev cX7_width : ByteArray := prog_1_method_13_code
def yX7_width : MethodName := ⟨RX7, "width", "(I)I"⟩
abbrev cX7_cell : ByteArray := prog_1_method_14_code
def yX7_cell : MethodName := ⟨RX7, "cell", "(III)I"⟩
abbrev cX7_signAt : ByteArray := prog_1_method_15_code
def yX7_signAt : MethodName := ⟨RX7, "signAt", "(III)I"⟩
abbrev cX7_column : ByteArray := prog_1_method_16_code
def yX7_column : MethodName := ⟨RX7, "column", "(II)I"⟩
abbrev cX7_extreme : ByteArray := prog_1_method_17_code
def yX7_extreme : MethodName := ⟨RX7, "extreme", "(II)I"⟩
abbrev cX7_sum : ByteArray := prog_1_method_18_code
def yX7_sum : MethodName := ⟨RX7, "sum", "(I)J"⟩
abbrev cX7_mean : ByteArray := prog_1_method_19_code
def yX7_mean : MethodName := ⟨RX7, "mean", "(I)D"⟩
abbrev cX7_fault : ByteArray := prog_1_method_20_code
def yX7_fault : MethodName := ⟨RX7, "fault", "(II)I"⟩
abbrev cX7_kept : ByteArray := prog_1_method_21_code
def yX7_kept : MethodName := ⟨RX7, "kept", "(I)I"⟩
abbrev cX7_value : ByteArray := prog_1_method_22_code
def yX7_value : MethodName := ⟨RX7, "value", "(II)I"⟩
abbrev cX7_find : ByteArray := prog_1_method_23_code
def yX7_find : MethodName := ⟨RX7, "find", "(II)I"⟩
abbrev cX7_keptWith : ByteArray := prog_1_method_24_code
def yX7_keptWith : MethodName := ⟨RX7, "keptWith", "(I)I"⟩
abbrev cX7_kindWith : ByteArray := prog_1_method_25_code
def yX7_kindWith : MethodName := ⟨RX7, "kindWith", "(II)I"⟩
abbrev cX7_digest : ByteArray := prog_1_method_26_code
def yX7_digest : MethodName := ⟨RX7, "digest", "()J"⟩
abbrev cX7_withRows : ByteArray := prog_1_method_27_code
def yX7_withRows : MethodName := ⟨RX7, "withRows", "(JLTallow$Table;)J"⟩
abbrev cX7_withColumns : ByteArray := prog_1_method_28_code
def yX7_withColumns : MethodName := ⟨RX7, "withColumns", "(JLTallow$Table;)J"⟩
abbrev cX7_withFaultsAndKept : ByteArray := prog_1_method_29_code
def yX7_withFaultsAndKept : MethodName := ⟨RX7, "withFaultsAndKept", "(JLTallow$Table;)J"⟩
abbrev cX7_mixed : ByteArray := prog_1_method_30_code
def yX7_mixed : MethodName := ⟨RX7, "mixed", "(JJ)J"⟩
abbrev cX7_isSign : ByteArray := prog_1_method_31_code
def yX7_isSign : MethodName := ⟨RX7, "isSign", "(I)Z"⟩
abbrev cX7_isParter : ByteArray := prog_1_method_32_code
def yX7_isParter : MethodName := ⟨RX7, "isParter", "(I)Z"⟩
abbrev cX7_isShare : ByteArray := prog_1_method_33_code
def yX7_isShare : MethodName := ⟨RX7, "isShare", "(I)Z"⟩
abbrev cX7_tableNow : ByteArray := prog_1_method_34_code
def yX7_tableNow : MethodName := ⟨RX7, "tableNow", "()LTallow$Table;"⟩
abbrev cX7_settledWith : ByteArray := prog_1_method_35_code
def yX7_settledWith : MethodName := ⟨RX7, "settledWith", "(I)LTallow$Table;"⟩
abbrev cX7_tableWith : ByteArray := prog_1_method_36_code
def yX7_tableWith : MethodName := ⟨RX7, "tableWith", "(I)LTallow$Table;"⟩
abbrev cX7_readText : ByteArray := prog_1_method_37_code
def yX7_readText : MethodName := ⟨RX7, "readText", "()V"⟩
abbrev cX7_unsettleAll : ByteArray := prog_1_method_38_code
def yX7_unsettleAll : MethodName := ⟨RX7, "unsettleAll", "()V"⟩
abbrev cX7_guessedParter : ByteArray := prog_1_method_39_code
def yX7_guessedParter : MethodName := ⟨RX7, "guessedParter", "()I"⟩
abbrev cX8_init : ByteArray := prog_11_method_1_code
def yX8_init : MethodName := ⟨RX8, "<init>", "([IZI)V"⟩
abbrev cX8_isSame : ByteArray := prog_11_method_2_code
def yX8_isSame : MethodName := ⟨RX8, "isSame", "(LTallowModel$Cell;)Z"⟩
abbrev cX8_isDigit : ByteArray := prog_11_method_3_code
def yX8_isDigit : MethodName := ⟨RX8, "isDigit", "(I)Z"⟩
abbrev cX8_digits : ByteArray := prog_11_method_4_code
def yX8_digits : MethodName := ⟨RX8, "digits", "(I)I"⟩
abbrev cX8_number : ByteArray := prog_11_method_5_code
def yX8_number : MethodName := ⟨RX8, "number", "(II)I"⟩
abbrev cX8_begin : ByteArray := prog_11_method_6_code
def yX8_begin : MethodName := ⟨RX8, "begin", "()I"⟩
abbrev cX8_isAt : ByteArray := prog_11_method_7_code
def yX8_isAt : MethodName := ⟨RX8, "isAt", "(II)Z"⟩
abbrev cX8_decimals : ByteArray := prog_11_method_8_code
def yX8_decimals : MethodName := ⟨RX8, "decimals", "(I)I"⟩
abbrev cX8_isLeap : ByteArray := prog_11_method_9_code
def yX8_isLeap : MethodName := ⟨RX8, "isLeap", "(I)Z"⟩
abbrev cX8_daysOf : ByteArray := prog_11_method_10_code
def yX8_daysOf : MethodName := ⟨RX8, "daysOf", "(II)I"⟩
abbrev cX8_date : ByteArray := prog_11_method_11_code
def yX8_date : MethodName := ⟨RX8, "date", "()[I"⟩
abbrev cX8_kind : ByteArray := prog_11_method_12_code
def yX8_kind : MethodName := ⟨RX8, "kind", "(I)I"⟩
abbrev cX8_value : ByteArray := prog_11_method_13_code
def yX8_value : MethodName := ⟨RX8, "value", "(I)I"⟩
abbrev cX8_days : ByteArray := prog_11_method_14_code
def yX8_days : MethodName := ⟨RX8, "days", "([I)I"⟩
abbrev cX8_isOf : ByteArray := prog_11_method_15_code
def yX8_isOf : MethodName := ⟨RX8, "isOf", "(II)Z"⟩
abbrev cX8_valueAs : ByteArray := prog_11_method_16_code
def yX8_valueAs : MethodName := ⟨RX8, "valueAs", "(II)I"⟩
abbrev cX9_init : ByteArray := prog_12_method_1_code
def yX9_init : MethodName := ⟨RX9, "<init>", "(LTallowModel;I)V"⟩
abbrev cX9_isOver : ByteArray := prog_12_method_2_code
def yX9_isOver : MethodName := ⟨RX9, "isOver", "()Z"⟩
abbrev cX9_isEnd : ByteArray := prog_12_method_3_code
def yX9_isEnd : MethodName := ⟨RX9, "isEnd", "()Z"⟩
abbrev cX9_signs : ByteArray := prog_12_method_4_code
def yX9_signs : MethodName := ⟨RX9, "signs", "(Ljava/util/ArrayList;)[I"⟩
abbrev cX9_cell : ByteArray := prog_12_method_5_code
def yX9_cell : MethodName := ⟨RX9, "cell", "()LTallowModel$Cell;"⟩
abbrev cX9_quoted : ByteArray := prog_12_method_6_code
def yX9_quoted : MethodName := ⟨RX9, "quoted", "(Ljava/util/ArrayList;)LTallowModel$Cell;"⟩
abbrev cX9_rows : ByteArray := prog_12_method_7_code
def yX9_rows : MethodName := ⟨RX9, "rows", "()Ljava/util/ArrayList;"⟩
abbrev cX10_init : ByteArray := prog_13_method_1_code
def yX10_init : MethodName := ⟨RX10, "<init>", "()V"⟩
abbrev cX10_add : ByteArray := prog_13_method_2_code
def yX10_add : MethodName := ⟨RX10, "add", "(LTallowModel$Cell;)V"⟩
abbrev cX10_isNone : ByteArray := prog_13_method_3_code
def yX10_isNone : MethodName := ⟨RX10, "isNone", "()Z"⟩
abbrev cX10_isSame : ByteArray := prog_13_method_4_code
def yX10_isSame : MethodName := ⟨RX10, "isSame", "(LTallowModel$Row;)Z"⟩
abbrev cX11_init : ByteArray := prog_14_method_1_code
def yX11_init : MethodName := ⟨RX11, "<init>", "(LTallowModel;I)V"⟩
abbrev cX11_first : ByteArray := prog_14_method_2_code
def yX11_first : MethodName := ⟨RX11, "first", "()I"⟩
abbrev cX11_decimals : ByteArray := prog_14_method_3_code
def yX11_decimals : MethodName := ⟨RX11, "decimals", "(I)I"⟩
abbrev cX11_cells : ByteArray := prog_14_method_4_code
def yX11_cells : MethodName := ⟨RX11, "cells", "(II)Ljava/util/ArrayList;"⟩
abbrev cX11_together : ByteArray := prog_14_method_5_code
def yX11_together : MethodName := ⟨RX11, "together", "(Ljava/util/ArrayList;I)I"⟩
abbrev cX11_seemsHeading : ByteArray := prog_14_method_6_code
def yX11_seemsHeading : MethodName := ⟨RX11, "seemsHeading", "()Z"⟩
abbrev cX11_faultOf : ByteArray := prog_14_method_7_code
def yX11_faultOf : MethodName := ⟨RX11, "faultOf", "(II)I"⟩
abbrev cX11_look : ByteArray := prog_14_method_8_code
def yX11_look : MethodName := ⟨RX11, "look", "(I)V"⟩
abbrev cX11_keptCell : ByteArray := prog_14_method_9_code
def yX11_keptCell : MethodName := ⟨RX11, "keptCell", "(II)LTallowModel$Cell;"⟩
abbrev cX11_valueOf : ByteArray := prog_14_method_10_code
def yX11_valueOf : MethodName := ⟨RX11, "valueOf", "(II)I"⟩
abbrev cX11_full : ByteArray := prog_14_method_11_code
def yX11_full : MethodName := ⟨RX11, "full", "(I)I"⟩
abbrev cX11_sum : ByteArray := prog_14_method_12_code
def yX11_sum : MethodName := ⟨RX11, "sum", "(I)J"⟩
abbrev cX11_extreme : ByteArray := prog_14_method_13_code
def yX11_extreme : MethodName := ⟨RX11, "extreme", "(II)I"⟩
abbrev cX11_column : ByteArray := prog_14_method_14_code
def yX11_column : MethodName := ⟨RX11, "column", "(II)I"⟩
abbrev cX11_quoted : ByteArray := prog_14_method_15_code
def yX11_quoted : MethodName := ⟨RX11, "quoted", "()I"⟩
abbrev cX12_init : ByteArray := prog_10_method_1_code
def yX12_init : MethodName := ⟨RX12, "<init>", "()V"⟩
abbrev cX12_thrown : ByteArray := prog_10_method_2_code
def yX12_thrown : MethodName := ⟨RX12, "thrown", "()I"⟩
abbrev cX12_isIn : ByteArray := prog_10_method_3_code
def yX12_isIn : MethodName := ⟨RX12, "isIn", "(III)Z"⟩
abbrev cX12_refuse : ByteArray := prog_10_method_4_code
def yX12_refuse : MethodName := ⟨RX12, "refuse", "(ZI)Z"⟩
abbrev cX12_start : ByteArray := prog_10_method_5_code
def yX12_start : MethodName := ⟨RX12, "start", "(ZI)Z"⟩
abbrev cX12_usual : ByteArray := prog_10_method_6_code
def yX12_usual : MethodName := ⟨RX12, "usual", "(Ljava/util/ArrayList;)I"⟩
abbrev cX12_withWidth : ByteArray := prog_10_method_7_code
def yX12_withWidth : MethodName := ⟨RX12, "withWidth", "(Ljava/util/ArrayList;I)I"⟩
abbrev cX12_scoreOf : ByteArray := prog_10_method_8_code
def yX12_scoreOf : MethodName := ⟨RX12, "scoreOf", "(I)I"⟩
abbrev cX12_parter : ByteArray := prog_10_method_9_code
def yX12_parter : MethodName := ⟨RX12, "parter", "()I"⟩
abbrev cX12_sheet : ByteArray := prog_10_method_10_code
def yX12_sheet : MethodName := ⟨RX12, "sheet", "()LTallowModel$Sheet;"⟩
abbrev cX12_add : ByteArray := prog_10_method_11_code
def yX12_add : MethodName := ⟨RX12, "add", "(Ljava/util/ArrayList;)I"⟩
abbrev cX12_isNoSign : ByteArray := prog_10_method_12_code
def yX12_isNoSign : MethodName := ⟨RX12, "isNoSign", "(I)Z"⟩
abbrev cX12_digits : ByteArray := prog_10_method_13_code
def yX12_digits : MethodName := ⟨RX12, "digits", "(Ljava/util/ArrayList;I)V"⟩
abbrev cX12_sign : ByteArray := prog_10_method_14_code
def yX12_sign : MethodName := ⟨RX12, "sign", "(I)I"⟩
abbrev cX12_digits_ : ByteArray := prog_10_method_15_code
def yX12_digits_ : MethodName := ⟨RX12, "digits", "(I)I"⟩
abbrev cX12_letters : ByteArray := prog_10_method_16_code
def yX12_letters : MethodName := ⟨RX12, "letters", "(II)I"⟩
abbrev cX12_three : ByteArray := prog_10_method_17_code
def yX12_three : MethodName := ⟨RX12, "three", "(IIII)I"⟩
abbrev cX12_clear : ByteArray := prog_10_method_18_code
def yX12_clear : MethodName := ⟨RX12, "clear", "()I"⟩
abbrev cX12_tell : ByteArray := prog_10_method_19_code
def yX12_tell : MethodName := ⟨RX12, "tell", "(II)I"⟩
abbrev cX12_setShare : ByteArray := prog_10_method_20_code
def yX12_setShare : MethodName := ⟨RX12, "setShare", "(I)I"⟩
abbrev cX12_setRule : ByteArray := prog_10_method_21_code
def yX12_setRule : MethodName := ⟨RX12, "setRule", "(II)I"⟩
abbrev cX12_usedBy : ByteArray := prog_10_method_22_code
def yX12_usedBy : MethodName := ⟨RX12, "usedBy", "(LTallowModel$Sheet;I)I"⟩
abbrev cX12_used : ByteArray := prog_10_method_23_code
def yX12_used : MethodName := ⟨RX12, "used", "(I)I"⟩
abbrev cX12_score : ByteArray := prog_10_method_24_code
def yX12_score : MethodName := ⟨RX12, "score", "(I)I"⟩
abbrev cX12_count : ByteArray := prog_10_method_25_code
def yX12_count : MethodName := ⟨RX12, "count", "(LTallowModel$Sheet;I)I"⟩
abbrev cX12_many : ByteArray := prog_10_method_26_code
def yX12_many : MethodName := ⟨RX12, "many", "(I)I"⟩
abbrev cX12_width : ByteArray := prog_10_method_27_code
def yX12_width : MethodName := ⟨RX12, "width", "(I)I"⟩
abbrev cX12_told : ByteArray := prog_10_method_28_code
def yX12_told : MethodName := ⟨RX12, "told", "(LTallowModel$Cell;II)I"⟩
abbrev cX12_isNoCell : ByteArray := prog_10_method_29_code
def yX12_isNoCell : MethodName := ⟨RX12, "isNoCell", "(LTallowModel$Sheet;II)Z"⟩
abbrev cX12_cell : ByteArray := prog_10_method_30_code
def yX12_cell : MethodName := ⟨RX12, "cell", "(III)I"⟩
abbrev cX12_signAt : ByteArray := prog_10_method_31_code
def yX12_signAt : MethodName := ⟨RX12, "signAt", "(III)I"⟩
abbrev cX12_isNoColumn : ByteArray := prog_10_method_32_code
def yX12_isNoColumn : MethodName := ⟨RX12, "isNoColumn", "(LTallowModel$Sheet;I)Z"⟩
abbrev cX12_column : ByteArray := prog_10_method_33_code
def yX12_column : MethodName := ⟨RX12, "column", "(II)I"⟩
abbrev cX12_extreme : ByteArray := prog_10_method_34_code
def yX12_extreme : MethodName := ⟨RX12, "extreme", "(II)I"⟩
abbrev cX12_sum : ByteArray := prog_10_method_35_code
def yX12_sum : MethodName := ⟨RX12, "sum", "(I)J"⟩
abbrev cX12_mean : ByteArray := prog_10_method_36_code
def yX12_mean : MethodName := ⟨RX12, "mean", "(I)D"⟩
abbrev cX12_fault : ByteArray := prog_10_method_37_code
def yX12_fault : MethodName := ⟨RX12, "fault", "(II)I"⟩
abbrev cX12_kept : ByteArray := prog_10_method_38_code
def yX12_kept : MethodName := ⟨RX12, "kept", "(I)I"⟩
abbrev cX12_value : ByteArray := prog_10_method_39_code
def yX12_value : MethodName := ⟨RX12, "value", "(II)I"⟩
abbrev cX12_find : ByteArray := prog_10_method_40_code
def yX12_find : MethodName := ⟨RX12, "find", "(II)I"⟩
abbrev cX12_keptWith : ByteArray := prog_10_method_41_code
def yX12_keptWith : MethodName := ⟨RX12, "keptWith", "(I)I"⟩
abbrev cX12_kindWith : ByteArray := prog_10_method_42_code
def yX12_kindWith : MethodName := ⟨RX12, "kindWith", "(II)I"⟩
abbrev cX12_add_ : ByteArray := prog_10_method_43_code
def yX12_add_ : MethodName := ⟨RX12, "add", "(JJ)J"⟩
abbrev cX12_digest : ByteArray := prog_10_method_44_code
def yX12_digest : MethodName := ⟨RX12, "digest", "()J"⟩
abbrev cJ6_valueOf_2dffe : ByteArray := prog_22_method_22_code
def yJ6_valueOf_2dffe : MethodName := ⟨RJ6, "valueOf", "(I)Ljava/lang/Integer;"⟩
abbrev cJ6_init_d00df : ByteArray := prog_22_method_23_code
def yJ6_init_d00df : MethodName := ⟨RJ6, "<init>", "(I)V"⟩
abbrev cJ6_intValue_8abf5 : ByteArray := prog_22_method_27_code
def yJ6_intValue_8abf5 : MethodName := ⟨RJ6, "intValue", "()I"⟩
abbrev cJ9_max_7cf53 : ByteArray := prog_25_method_65_code
def yJ9_max_7cf53 : MethodName := ⟨RJ9, "max", "(II)I"⟩
abbrev cJ9_min_7cf53 : ByteArray := prog_25_method_69_code
def yJ9_min_7cf53 : MethodName := ⟨RJ9, "min", "(II)I"⟩
abbrev cJxd2413_init_da8c8 : ByteArray := prog_26_method_1_code
def yJxd2413_init_da8c8 : MethodName := ⟨RJxd2413, "<init>", "()V"⟩
abbrev cJxa1e45_init_da8c8 : ByteArray := prog_33_method_1_code
def yJxa1e45_init_da8c8 : MethodName := ⟨RJxa1e45, "<init>", "()V"⟩
abbrev cJxc12de_init_da8c8 : ByteArray := prog_34_method_1_code
def yJxc12de_init_da8c8 : MethodName := ⟨RJxc12de, "<init>", "()V"⟩
abbrev cJx4a65c_init_da8c8 : ByteArray := prog_35_method_2_code
def yJx4a65c_init_da8c8 : MethodName := ⟨RJx4a65c, "<init>", "()V"⟩
abbrev cJx4a65c_grow_92f84 : ByteArray := prog_35_method_6_code
def yJx4a65c_grow_92f84 : MethodName := ⟨RJx4a65c, "grow", "(I)[Ljava/lang/Object;"⟩
abbrev cJx4a65c_grow_d5877 : ByteArray := prog_35_method_7_code
def yJx4a65c_grow_d5877 : MethodName := ⟨RJx4a65c, "grow", "()[Ljava/lang/Object;"⟩
abbrev cJx4a65c_size_8abf5 : ByteArray := prog_35_method_8_code
def yJx4a65c_size_8abf5 : MethodName := ⟨RJx4a65c, "size", "()I"⟩
abbrev cJx4a65c_isEmpty_aae02 : ByteArray := prog_35_method_9_code
def yJx4a65c_isEmpty_aae02 : MethodName := ⟨RJx4a65c, "isEmpty", "()Z"⟩
abbrev cJx4a65c_toArray_d5877 : ByteArray := prog_35_method_16_code
def yJx4a65c_toArray_d5877 : MethodName := ⟨RJx4a65c, "toArray", "()[Ljava/lang/Object;"⟩
abbrev cJx4a65c_elementData_915e3 : ByteArray := prog_35_method_18_code
def yJx4a65c_elementData_915e3 : MethodName := ⟨RJx4a65c, "elementData", "(I)Ljava/lang/Object;"⟩
abbrev cJx4a65c_get_915e3 : ByteArray := prog_35_method_20_code
def yJx4a65c_get_915e3 : MethodName := ⟨RJx4a65c, "get", "(I)Ljava/lang/Object;"⟩
abbrev cJx4a65c_add_72be8 : ByteArray := prog_35_method_24_code
def yJx4a65c_add_72be8 : MethodName := ⟨RJx4a65c, "add", "(Ljava/lang/Object;[Ljava/lang/Object;I)V"⟩
abbrev cJx4a65c_add_9ea2d : ByteArray := prog_35_method_25_code
def yJx4a65c_add_9ea2d : MethodName := ⟨RJx4a65c, "add", "(Ljava/lang/Object;)Z"⟩
abbrev cJx4a65c_remove_915e3 : ByteArray := prog_35_method_29_code
def yJx4a65c_remove_915e3 : MethodName := ⟨RJx4a65c, "remove", "(I)Ljava/lang/Object;"⟩
abbrev cJx4a65c_fastRemove_b59b0 : ByteArray := prog_35_method_39_code
def yJx4a65c_fastRemove_b59b0 : MethodName := ⟨RJx4a65c, "fastRemove", "([Ljava/lang/Object;I)V"⟩
abbrev cJx4a65c_clear_da8c8 : ByteArray := prog_35_method_40_code
def yJx4a65c_clear_da8c8 : MethodName := ⟨RJx4a65c, "clear", "()V"⟩
abbrev cJx4a65c_addAll_f0b43 : ByteArray := prog_35_method_41_code
def yJx4a65c_addAll_f0b43 : MethodName := ⟨RJx4a65c, "addAll", "(Ljava/util/Collection;)Z"⟩
abbrev cJ7_copyOf_1904c : ByteArray := prog_36_method_119_code
def yJ7_copyOf_1904c : MethodName := ⟨RJ7, "copyOf", "([Ljava/lang/Object;I)[Ljava/lang/Object;"⟩
abbrev cJ7_copyOf_6403c : ByteArray := prog_36_method_120_code
def yJ7_copyOf_6403c : MethodName := ⟨RJ7, "copyOf", "([Ljava/lang/Object;ILjava/lang/Class;)[Ljava/lang/Object;"⟩
abbrev cJ15_checkIndex_7cf53 : ByteArray := prog_39_method_17_code
def yJ15_checkIndex_7cf53 : MethodName := ⟨RJ15, "checkIndex", "(II)I"⟩
abbrev cJ8_newLength_cabcc : ByteArray := prog_42_method_27_code
def yJ8_newLength_cabcc : MethodName := ⟨RJ8, "newLength", "(III)I"⟩
abbrev cJ8_hugeLength_7cf53 : ByteArray := prog_42_method_28_code
def yJ8_hugeLength_7cf53 : MethodName := ⟨RJ8, "hugeLength", "(II)I"⟩
abbrev cJ3_checkIndex_8e157 : ByteArray := prog_43_method_11_code
def yJ3_checkIndex_8e157 : MethodName := ⟨RJ3, "checkIndex", "(IILjava/util/function/BiFunction;)I"⟩
abbrev cL_sign : ByteArray := method_3_code
def yL_sign : MethodName := ⟨RL, "sign", "(LTallow;I[J)I"⟩
abbrev cL_digits : ByteArray := method_4_code
def yL_digits : MethodName := ⟨RL, "digits", "(LTallow;I[J)I"⟩
abbrev cL_letters : ByteArray := method_5_code
def yL_letters : MethodName := ⟨RL, "letters", "(LTallow;II[J)I"⟩
abbrev cL_three : ByteArray := method_6_code
def yL_three : MethodName := ⟨RL, "three", "(LTallow;IIII[J)I"⟩
abbrev cL_tell : ByteArray := method_7_code
def yL_tell : MethodName := ⟨RL, "tell", "(LTallow;II[J)I"⟩
abbrev cL_setShare : ByteArray := method_8_code
def yL_setShare : MethodName := ⟨RL, "setShare", "(LTallow;I[J)I"⟩
abbrev cL_setRule : ByteArray := method_9_code
def yL_setRule : MethodName := ⟨RL, "setRule", "(LTallow;II[J)I"⟩
abbrev cL_used : ByteArray := method_10_code
def yL_used : MethodName := ⟨RL, "used", "(LTallow;I[J)I"⟩
abbrev cL_score : ByteArray := method_11_code
def yL_score : MethodName := ⟨RL, "score", "(LTallow;I[J)I"⟩
abbrev cL_many : ByteArray := method_12_code
def yL_many : MethodName := ⟨RL, "many", "(LTallow;I[J)I"⟩
abbrev cL_width : ByteArray := method_13_code
def yL_width : MethodName := ⟨RL, "width", "(LTallow;I[J)I"⟩
abbrev cL_cell : ByteArray := method_14_code
def yL_cell : MethodName := ⟨RL, "cell", "(LTallow;III[J)I"⟩
abbrev cL_signAt : ByteArray := method_15_code
def yL_signAt : MethodName := ⟨RL, "signAt", "(LTallow;III[J)I"⟩
abbrev cL_column : ByteArray := method_16_code
def yL_column : MethodName := ⟨RL, "column", "(LTallow;II[J)I"⟩
abbrev cL_extreme : ByteArray := method_17_code
def yL_extreme : MethodName := ⟨RL, "extreme", "(LTallow;II[J)I"⟩
abbrev cL_sum : ByteArray := method_18_code
def yL_sum : MethodName := ⟨RL, "sum", "(LTallow;I[J)I"⟩
abbrev cL_mean : ByteArray := method_19_code
def yL_mean : MethodName := ⟨RL, "mean", "(LTallow;I[D)I"⟩
abbrev cL_fault : ByteArray := method_20_code
def yL_fault : MethodName := ⟨RL, "fault", "(LTallow;II[J)I"⟩
abbrev cL_kept : ByteArray := method_21_code
def yL_kept : MethodName := ⟨RL, "kept", "(LTallow;I[J)I"⟩
abbrev cL_value : ByteArray := method_22_code
def yL_value : MethodName := ⟨RL, "value", "(LTallow;II[J)I"⟩
abbrev cL_find : ByteArray := method_23_code
def yL_find : MethodName := ⟨RL, "find", "(LTallow;II[J)I"⟩
abbrev cL_keptWith : ByteArray := method_24_code
def yL_keptWith : MethodName := ⟨RL, "keptWith", "(LTallow;I[J)I"⟩
abbrev cL_kindWith : ByteArray := method_25_code
def yL_kindWith : MethodName := ⟨RL, "kindWith", "(LTallow;II[J)I"⟩
abbrev cL_law : ByteArray := code
def yL_law : MethodName := ⟨RL, "law", "([I)Z"⟩
def mC0 : List (Nat × Instr × Nat × Nat × Nat × Nat) := [(0, .aload_n 0, 0, 0, 0, 0), (1, .invokespecial 3, 0, 998, 0, 229), (4, .aload_n 0, 0, 0, 0, 0), (5, .new 9, 0, 3, 0, 230), (8, .dup, 0, 0, 0, 0), (9, .sipush 561, 0, 0, 0, 0), (12, .invokespecial 11, 0, 19, 1, 231), (15, .putfield 14, 0, 2, 0, 232), (18, .aload_n 0, 0, 0, 0, 0), (19, .new 9, 0, 3, 0, 230), (22, .dup, 0, 0, 0, 0), (23, .sipush 561, 0, 0, 0, 0), (26, .invokespecial 11, 0, 19, 1, 231), (29, .putfield 20, 0, 2, 1, 233), (32, .aload_n 0, 0, 0, 0, 0), (33, .new 9, 0, 3, 0, 230), (36, .dup, 0, 0, 0, 0), (37, .sipush 561, 0, 0, 0, 0), (40, .invokespecial 11, 0, 19, 1, 231), (43, .putfield 23, 0, 2, 2, 234), (46, .aload_n 0, 0, 0, 0, 0), (47, .iconst 0, 0, 0, 0, 0), (48, .putfield 26, 0, 2, 3, 235), (51, .return_, 0, 0, 0, 0)]
def mC1 : List (Nat × Instr × Nat × Nat × Nat × Nat) := [(0, .aload_n 0, 0, 0, 0, 0), (1, .getfield 26, 0, 2, 3, 235), (4, .sipush 561, 0, 0, 0, 0), (7, .if_icmp .ge 49, 0, 0, 0, 0), (10, .aload_n 0, 0, 0, 0, 0), (11, .getfield 14, 0, 2, 0, 232), (14, .aload_n 0, 0, 0, 0, 0), (15, .getfield 26, 0, 2, 3, 235), (18, .iload_n 1, 0, 0, 0, 0), (19, .invokevirtual 30, 0, 21, 2, 510), (22, .aload_n 0, 0, 0, 0, 0), (23, .getfield 20, 0, 2, 1, 233), (26, .aload_n 0, 0, 0, 0, 0), (27, .getfield 26, 0, 2, 3, 235), (30, .iload_n 2, 0, 0, 0, 0), (31, .invokevirtual 30, 0, 21, 2, 510), (34, .aload_n 0, 0, 0, 0, 0), (35, .getfield 23, 0, 2, 2, 234), (38, .aload_n 0, 0, 0, 0, 0), (39, .getfield 26, 0, 2, 3, 235), (42, .iload_n 3, 0, 0, 0, 0), (43, .invokevirtual 30, 0, 21, 2, 510), (46, .aload_n 0, 0, 0, 0, 0), (47, .dup, 0, 0, 0, 0), (48, .getfield 26, 0, 2, 3, 235), (51, .iconst 1, 0, 0, 0, 0), (52, .iadd, 0, 0, 0, 0), (53, .putfield 26, 0, 2, 3, 235), (56, .return_, 0, 0, 0, 0)]
def mC2 : List (Nat × Instr × Nat × Nat × Nat × Nat) := [(0, .iload_n 2, 0, 0, 0, 0), (1, .lookupswitch 45 #[(0, 27), (1, 36)], 27, 0, 0, 0), (28, .aload_n 0, 0, 0, 0, 0), (29, .getfield 14, 0, 2, 0, 232), (32, .iload_n 1, 0, 0, 0, 0), (33, .invokevirtual 34, 0, 20, 1, 577), (36, .ireturn, 0, 0, 0, 0), (37, .aload_n 0, 0, 0, 0, 0), (38, .getfield 20, 0, 2, 1, 233), (41, .iload_n 1, 0, 0, 0, 0), (42, .invokevirtual 34, 0, 20, 1, 577), (45, .ireturn, 0, 0, 0, 0), (46, .aload_n 0, 0, 0, 0, 0), (47, .getfield 23, 0, 2, 2, 234), (50, .iload_n 1, 0, 0, 0, 0), (51, .invokevirtual 34, 0, 20, 1, 577), (54, .ireturn, 0, 0, 0, 0)]
def mC3 : List (Nat × Instr × Nat × Nat × Nat × Nat) := [(0, .iconst 0, 0, 0, 0, 0), (1, .istore_n 2, 0, 0, 0, 0), (2, .iconst 0, 0, 0, 0, 0), (3, .istore_n 3, 0, 0, 0, 0), (4, .iload_n 3, 0, 0, 0, 0), (5, .aload_n 0, 0, 0, 0, 0), (6, .getfield 26, 0, 2, 3, 235), (9, .if_icmp .ge 24, 0, 0, 0, 0), (12, .aload_n 0, 0, 0, 0, 0), (13, .getfield 20, 0, 2, 1, 233), (16, .iload_n 3, 0, 0, 0, 0), (17, .invokevirtual 34, 0, 20, 1, 577), (20, .iload_n 1, 0, 0, 0, 0), (21, .if_icmp .ne 6, 0, 0, 0, 0), (24, .iinc 2 1, 0, 0, 0, 0), (27, .iinc 3 1, 0, 0, 0, 0), (30, .goto (-26), 0, 0, 0, 0), (33, .iload_n 2, 0, 0, 0, 0), (34, .ireturn, 0, 0, 0, 0)]
def mC4 : List (Nat × Instr × Nat × Nat × Nat × Nat) := [(0, .aload_n 0, 0, 0, 0, 0), (1, .iload_n 1, 0, 0, 0, 0), (2, .iload_n 2, 0, 0, 0, 0), (3, .invokestatic 9, 0, 11, 3, 414), (6, .istore_n 3, 0, 0, 0, 0), (7, .aload_n 0, 0, 0, 0, 0), (8, .iload_n 3, 0, 0, 0, 0), (9, .iload_n 2, 0, 0, 0, 0), (10, .invokestatic 15, 0, 12, 3, 418), (13, .istore 4, 0, 0, 0, 0), (15, .iload 4, 0, 0, 0, 0), (17, .iconst 1, 0, 0, 0, 0), (18, .if_icmp .lt 22, 0, 0, 0, 0), (21, .iload 4, 0, 0, 0, 0), (23, .bipush 6, 0, 0, 0, 0), (25, .if_icmp .gt 15, 0, 0, 0, 0), (28, .iload_n 3, 0, 0, 0, 0), (29, .iload 4, 0, 0, 0, 0), (31, .iadd, 0, 0, 0, 0), (32, .iload_n 2, 0, 0, 0, 0), (33, .if_icmp .ne 7, 0, 0, 0, 0), (36, .iconst 1, 0, 0, 0, 0), (37, .goto 4, 0, 0, 0, 0), (40, .iconst 0, 0, 0, 0, 0), (41, .ireturn, 0, 0, 0, 0)]
def mC5 : List (Nat × Instr × Nat × Nat × Nat × Nat) := [(0, .aload_n 0, 0, 0, 0, 0), (1, .iload_n 1, 0, 0, 0, 0), (2, .iload_n 2, 0, 0, 0, 0), (3, .invokestatic 9, 0, 11, 3, 414), (6, .istore 4, 0, 0, 0, 0), (8, .aload_n 0, 0, 0, 0, 0), (9, .iload 4, 0, 0, 0, 0), (11, .iload_n 2, 0, 0, 0, 0), (12, .invokestatic 15, 0, 12, 3, 418), (15, .istore 5, 0, 0, 0, 0), (17, .iload 4, 0, 0, 0, 0), (19, .iload 5, 0, 0, 0, 0), (21, .iadd, 0, 0, 0, 0), (22, .istore 6, 0, 0, 0, 0), (24, .iload 5, 0, 0, 0, 0), (26, .iconst 1, 0, 0, 0, 0), (27, .if_icmp .lt 26, 0, 0, 0, 0), (30, .iload 5, 0, 0, 0, 0), (32, .bipush 6, 0, 0, 0, 0), (34, .if_icmp .gt 19, 0, 0, 0, 0), (37, .iload 6, 0, 0, 0, 0), (39, .iload_n 2, 0, 0, 0, 0), (40, .if_icmp .ge 13, 0, 0, 0, 0), (43, .aload_n 0, 0, 0, 0, 0), (44, .iload 6, 0, 0, 0, 0), (46, .invokevirtual 18, 0, 20, 1, 417), (49, .iload_n 3, 0, 0, 0, 0), (50, .if_icmp .eq 5, 0, 0, 0, 0), (53, .iconst 0, 0, 0, 0, 0), (54, .ireturn, 0, 0, 0, 0), (55, .aload_n 0, 0, 0, 0, 0), (56, .iload 6, 0, 0, 0, 0), (58, .iconst 1, 0, 0, 0, 0), (59, .iadd, 0, 0, 0, 0), (60, .iload_n 2, 0, 0, 0, 0), (61, .invokestatic 15, 0, 12, 3, 418), (64, .istore 7, 0, 0, 0, 0), (66, .iload 7, 0, 0, 0, 0), (68, .iconst 1, 0, 0, 0, 0), (69, .if_icmp .lt 24, 0, 0, 0, 0), (72, .iload 7, 0, 0, 0, 0), (74, .iconst 3, 0, 0, 0, 0), (75, .if_icmp .gt 18, 0, 0, 0, 0), (78, .iload 6, 0, 0, 0, 0), (80, .iconst 1, 0, 0, 0, 0), (81, .iadd, 0, 0, 0, 0), (82, .iload 7, 0, 0, 0, 0), (84, .iadd, 0, 0, 0, 0), (85, .iload_n 2, 0, 0, 0, 0), (86, .if_icmp .ne 7, 0, 0, 0, 0), (89, .iconst 1, 0, 0, 0, 0), (90, .goto 4, 0, 0, 0, 0), (93, .iconst 0, 0, 0, 0, 0), (94, .ireturn, 0, 0, 0, 0)]
def mC6 : List (Nat × Instr × Nat × Nat × Nat × Nat) := [(0, .iload_n 2, 0, 0, 0, 0), (1, .iload_n 1, 0, 0, 0, 0), (2, .isub, 0, 0, 0, 0), (3, .iconst 1, 0, 0, 0, 0), (4, .if_icmp .ne 27, 0, 0, 0, 0), (7, .aload_n 0, 0, 0, 0, 0), (8, .iload_n 1, 0, 0, 0, 0), (9, .invokevirtual 18, 0, 20, 1, 417), (12, .bipush 44, 0, 0, 0, 0), (14, .if_icmp .eq 13, 0, 0, 0, 0), (17, .aload_n 0, 0, 0, 0, 0), (18, .iload_n 1, 0, 0, 0, 0), (19, .invokevirtual 18, 0, 20, 1, 417), (22, .bipush 33, 0, 0, 0, 0), (24, .if_icmp .ne 7, 0, 0, 0, 0), (27, .iconst 1, 0, 0, 0, 0), (28, .goto 4, 0, 0, 0, 0), (31, .iconst 0, 0, 0, 0, 0), (32, .ireturn, 0, 0, 0, 0)]
def mC7 : List (Nat × Instr × Nat × Nat × Nat × Nat) := [(0, .aload_n 0, 0, 0, 0, 0), (1, .aload_n 0, 0, 0, 0, 0), (2, .iload_n 1, 0, 0, 0, 0), (3, .iload_n 2, 0, 0, 0, 0), (4, .invokestatic 9, 0, 11, 3, 414), (7, .iload_n 2, 0, 0, 0, 0), (8, .invokestatic 24, 0, 13, 3, 431), (11, .istore_n 3, 0, 0, 0, 0), (12, .aload_n 0, 0, 0, 0, 0), (13, .iload_n 1, 0, 0, 0, 0), (14, .invokevirtual 18, 0, 20, 1, 417), (17, .bipush 8, 0, 0, 0, 0), (19, .if_icmp .ne 8, 0, 0, 0, 0), (22, .iload_n 3, 0, 0, 0, 0), (23, .ineg, 0, 0, 0, 0), (24, .goto 4, 0, 0, 0, 0), (27, .iload_n 3, 0, 0, 0, 0), (28, .ireturn, 0, 0, 0, 0)]
def mC8 : List (Nat × Instr × Nat × Nat × Nat × Nat) := [(0, .aload_n 0, 0, 0, 0, 0), (1, .iload_n 1, 0, 0, 0, 0), (2, .iload_n 2, 0, 0, 0, 0), (3, .invokestatic 9, 0, 11, 3, 414), (6, .istore_n 3, 0, 0, 0, 0), (7, .iload_n 3, 0, 0, 0, 0), (8, .aload_n 0, 0, 0, 0, 0), (9, .iload_n 3, 0, 0, 0, 0), (10, .iload_n 2, 0, 0, 0, 0), (11, .invokestatic 15, 0, 12, 3, 418), (14, .iadd, 0, 0, 0, 0), (15, .istore 4, 0, 0, 0, 0), (17, .aload_n 0, 0, 0, 0, 0), (18, .iload_n 3, 0, 0, 0, 0), (19, .iload 4, 0, 0, 0, 0), (21, .invokestatic 24, 0, 13, 3, 431), (24, .sipush 1000, 0, 0, 0, 0), (27, .imul, 0, 0, 0, 0), (28, .istore 5, 0, 0, 0, 0), (30, .bipush 100, 0, 0, 0, 0), (32, .istore 6, 0, 0, 0, 0), (34, .iload 4, 0, 0, 0, 0), (36, .iconst 1, 0, 0, 0, 0), (37, .iadd, 0, 0, 0, 0), (38, .istore 7, 0, 0, 0, 0), (40, .iload 7, 0, 0, 0, 0), (42, .iload_n 2, 0, 0, 0, 0), (43, .if_icmp .ge 33, 0, 0, 0, 0), (46, .iload 5, 0, 0, 0, 0), (48, .aload_n 0, 0, 0, 0, 0), (49, .iload 7, 0, 0, 0, 0), (51, .invokevirtual 18, 0, 20, 1, 417), (54, .bipush 10, 0, 0, 0, 0), (56, .isub, 0, 0, 0, 0), (57, .iload 6, 0, 0, 0, 0), (59, .imul, 0, 0, 0, 0), (60, .iadd, 0, 0, 0, 0), (61, .istore 5, 0, 0, 0, 0), (63, .iload 6, 0, 0, 0, 0), (65, .bipush 10, 0, 0, 0, 0), (67, .idiv, 0, 0, 0, 0), (68, .istore 6, 0, 0, 0, 0), (70, .iinc 7 1, 0, 0, 0, 0), (73, .goto (-33), 0, 0, 0, 0), (76, .aload_n 0, 0, 0, 0, 0), (77, .iload_n 1, 0, 0, 0, 0), (78, .invokevirtual 18, 0, 20, 1, 417), (81, .bipush 8, 0, 0, 0, 0), (83, .if_icmp .ne 9, 0, 0, 0, 0), (86, .iload 5, 0, 0, 0, 0), (88, .ineg, 0, 0, 0, 0), (89, .goto 5, 0, 0, 0, 0), (92, .iload 5, 0, 0, 0, 0), (94, .ireturn, 0, 0, 0, 0)]
def mC9 : List (Nat × Instr × Nat × Nat × Nat × Nat) := [(0, .iload_n 1, 0, 0, 0, 0), (1, .aload_n 0, 0, 0, 0, 0), (2, .iload_n 1, 0, 0, 0, 0), (3, .iload_n 2, 0, 0, 0, 0), (4, .invokestatic 15, 0, 12, 3, 418), (7, .iadd, 0, 0, 0, 0), (8, .istore_n 3, 0, 0, 0, 0), (9, .iload_n 3, 0, 0, 0, 0), (10, .iconst 1, 0, 0, 0, 0), (11, .iadd, 0, 0, 0, 0), (12, .aload_n 0, 0, 0, 0, 0), (13, .iload_n 3, 0, 0, 0, 0), (14, .iconst 1, 0, 0, 0, 0), (15, .iadd, 0, 0, 0, 0), (16, .iload_n 2, 0, 0, 0, 0), (17, .invokestatic 15, 0, 12, 3, 418), (20, .iadd, 0, 0, 0, 0), (21, .istore 4, 0, 0, 0, 0), (23, .iload 4, 0, 0, 0, 0), (25, .iconst 1, 0, 0, 0, 0), (26, .iadd, 0, 0, 0, 0), (27, .aload_n 0, 0, 0, 0, 0), (28, .iload 4, 0, 0, 0, 0), (30, .iconst 1, 0, 0, 0, 0), (31, .iadd, 0, 0, 0, 0), (32, .iload_n 2, 0, 0, 0, 0), (33, .invokestatic 15, 0, 12, 3, 418), (36, .iadd, 0, 0, 0, 0), (37, .istore 5, 0, 0, 0, 0), (39, .iload_n 3, 0, 0, 0, 0), (40, .iload_n 1, 0, 0, 0, 0), (41, .isub, 0, 0, 0, 0), (42, .invokestatic 27, 0, 10, 1, 428), (45, .ifCond .eq 57, 0, 0, 0, 0), (48, .iload 4, 0, 0, 0, 0), (50, .iload_n 3, 0, 0, 0, 0), (51, .isub, 0, 0, 0, 0), (52, .iconst 1, 0, 0, 0, 0), (53, .isub, 0, 0, 0, 0), (54, .invokestatic 27, 0, 10, 1, 428), (57, .ifCond .eq 45, 0, 0, 0, 0), (60, .iload 5, 0, 0, 0, 0), (62, .iload 4, 0, 0, 0, 0), (64, .isub, 0, 0, 0, 0), (65, .iconst 1, 0, 0, 0, 0), (66, .isub, 0, 0, 0, 0), (67, .iconst 4, 0, 0, 0, 0), (68, .if_icmp .ne 34, 0, 0, 0, 0), (71, .iload 5, 0, 0, 0, 0), (73, .iload_n 2, 0, 0, 0, 0), (74, .if_icmp .ne 28, 0, 0, 0, 0), (77, .aload_n 0, 0, 0, 0, 0), (78, .iload_n 3, 0, 0, 0, 0), (79, .invokevirtual 18, 0, 20, 1, 417), (82, .bipush 9, 0, 0, 0, 0), (84, .if_icmp .ne 18, 0, 0, 0, 0), (87, .aload_n 0, 0, 0, 0, 0), (88, .iload 4, 0, 0, 0, 0), (90, .invokevirtual 18, 0, 20, 1, 417), (93, .bipush 9, 0, 0, 0, 0), (95, .if_icmp .ne 7, 0, 0, 0, 0), (98, .iconst 1, 0, 0, 0, 0), (99, .goto 4, 0, 0, 0, 0), (102, .iconst 0, 0, 0, 0, 0), (103, .istore 6, 0, 0, 0, 0), (105, .iload 6, 0, 0, 0, 0), (107, .ifCond .ne 5, 0, 0, 0, 0), (110, .iconst (-1), 0, 0, 0, 0), (111, .ireturn, 0, 0, 0, 0), (112, .aload_n 0, 0, 0, 0, 0), (113, .iload_n 1, 0, 0, 0, 0), (114, .iload_n 3, 0, 0, 0, 0), (115, .invokestatic 24, 0, 13, 3, 431), (118, .istore 7, 0, 0, 0, 0), (120, .aload_n 0, 0, 0, 0, 0), (121, .iload_n 3, 0, 0, 0, 0), (122, .iconst 1, 0, 0, 0, 0), (123, .iadd, 0, 0, 0, 0), (124, .iload 4, 0, 0, 0, 0), (126, .invokestatic 24, 0, 13, 3, 431), (129, .istore 8, 0, 0, 0, 0), (131, .aload_n 0, 0, 0, 0, 0), (132, .iload 4, 0, 0, 0, 0), (134, .iconst 1, 0, 0, 0, 0), (135, .iadd, 0, 0, 0, 0), (136, .iload 5, 0, 0, 0, 0), (138, .invokestatic 24, 0, 13, 3, 431), (141, .istore 9, 0, 0, 0, 0), (143, .iload 9, 0, 0, 0, 0), (145, .sipush 1900, 0, 0, 0, 0), (148, .if_icmp .lt 29, 0, 0, 0, 0), (151, .iload 9, 0, 0, 0, 0), (153, .sipush 2099, 0, 0, 0, 0), (156, .if_icmp .gt 21, 0, 0, 0, 0), (159, .iload 7, 0, 0, 0, 0), (161, .iconst 1, 0, 0, 0, 0), (162, .if_icmp .lt 15, 0, 0, 0, 0), (165, .iload 7, 0, 0, 0, 0), (167, .iload 8, 0, 0, 0, 0), (169, .iload 9, 0, 0, 0, 0), (171, .invokestatic 31, 0, 14, 2, 434), (174, .if_icmp .le 5, 0, 0, 0, 0), (177, .iconst (-1), 0, 0, 0, 0), (178, .ireturn, 0, 0, 0, 0), (179, .iload 9, 0, 0, 0, 0), (181, .invokestatic 35, 0, 16, 1, 442), (184, .iload 8, 0, 0, 0, 0), (186, .iload 9, 0, 0, 0, 0), (188, .invokestatic 38, 0, 15, 2, 448), (191, .iadd, 0, 0, 0, 0), (192, .iload 7, 0, 0, 0, 0), (194, .iadd, 0, 0, 0, 0), (195, .iconst 1, 0, 0, 0, 0), (196, .isub, 0, 0, 0, 0), (197, .ireturn, 0, 0, 0, 0)]
def mC10 : List (Nat × Instr × Nat × Nat × Nat × Nat) := [(0, .iload_n 0, 0, 0, 0, 0), (1, .iconst 1, 0, 0, 0, 0), (2, .if_icmp .eq 8, 0, 0, 0, 0), (5, .iload_n 0, 0, 0, 0, 0), (6, .iconst 2, 0, 0, 0, 0), (7, .if_icmp .ne 7, 0, 0, 0, 0), (10, .iconst 1, 0, 0, 0, 0), (11, .goto 4, 0, 0, 0, 0), (14, .iconst 0, 0, 0, 0, 0), (15, .ireturn, 0, 0, 0, 0)]
def mC11 : List (Nat × Instr × Nat × Nat × Nat × Nat) := [(0, .iload_n 1, 0, 0, 0, 0), (1, .iload_n 2, 0, 0, 0, 0), (2, .if_icmp .ge 19, 0, 0, 0, 0), (5, .aload_n 0, 0, 0, 0, 0), (6, .iload_n 1, 0, 0, 0, 0), (7, .invokevirtual 18, 0, 20, 1, 417), (10, .bipush 8, 0, 0, 0, 0), (12, .if_icmp .ne 9, 0, 0, 0, 0), (15, .iload_n 1, 0, 0, 0, 0), (16, .iconst 1, 0, 0, 0, 0), (17, .iadd, 0, 0, 0, 0), (18, .goto 4, 0, 0, 0, 0), (21, .iload_n 1, 0, 0, 0, 0), (22, .ireturn, 0, 0, 0, 0)]
def mC12 : List (Nat × Instr × Nat × Nat × Nat × Nat) := [(0, .iload_n 1, 0, 0, 0, 0), (1, .istore_n 3, 0, 0, 0, 0), (2, .iload_n 3, 0, 0, 0, 0), (3, .iload_n 2, 0, 0, 0, 0), (4, .if_icmp .ge 29, 0, 0, 0, 0), (7, .aload_n 0, 0, 0, 0, 0), (8, .iload_n 3, 0, 0, 0, 0), (9, .invokevirtual 18, 0, 20, 1, 417), (12, .bipush 10, 0, 0, 0, 0), (14, .if_icmp .lt 19, 0, 0, 0, 0), (17, .aload_n 0, 0, 0, 0, 0), (18, .iload_n 3, 0, 0, 0, 0), (19, .invokevirtual 18, 0, 20, 1, 417), (22, .bipush 19, 0, 0, 0, 0), (24, .if_icmp .gt 9, 0, 0, 0, 0), (27, .iinc 3 1, 0, 0, 0, 0), (30, .goto (-28), 0, 0, 0, 0), (33, .iload_n 3, 0, 0, 0, 0), (34, .iload_n 1, 0, 0, 0, 0), (35, .isub, 0, 0, 0, 0), (36, .ireturn, 0, 0, 0, 0)]
def mC13 : List (Nat × Instr × Nat × Nat × Nat × Nat) := [(0, .iconst 0, 0, 0, 0, 0), (1, .istore_n 3, 0, 0, 0, 0), (2, .iload_n 1, 0, 0, 0, 0), (3, .istore 4, 0, 0, 0, 0), (5, .iload 4, 0, 0, 0, 0), (7, .iload_n 2, 0, 0, 0, 0), (8, .if_icmp .ge 24, 0, 0, 0, 0), (11, .iload_n 3, 0, 0, 0, 0), (12, .bipush 10, 0, 0, 0, 0), (14, .imul, 0, 0, 0, 0), (15, .aload_n 0, 0, 0, 0, 0), (16, .iload 4, 0, 0, 0, 0), (18, .invokevirtual 18, 0, 20, 1, 417), (21, .iadd, 0, 0, 0, 0), (22, .bipush 10, 0, 0, 0, 0), (24, .isub, 0, 0, 0, 0), (25, .istore_n 3, 0, 0, 0, 0), (26, .iinc 4 1, 0, 0, 0, 0), (29, .goto (-24), 0, 0, 0, 0), (32, .iload_n 3, 0, 0, 0, 0), (33, .ireturn, 0, 0, 0, 0)]
def mC14 : List (Nat × Instr × Nat × Nat × Nat × Nat) := [(0, .iload_n 0, 0, 0, 0, 0), (1, .iconst 1, 0, 0, 0, 0), (2, .if_icmp .lt 11, 0, 0, 0, 0), (5, .iload_n 0, 0, 0, 0, 0), (6, .getstatic 41, 0, 1, 0, 437), (9, .arraylength, 0, 0, 0, 0), (10, .if_icmp .lt 5, 0, 0, 0, 0), (13, .iconst 0, 0, 0, 0, 0), (14, .ireturn, 0, 0, 0, 0), (15, .getstatic 41, 0, 1, 0, 437), (18, .iload_n 0, 0, 0, 0, 0), (19, .iaload, 0, 0, 0, 0), (20, .getstatic 41, 0, 1, 0, 437), (23, .iload_n 0, 0, 0, 0, 0), (24, .iconst 1, 0, 0, 0, 0), (25, .isub, 0, 0, 0, 0), (26, .iaload, 0, 0, 0, 0), (27, .isub, 0, 0, 0, 0), (28, .istore_n 2, 0, 0, 0, 0), (29, .iload_n 0, 0, 0, 0, 0), (30, .iconst 2, 0, 0, 0, 0), (31, .if_icmp .ne 16, 0, 0, 0, 0), (34, .iload_n 1, 0, 0, 0, 0), (35, .invokestatic 45, 0, 18, 1, 439), (38, .ifCond .eq 9, 0, 0, 0, 0), (41, .iload_n 2, 0, 0, 0, 0), (42, .iconst 1, 0, 0, 0, 0), (43, .iadd, 0, 0, 0, 0), (44, .goto 4, 0, 0, 0, 0), (47, .iload_n 2, 0, 0, 0, 0), (48, .ireturn, 0, 0, 0, 0)]
def mC15 : List (Nat × Instr × Nat × Nat × Nat × Nat) := [(0, .iload_n 0, 0, 0, 0, 0), (1, .iconst 1, 0, 0, 0, 0), (2, .if_icmp .lt 11, 0, 0, 0, 0), (5, .iload_n 0, 0, 0, 0, 0), (6, .getstatic 41, 0, 1, 0, 437), (9, .arraylength, 0, 0, 0, 0), (10, .if_icmp .lt 5, 0, 0, 0, 0), (13, .iconst 0, 0, 0, 0, 0), (14, .ireturn, 0, 0, 0, 0), (15, .getstatic 41, 0, 1, 0, 437), (18, .iload_n 0, 0, 0, 0, 0), (19, .iconst 1, 0, 0, 0, 0), (20, .isub, 0, 0, 0, 0), (21, .iaload, 0, 0, 0, 0), (22, .istore_n 2, 0, 0, 0, 0), (23, .iload_n 0, 0, 0, 0, 0), (24, .iconst 2, 0, 0, 0, 0), (25, .if_icmp .le 16, 0, 0, 0, 0), (28, .iload_n 1, 0, 0, 0, 0), (29, .invokestatic 45, 0, 18, 1, 439), (32, .ifCond .eq 9, 0, 0, 0, 0), (35, .iload_n 2, 0, 0, 0, 0), (36, .iconst 1, 0, 0, 0, 0), (37, .iadd, 0, 0, 0, 0), (38, .goto 4, 0, 0, 0, 0), (41, .iload_n 2, 0, 0, 0, 0), (42, .ireturn, 0, 0, 0, 0)]
def mC16 : List (Nat × Instr × Nat × Nat × Nat × Nat) := [(0, .sipush 365, 0, 0, 0, 0), (3, .iload_n 0, 0, 0, 0, 0), (4, .sipush 1900, 0, 0, 0, 0), (7, .isub, 0, 0, 0, 0), (8, .imul, 0, 0, 0, 0), (9, .iload_n 0, 0, 0, 0, 0), (10, .iconst 1, 0, 0, 0, 0), (11, .isub, 0, 0, 0, 0), (12, .invokestatic 48, 0, 17, 1, 445), (15, .iadd, 0, 0, 0, 0), (16, .sipush 1899, 0, 0, 0, 0), (19, .invokestatic 48, 0, 17, 1, 445), (22, .isub, 0, 0, 0, 0), (23, .ireturn, 0, 0, 0, 0)]
def mC17 : List (Nat × Instr × Nat × Nat × Nat × Nat) := [(0, .iload_n 0, 0, 0, 0, 0), (1, .iconst 4, 0, 0, 0, 0), (2, .idiv, 0, 0, 0, 0), (3, .iload_n 0, 0, 0, 0, 0), (4, .bipush 100, 0, 0, 0, 0), (6, .idiv, 0, 0, 0, 0), (7, .isub, 0, 0, 0, 0), (8, .iload_n 0, 0, 0, 0, 0), (9, .sipush 400, 0, 0, 0, 0), (12, .idiv, 0, 0, 0, 0), (13, .iadd, 0, 0, 0, 0), (14, .ireturn, 0, 0, 0, 0)]
def mC18 : List (Nat × Instr × Nat × Nat × Nat × Nat) := [(0, .iload_n 0, 0, 0, 0, 0), (1, .iconst 4, 0, 0, 0, 0), (2, .irem, 0, 0, 0, 0), (3, .ifCond .ne 22, 0, 0, 0, 0), (6, .iload_n 0, 0, 0, 0, 0), (7, .bipush 100, 0, 0, 0, 0), (9, .irem, 0, 0, 0, 0), (10, .ifCond .ne 11, 0, 0, 0, 0), (13, .iload_n 0, 0, 0, 0, 0), (14, .sipush 400, 0, 0, 0, 0), (17, .irem, 0, 0, 0, 0), (18, .ifCond .ne 7, 0, 0, 0, 0), (21, .iconst 1, 0, 0, 0, 0), (22, .goto 4, 0, 0, 0, 0), (25, .iconst 0, 0, 0, 0, 0), (26, .ireturn, 0, 0, 0, 0)]
def mC19 : List (Nat × Instr × Nat × Nat × Nat × Nat) := [(0, .aload_n 0, 0, 0, 0, 0), (1, .invokespecial 1, 0, 998, 0, 110), (4, .aload_n 0, 0, 0, 0, 0), (5, .iload_n 1, 0, 0, 0, 0), (6, .ifCond .ge 7, 0, 0, 0, 0), (9, .iconst 0, 0, 0, 0, 0), (10, .goto 4, 0, 0, 0, 0), (13, .iload_n 1, 0, 0, 0, 0), (14, .newarray .int, 0, 0, 0, 0), (16, .putfield 7, 0, 3, 0, 111), (19, .return_, 0, 0, 0, 0)]
def mC20 : List (Nat × Instr × Nat × Nat × Nat × Nat) := [(0, .iload_n 1, 0, 0, 0, 0), (1, .ifCond .lt 21, 0, 0, 0, 0), (4, .iload_n 1, 0, 0, 0, 0), (5, .aload_n 0, 0, 0, 0, 0), (6, .getfield 7, 0, 3, 0, 111), (9, .arraylength, 0, 0, 0, 0), (10, .if_icmp .ge 12, 0, 0, 0, 0), (13, .aload_n 0, 0, 0, 0, 0), (14, .getfield 7, 0, 3, 0, 111), (17, .iload_n 1, 0, 0, 0, 0), (18, .iaload, 0, 0, 0, 0), (19, .goto 4, 0, 0, 0, 0), (22, .iconst 0, 0, 0, 0, 0), (23, .ireturn, 0, 0, 0, 0)]
def mC21 : List (Nat × Instr × Nat × Nat × Nat × Nat) := [(0, .iload_n 1, 0, 0, 0, 0), (1, .ifCond .lt 19, 0, 0, 0, 0), (4, .iload_n 1, 0, 0, 0, 0), (5, .aload_n 0, 0, 0, 0, 0), (6, .getfield 7, 0, 3, 0, 111), (9, .arraylength, 0, 0, 0, 0), (10, .if_icmp .ge 10, 0, 0, 0, 0), (13, .aload_n 0, 0, 0, 0, 0), (14, .getfield 7, 0, 3, 0, 111), (17, .iload_n 1, 0, 0, 0, 0), (18, .iload_n 2, 0, 0, 0, 0), (19, .iastore, 0, 0, 0, 0), (20, .return_, 0, 0, 0, 0)]
def mC22 : List (Nat × Instr × Nat × Nat × Nat × Nat) := [(0, .aload_n 0, 0, 0, 0, 0), (1, .invokespecial 3, 0, 998, 0, 164), (4, .aload_n 0, 0, 0, 0, 0), (5, .new 9, 0, 3, 0, 165), (8, .dup, 0, 0, 0, 0), (9, .sipush 500, 0, 0, 0, 0), (12, .invokespecial 11, 0, 19, 1, 166), (15, .putfield 14, 0, 4, 0, 167), (18, .aload_n 0, 0, 0, 0, 0), (19, .new 9, 0, 3, 0, 165), (22, .dup, 0, 0, 0, 0), (23, .sipush 501, 0, 0, 0, 0), (26, .invokespecial 11, 0, 19, 1, 166), (29, .putfield 20, 0, 4, 1, 170), (32, .aload_n 0, 0, 0, 0, 0), (33, .new 9, 0, 3, 0, 165), (36, .dup, 0, 0, 0, 0), (37, .sipush 501, 0, 0, 0, 0), (40, .invokespecial 11, 0, 19, 1, 166), (43, .putfield 23, 0, 4, 2, 173), (46, .aload_n 0, 0, 0, 0, 0), (47, .new 9, 0, 3, 0, 165), (50, .dup, 0, 0, 0, 0), (51, .sipush 501, 0, 0, 0, 0), (54, .invokespecial 11, 0, 19, 1, 166), (57, .putfield 26, 0, 4, 3, 176), (60, .aload_n 0, 0, 0, 0, 0), (61, .new 9, 0, 3, 0, 165), (64, .dup, 0, 0, 0, 0), (65, .sipush 501, 0, 0, 0, 0), (68, .invokespecial 11, 0, 19, 1, 166), (71, .putfield 29, 0, 4, 4, 178), (74, .aload_n 0, 0, 0, 0, 0), (75, .new 9, 0, 3, 0, 165), (78, .dup, 0, 0, 0, 0), (79, .bipush 60, 0, 0, 0, 0), (81, .invokespecial 11, 0, 19, 1, 166), (84, .putfield 32, 0, 4, 5, 180), (87, .aload_n 0, 0, 0, 0, 0), (88, .new 9, 0, 3, 0, 165), (91, .dup, 0, 0, 0, 0), (92, .bipush 60, 0, 0, 0, 0), (94, .invokespecial 11, 0, 19, 1, 166), (97, .putfield 35, 0, 4, 6, 181), (100, .aload_n 0, 0, 0, 0, 0), (101, .iconst 0, 0, 0, 0, 0), (102, .putfield 38, 0, 4, 7, 184), (105, .aload_n 0, 0, 0, 0, 0), (106, .iconst 0, 0, 0, 0, 0), (107, .putfield 42, 0, 4, 8, 185), (110, .aload_n 0, 0, 0, 0, 0), (111, .iconst 0, 0, 0, 0, 0), (112, .putfield 45, 0, 4, 9, 187), (115, .aload_n 0, 0, 0, 0, 0), (116, .iconst 0, 0, 0, 0, 0), (117, .putfield 48, 0, 4, 10, 190), (120, .aload_n 0, 0, 0, 0, 0), (121, .iconst 0, 0, 0, 0, 0), (122, .putfield 51, 0, 4, 11, 191), (125, .aload_n 0, 0, 0, 0, 0), (126, .iconst 0, 0, 0, 0, 0), (127, .putfield 54, 0, 4, 12, 192), (130, .aload_n 0, 0, 0, 0, 0), (131, .iconst 0, 0, 0, 0, 0), (132, .putfield 57, 0, 4, 13, 194), (135, .return_, 0, 0, 0, 0)]
def mC23 : List (Nat × Instr × Nat × Nat × Nat × Nat) := [(0, .aload_n 0, 0, 0, 0, 0), (1, .iconst 0, 0, 0, 0, 0), (2, .putfield 38, 0, 4, 7, 184), (5, .aload_n 0, 0, 0, 0, 0), (6, .iconst 0, 0, 0, 0, 0), (7, .putfield 42, 0, 4, 8, 185), (10, .aload_n 0, 0, 0, 0, 0), (11, .iconst 0, 0, 0, 0, 0), (12, .putfield 45, 0, 4, 9, 187), (15, .aload_n 0, 0, 0, 0, 0), (16, .iconst 0, 0, 0, 0, 0), (17, .putfield 48, 0, 4, 10, 190), (20, .iconst 0, 0, 0, 0, 0), (21, .istore_n 3, 0, 0, 0, 0), (22, .iconst 0, 0, 0, 0, 0), (23, .istore 4, 0, 0, 0, 0), (25, .iload 4, 0, 0, 0, 0), (27, .sipush 501, 0, 0, 0, 0), (30, .if_icmp .ge 111, 0, 0, 0, 0), (33, .aload_n 0, 0, 0, 0, 0), (34, .aload_n 1, 0, 0, 0, 0), (35, .iload_n 3, 0, 0, 0, 0), (36, .invokevirtual 60, 0, 24, 2, 337), (39, .ifCond .eq 102, 0, 0, 0, 0), (42, .aload_n 0, 0, 0, 0, 0), (43, .getfield 38, 0, 4, 7, 184), (46, .istore 5, 0, 0, 0, 0), (48, .iload_n 3, 0, 0, 0, 0), (49, .aload_n 1, 0, 0, 0, 0), (50, .getfield 64, 0, 6, 1, 119), (53, .if_icmp .ge 19, 0, 0, 0, 0), (56, .aload_n 1, 0, 0, 0, 0), (57, .getfield 69, 0, 6, 0, 117), (60, .iload_n 3, 0, 0, 0, 0), (61, .invokevirtual 70, 0, 20, 1, 341), (64, .iconst 4, 0, 0, 0, 0), (65, .if_icmp .ne 7, 0, 0, 0, 0), (68, .iconst 1, 0, 0, 0, 0), (69, .goto 4, 0, 0, 0, 0), (72, .iconst 0, 0, 0, 0, 0), (73, .istore 6, 0, 0, 0, 0), (75, .iload 6, 0, 0, 0, 0), (77, .ifCond .eq 15, 0, 0, 0, 0), (80, .aload_n 0, 0, 0, 0, 0), (81, .aload_n 1, 0, 0, 0, 0), (82, .iload_n 2, 0, 0, 0, 0), (83, .iload_n 3, 0, 0, 0, 0), (84, .iconst 1, 0, 0, 0, 0), (85, .iadd, 0, 0, 0, 0), (86, .invokevirtual 74, 0, 26, 3, 345), (89, .goto 10, 0, 0, 0, 0), (92, .aload_n 0, 0, 0, 0, 0), (93, .aload_n 1, 0, 0, 0, 0), (94, .iload_n 2, 0, 0, 0, 0), (95, .iload_n 3, 0, 0, 0, 0), (96, .invokevirtual 78, 0, 25, 3, 358), (99, .istore_n 3, 0, 0, 0, 0), (100, .aload_n 0, 0, 0, 0, 0), (101, .iload 5, 0, 0, 0, 0), (103, .iload 6, 0, 0, 0, 0), (105, .invokevirtual 81, 0, 29, 2, 362), (108, .iload_n 3, 0, 0, 0, 0), (109, .aload_n 1, 0, 0, 0, 0), (110, .getfield 64, 0, 6, 1, 119), (113, .if_icmp .ge 15, 0, 0, 0, 0), (116, .aload_n 1, 0, 0, 0, 0), (117, .getfield 69, 0, 6, 0, 117), (120, .iload_n 3, 0, 0, 0, 0), (121, .invokevirtual 70, 0, 20, 1, 341), (124, .iload_n 2, 0, 0, 0, 0), (125, .if_icmp .eq 7, 0, 0, 0, 0), (128, .aload_n 0, 0, 0, 0, 0), (129, .invokevirtual 85, 0, 30, 0, 366), (132, .iinc 3 1, 0, 0, 0, 0), (135, .iinc 4 1, 0, 0, 0, 0), (138, .goto (-113), 0, 0, 0, 0), (141, .aload_n 0, 0, 0, 0, 0), (142, .invokevirtual 88, 0, 31, 0, 373), (145, .return_, 0, 0, 0, 0)]
def mC24 : List (Nat × Instr × Nat × Nat × Nat × Nat) := [(0, .aload_n 0, 0, 0, 0, 0), (1, .getfield 45, 0, 4, 9, 187), (4, .bipush 60, 0, 0, 0, 0), (6, .if_icmp .ge 22, 0, 0, 0, 0), (9, .iload_n 2, 0, 0, 0, 0), (10, .aload_n 1, 0, 0, 0, 0), (11, .getfield 64, 0, 6, 1, 119), (14, .if_icmp .lt 10, 0, 0, 0, 0), (17, .aload_n 0, 0, 0, 0, 0), (18, .getfield 48, 0, 4, 10, 190), (21, .ifCond .le 7, 0, 0, 0, 0), (24, .iconst 1, 0, 0, 0, 0), (25, .goto 4, 0, 0, 0, 0), (28, .iconst 0, 0, 0, 0, 0), (29, .ireturn, 0, 0, 0, 0)]
def mC25 : List (Nat × Instr × Nat × Nat × Nat × Nat) := [(0, .aload_n 0, 0, 0, 0, 0), (1, .aload_n 1, 0, 0, 0, 0), (2, .iload_n 2, 0, 0, 0, 0), (3, .iload_n 3, 0, 0, 0, 0), (4, .invokevirtual 91, 0, 27, 3, 354), (7, .istore 4, 0, 0, 0, 0), (9, .iload_n 3, 0, 0, 0, 0), (10, .istore 5, 0, 0, 0, 0), (12, .iload 5, 0, 0, 0, 0), (14, .iload 4, 0, 0, 0, 0), (16, .if_icmp .ge 23, 0, 0, 0, 0), (19, .aload_n 1, 0, 0, 0, 0), (20, .getfield 69, 0, 6, 0, 117), (23, .iload 5, 0, 0, 0, 0), (25, .invokevirtual 70, 0, 20, 1, 341), (28, .bipush 6, 0, 0, 0, 0), (30, .if_icmp .ne 9, 0, 0, 0, 0), (33, .iinc 5 1, 0, 0, 0, 0), (36, .goto (-24), 0, 0, 0, 0), (39, .iload 4, 0, 0, 0, 0), (41, .istore 6, 0, 0, 0, 0), (43, .iload 6, 0, 0, 0, 0), (45, .iload 5, 0, 0, 0, 0), (47, .if_icmp .le 25, 0, 0, 0, 0), (50, .aload_n 1, 0, 0, 0, 0), (51, .getfield 69, 0, 6, 0, 117), (54, .iload 6, 0, 0, 0, 0), (56, .iconst 1, 0, 0, 0, 0), (57, .isub, 0, 0, 0, 0), (58, .invokevirtual 70, 0, 20, 1, 341), (61, .bipush 6, 0, 0, 0, 0), (63, .if_icmp .ne 9, 0, 0, 0, 0), (66, .iinc 6 (-1), 0, 0, 0, 0), (69, .goto (-26), 0, 0, 0, 0), (72, .aload_n 0, 0, 0, 0, 0), (73, .aload_n 1, 0, 0, 0, 0), (74, .iload 5, 0, 0, 0, 0), (76, .iload 6, 0, 0, 0, 0), (78, .invokevirtual 94, 0, 28, 3, 349), (81, .aload_n 0, 0, 0, 0, 0), (82, .iconst 0, 0, 0, 0, 0), (83, .putfield 51, 0, 4, 11, 191), (86, .iload 4, 0, 0, 0, 0), (88, .ireturn, 0, 0, 0, 0)]
def mC26 : List (Nat × Instr × Nat × Nat × Nat × Nat) := [(0, .iload_n 3, 0, 0, 0, 0), (1, .istore 4, 0, 0, 0, 0), (3, .iconst 1, 0, 0, 0, 0), (4, .istore 5, 0, 0, 0, 0), (6, .iload 5, 0, 0, 0, 0), (8, .ifCond .eq 121, 0, 0, 0, 0), (11, .iload 4, 0, 0, 0, 0), (13, .aload_n 1, 0, 0, 0, 0), (14, .getfield 64, 0, 6, 1, 119), (17, .if_icmp .ge 112, 0, 0, 0, 0), (20, .aload_n 1, 0, 0, 0, 0), (21, .getfield 69, 0, 6, 0, 117), (24, .iload 4, 0, 0, 0, 0), (26, .invokevirtual 70, 0, 20, 1, 341), (29, .iconst 4, 0, 0, 0, 0), (30, .if_icmp .ne 7, 0, 0, 0, 0), (33, .iconst 1, 0, 0, 0, 0), (34, .goto 4, 0, 0, 0, 0), (37, .iconst 0, 0, 0, 0, 0), (38, .istore 6, 0, 0, 0, 0), (40, .iload 6, 0, 0, 0, 0), (42, .ifCond .eq 33, 0, 0, 0, 0), (45, .iload 4, 0, 0, 0, 0), (47, .iconst 1, 0, 0, 0, 0), (48, .iadd, 0, 0, 0, 0), (49, .aload_n 1, 0, 0, 0, 0), (50, .getfield 64, 0, 6, 1, 119), (53, .if_icmp .ge 22, 0, 0, 0, 0), (56, .aload_n 1, 0, 0, 0, 0), (57, .getfield 69, 0, 6, 0, 117), (60, .iload 4, 0, 0, 0, 0), (62, .iconst 1, 0, 0, 0, 0), (63, .iadd, 0, 0, 0, 0), (64, .invokevirtual 70, 0, 20, 1, 341), (67, .iconst 4, 0, 0, 0, 0), (68, .if_icmp .ne 7, 0, 0, 0, 0), (71, .iconst 1, 0, 0, 0, 0), (72, .goto 4, 0, 0, 0, 0), (75, .iconst 0, 0, 0, 0, 0), (76, .istore 7, 0, 0, 0, 0), (78, .iload 6, 0, 0, 0, 0), (80, .ifCond .eq 8, 0, 0, 0, 0), (83, .iload 7, 0, 0, 0, 0), (85, .ifCond .eq 7, 0, 0, 0, 0), (88, .iconst 1, 0, 0, 0, 0), (89, .goto 4, 0, 0, 0, 0), (92, .iconst 0, 0, 0, 0, 0), (93, .istore 5, 0, 0, 0, 0), (95, .iload 5, 0, 0, 0, 0), (97, .ifCond .eq 14, 0, 0, 0, 0), (100, .aload_n 0, 0, 0, 0, 0), (101, .aload_n 1, 0, 0, 0, 0), (102, .iload 4, 0, 0, 0, 0), (104, .iload 4, 0, 0, 0, 0), (106, .iconst 1, 0, 0, 0, 0), (107, .iadd, 0, 0, 0, 0), (108, .invokevirtual 94, 0, 28, 3, 349), (111, .iload 4, 0, 0, 0, 0), (113, .iload 7, 0, 0, 0, 0), (115, .ifCond .eq 7, 0, 0, 0, 0), (118, .iconst 2, 0, 0, 0, 0), (119, .goto 4, 0, 0, 0, 0), (122, .iconst 1, 0, 0, 0, 0), (123, .iadd, 0, 0, 0, 0), (124, .istore 4, 0, 0, 0, 0), (126, .goto (-120), 0, 0, 0, 0), (129, .aload_n 0, 0, 0, 0, 0), (130, .aload_n 1, 0, 0, 0, 0), (131, .iload_n 2, 0, 0, 0, 0), (132, .iload 4, 0, 0, 0, 0), (134, .invokevirtual 91, 0, 27, 3, 354), (137, .istore 6, 0, 0, 0, 0), (139, .aload_n 0, 0, 0, 0, 0), (140, .aload_n 1, 0, 0, 0, 0), (141, .iload 4, 0, 0, 0, 0), (143, .iload 6, 0, 0, 0, 0), (145, .invokevirtual 94, 0, 28, 3, 349), (148, .aload_n 0, 0, 0, 0, 0), (149, .iload 5, 0, 0, 0, 0), (151, .ifCond .eq 7, 0, 0, 0, 0), (154, .iconst 2, 0, 0, 0, 0), (155, .goto 15, 0, 0, 0, 0), (158, .iload 6, 0, 0, 0, 0), (160, .iload 4, 0, 0, 0, 0), (162, .if_icmp .le 7, 0, 0, 0, 0), (165, .iconst 1, 0, 0, 0, 0), (166, .goto 4, 0, 0, 0, 0), (169, .iconst 0, 0, 0, 0, 0), (170, .putfield 51, 0, 4, 11, 191), (173, .iload 6, 0, 0, 0, 0), (175, .ireturn, 0, 0, 0, 0)]
def mC27 : List (Nat × Instr × Nat × Nat × Nat × Nat) := [(0, .iload_n 3, 0, 0, 0, 0), (1, .istore 4, 0, 0, 0, 0), (3, .iload 4, 0, 0, 0, 0), (5, .aload_n 1, 0, 0, 0, 0), (6, .getfield 64, 0, 6, 1, 119), (9, .if_icmp .ge 35, 0, 0, 0, 0), (12, .aload_n 1, 0, 0, 0, 0), (13, .getfield 69, 0, 6, 0, 117), (16, .iload 4, 0, 0, 0, 0), (18, .invokevirtual 70, 0, 20, 1, 341), (21, .iload_n 2, 0, 0, 0, 0), (22, .if_icmp .eq 22, 0, 0, 0, 0), (25, .aload_n 1, 0, 0, 0, 0), (26, .getfield 69, 0, 6, 0, 117), (29, .iload 4, 0, 0, 0, 0), (31, .invokevirtual 70, 0, 20, 1, 341), (34, .iconst 5, 0, 0, 0, 0), (35, .if_icmp .eq 9, 0, 0, 0, 0), (38, .iinc 4 1, 0, 0, 0, 0), (41, .goto (-38), 0, 0, 0, 0), (44, .iload 4, 0, 0, 0, 0), (46, .ireturn, 0, 0, 0, 0)]
def mC28 : List (Nat × Instr × Nat × Nat × Nat × Nat) := [(0, .iload_n 2, 0, 0, 0, 0), (1, .istore 4, 0, 0, 0, 0), (3, .iload 4, 0, 0, 0, 0), (5, .iload_n 3, 0, 0, 0, 0), (6, .if_icmp .ge 39, 0, 0, 0, 0), (9, .aload_n 0, 0, 0, 0, 0), (10, .getfield 14, 0, 4, 0, 167), (13, .aload_n 0, 0, 0, 0, 0), (14, .getfield 38, 0, 4, 7, 184), (17, .aload_n 1, 0, 0, 0, 0), (18, .getfield 69, 0, 6, 0, 117), (21, .iload 4, 0, 0, 0, 0), (23, .invokevirtual 70, 0, 20, 1, 341), (26, .invokevirtual 98, 0, 21, 2, 353), (29, .aload_n 0, 0, 0, 0, 0), (30, .dup, 0, 0, 0, 0), (31, .getfield 38, 0, 4, 7, 184), (34, .iconst 1, 0, 0, 0, 0), (35, .iadd, 0, 0, 0, 0), (36, .putfield 38, 0, 4, 7, 184), (39, .iinc 4 1, 0, 0, 0, 0), (42, .goto (-39), 0, 0, 0, 0), (45, .return_, 0, 0, 0, 0)]
def mC29 : List (Nat × Instr × Nat × Nat × Nat × Nat) := [(0, .aload_n 0, 0, 0, 0, 0), (1, .getfield 48, 0, 4, 10, 190), (4, .bipush 20, 0, 0, 0, 0), (6, .if_icmp .ge 80, 0, 0, 0, 0), (9, .aload_n 0, 0, 0, 0, 0), (10, .getfield 20, 0, 4, 1, 170), (13, .aload_n 0, 0, 0, 0, 0), (14, .getfield 42, 0, 4, 8, 185), (17, .iload_n 1, 0, 0, 0, 0), (18, .invokevirtual 98, 0, 21, 2, 353), (21, .aload_n 0, 0, 0, 0, 0), (22, .getfield 23, 0, 4, 2, 173), (25, .aload_n 0, 0, 0, 0, 0), (26, .getfield 42, 0, 4, 8, 185), (29, .aload_n 0, 0, 0, 0, 0), (30, .getfield 38, 0, 4, 7, 184), (33, .iload_n 1, 0, 0, 0, 0), (34, .isub, 0, 0, 0, 0), (35, .invokevirtual 98, 0, 21, 2, 353), (38, .aload_n 0, 0, 0, 0, 0), (39, .getfield 26, 0, 4, 3, 176), (42, .aload_n 0, 0, 0, 0, 0), (43, .getfield 42, 0, 4, 8, 185), (46, .iload_n 2, 0, 0, 0, 0), (47, .ifCond .eq 7, 0, 0, 0, 0), (50, .iconst 1, 0, 0, 0, 0), (51, .goto 4, 0, 0, 0, 0), (54, .iconst 0, 0, 0, 0, 0), (55, .invokevirtual 98, 0, 21, 2, 353), (58, .aload_n 0, 0, 0, 0, 0), (59, .getfield 29, 0, 4, 4, 178), (62, .aload_n 0, 0, 0, 0, 0), (63, .getfield 42, 0, 4, 8, 185), (66, .aload_n 0, 0, 0, 0, 0), (67, .getfield 51, 0, 4, 11, 191), (70, .invokevirtual 98, 0, 21, 2, 353), (73, .aload_n 0, 0, 0, 0, 0), (74, .dup, 0, 0, 0, 0), (75, .getfield 42, 0, 4, 8, 185), (78, .iconst 1, 0, 0, 0, 0), (79, .iadd, 0, 0, 0, 0), (80, .putfield 42, 0, 4, 8, 185), (83, .goto 8, 0, 0, 0, 0), (86, .aload_n 0, 0, 0, 0, 0), (87, .iload_n 1, 0, 0, 0, 0), (88, .putfield 38, 0, 4, 7, 184), (91, .aload_n 0, 0, 0, 0, 0), (92, .dup, 0, 0, 0, 0), (93, .getfield 48, 0, 4, 10, 190), (96, .iconst 1, 0, 0, 0, 0), (97, .iadd, 0, 0, 0, 0), (98, .putfield 48, 0, 4, 10, 190), (101, .return_, 0, 0, 0, 0)]
def mC30 : List (Nat × Instr × Nat × Nat × Nat × Nat) := [(0, .aload_n 0, 0, 0, 0, 0), (1, .getfield 42, 0, 4, 8, 185), (4, .aload_n 0, 0, 0, 0, 0), (5, .getfield 48, 0, 4, 10, 190), (8, .bipush 20, 0, 0, 0, 0), (10, .invokestatic 102, 0, 205, 2, 370), (13, .isub, 0, 0, 0, 0), (14, .istore_n 1, 0, 0, 0, 0), (15, .aload_n 0, 0, 0, 0, 0), (16, .getfield 48, 0, 4, 10, 190), (19, .iconst 1, 0, 0, 0, 0), (20, .if_icmp .ne 29, 0, 0, 0, 0), (23, .aload_n 0, 0, 0, 0, 0), (24, .getfield 26, 0, 4, 3, 176), (27, .iload_n 1, 0, 0, 0, 0), (28, .invokevirtual 70, 0, 20, 1, 341), (31, .ifCond .ne 18, 0, 0, 0, 0), (34, .aload_n 0, 0, 0, 0, 0), (35, .getfield 23, 0, 4, 2, 173), (38, .iload_n 1, 0, 0, 0, 0), (39, .invokevirtual 70, 0, 20, 1, 341), (42, .ifCond .ne 7, 0, 0, 0, 0), (45, .iconst 1, 0, 0, 0, 0), (46, .goto 4, 0, 0, 0, 0), (49, .iconst 0, 0, 0, 0, 0), (50, .istore_n 2, 0, 0, 0, 0), (51, .iload_n 2, 0, 0, 0, 0), (52, .ifCond .eq 11, 0, 0, 0, 0), (55, .aload_n 0, 0, 0, 0, 0), (56, .iload_n 1, 0, 0, 0, 0), (57, .putfield 42, 0, 4, 8, 185), (60, .goto 40, 0, 0, 0, 0), (63, .aload_n 0, 0, 0, 0, 0), (64, .getfield 32, 0, 4, 5, 180), (67, .aload_n 0, 0, 0, 0, 0), (68, .getfield 45, 0, 4, 9, 187), (71, .iload_n 1, 0, 0, 0, 0), (72, .invokevirtual 98, 0, 21, 2, 353), (75, .aload_n 0, 0, 0, 0, 0), (76, .getfield 35, 0, 4, 6, 181), (79, .aload_n 0, 0, 0, 0, 0), (80, .getfield 45, 0, 4, 9, 187), (83, .aload_n 0, 0, 0, 0, 0), (84, .getfield 48, 0, 4, 10, 190), (87, .invokevirtual 98, 0, 21, 2, 353), (90, .aload_n 0, 0, 0, 0, 0), (91, .dup, 0, 0, 0, 0), (92, .getfield 45, 0, 4, 9, 187), (95, .iconst 1, 0, 0, 0, 0), (96, .iadd, 0, 0, 0, 0), (97, .putfield 45, 0, 4, 9, 187), (100, .aload_n 0, 0, 0, 0, 0), (101, .iconst 0, 0, 0, 0, 0), (102, .putfield 48, 0, 4, 10, 190), (105, .return_, 0, 0, 0, 0)]
def mC31 : List (Nat × Instr × Nat × Nat × Nat × Nat) := [(0, .aload_n 0, 0, 0, 0, 0), (1, .iconst 0, 0, 0, 0, 0), (2, .putfield 54, 0, 4, 12, 192), (5, .aload_n 0, 0, 0, 0, 0), (6, .iconst 0, 0, 0, 0, 0), (7, .putfield 57, 0, 4, 13, 194), (10, .iconst 0, 0, 0, 0, 0), (11, .istore_n 1, 0, 0, 0, 0), (12, .iload_n 1, 0, 0, 0, 0), (13, .aload_n 0, 0, 0, 0, 0), (14, .getfield 45, 0, 4, 9, 187), (17, .if_icmp .ge 58, 0, 0, 0, 0), (20, .aload_n 0, 0, 0, 0, 0), (21, .getfield 35, 0, 4, 6, 181), (24, .iload_n 1, 0, 0, 0, 0), (25, .invokevirtual 70, 0, 20, 1, 341), (28, .istore_n 2, 0, 0, 0, 0), (29, .aload_n 0, 0, 0, 0, 0), (30, .iload_n 2, 0, 0, 0, 0), (31, .invokevirtual 108, 0, 32, 1, 377), (34, .istore_n 3, 0, 0, 0, 0), (35, .iload_n 3, 0, 0, 0, 0), (36, .aload_n 0, 0, 0, 0, 0), (37, .getfield 57, 0, 4, 13, 194), (40, .if_icmp .gt 19, 0, 0, 0, 0), (43, .iload_n 3, 0, 0, 0, 0), (44, .aload_n 0, 0, 0, 0, 0), (45, .getfield 57, 0, 4, 13, 194), (48, .if_icmp .ne 21, 0, 0, 0, 0), (51, .iload_n 2, 0, 0, 0, 0), (52, .aload_n 0, 0, 0, 0, 0), (53, .getfield 54, 0, 4, 12, 192), (56, .if_icmp .le 13, 0, 0, 0, 0), (59, .aload_n 0, 0, 0, 0, 0), (60, .iload_n 2, 0, 0, 0, 0), (61, .putfield 54, 0, 4, 12, 192), (64, .aload_n 0, 0, 0, 0, 0), (65, .iload_n 3, 0, 0, 0, 0), (66, .putfield 57, 0, 4, 13, 194), (69, .iinc 1 1, 0, 0, 0, 0), (72, .goto (-60), 0, 0, 0, 0), (75, .return_, 0, 0, 0, 0)]
def mC32 : List (Nat × Instr × Nat × Nat × Nat × Nat) := [(0, .iconst 0, 0, 0, 0, 0), (1, .istore_n 2, 0, 0, 0, 0), (2, .iconst 0, 0, 0, 0, 0), (3, .istore_n 3, 0, 0, 0, 0), (4, .iload_n 3, 0, 0, 0, 0), (5, .aload_n 0, 0, 0, 0, 0), (6, .getfield 45, 0, 4, 9, 187), (9, .if_icmp .ge 24, 0, 0, 0, 0), (12, .aload_n 0, 0, 0, 0, 0), (13, .getfield 35, 0, 4, 6, 181), (16, .iload_n 3, 0, 0, 0, 0), (17, .invokevirtual 70, 0, 20, 1, 341), (20, .iload_n 1, 0, 0, 0, 0), (21, .if_icmp .ne 6, 0, 0, 0, 0), (24, .iinc 2 1, 0, 0, 0, 0), (27, .iinc 3 1, 0, 0, 0, 0), (30, .goto (-26), 0, 0, 0, 0), (33, .iload_n 2, 0, 0, 0, 0), (34, .ireturn, 0, 0, 0, 0)]
def mC33 : List (Nat × Instr × Nat × Nat × Nat × Nat) := [(0, .aload_n 0, 0, 0, 0, 0), (1, .getfield 54, 0, 4, 12, 192), (4, .bipush 20, 0, 0, 0, 0), (6, .invokestatic 102, 0, 205, 2, 370), (9, .ireturn, 0, 0, 0, 0)]
def mC34 : List (Nat × Instr × Nat × Nat × Nat × Nat) := [(0, .aload_n 0, 0, 0, 0, 0), (1, .invokevirtual 111, 0, 33, 0, 394), (4, .iconst 2, 0, 0, 0, 0), (5, .if_icmp .lt 11, 0, 0, 0, 0), (8, .aload_n 0, 0, 0, 0, 0), (9, .getfield 45, 0, 4, 9, 187), (12, .iconst 1, 0, 0, 0, 0), (13, .if_icmp .ge 5, 0, 0, 0, 0), (16, .iconst 0, 0, 0, 0, 0), (17, .ireturn, 0, 0, 0, 0), (18, .bipush 100, 0, 0, 0, 0), (20, .aload_n 0, 0, 0, 0, 0), (21, .getfield 57, 0, 4, 13, 194), (24, .imul, 0, 0, 0, 0), (25, .aload_n 0, 0, 0, 0, 0), (26, .getfield 45, 0, 4, 9, 187), (29, .idiv, 0, 0, 0, 0), (30, .aload_n 0, 0, 0, 0, 0), (31, .invokevirtual 111, 0, 33, 0, 394), (34, .iadd, 0, 0, 0, 0), (35, .ireturn, 0, 0, 0, 0)]
def mC35 : List (Nat × Instr × Nat × Nat × Nat × Nat) := [(0, .aload_n 0, 0, 0, 0, 0), (1, .getfield 35, 0, 4, 6, 181), (4, .iload_n 1, 0, 0, 0, 0), (5, .invokevirtual 70, 0, 20, 1, 341), (8, .bipush 20, 0, 0, 0, 0), (10, .invokestatic 102, 0, 205, 2, 370), (13, .ireturn, 0, 0, 0, 0)]
def mC36 : List (Nat × Instr × Nat × Nat × Nat × Nat) := [(0, .iload_n 1, 0, 0, 0, 0), (1, .ifCond .lt 24, 0, 0, 0, 0), (4, .iload_n 1, 0, 0, 0, 0), (5, .aload_n 0, 0, 0, 0, 0), (6, .getfield 45, 0, 4, 9, 187), (9, .if_icmp .ge 16, 0, 0, 0, 0), (12, .iload_n 2, 0, 0, 0, 0), (13, .ifCond .lt 12, 0, 0, 0, 0), (16, .iload_n 2, 0, 0, 0, 0), (17, .aload_n 0, 0, 0, 0, 0), (18, .iload_n 1, 0, 0, 0, 0), (19, .invokevirtual 115, 0, 35, 1, 476), (22, .if_icmp .lt 5, 0, 0, 0, 0), (25, .iconst (-1), 0, 0, 0, 0), (26, .ireturn, 0, 0, 0, 0), (27, .aload_n 0, 0, 0, 0, 0), (28, .getfield 32, 0, 4, 5, 180), (31, .iload_n 1, 0, 0, 0, 0), (32, .invokevirtual 70, 0, 20, 1, 341), (35, .iload_n 2, 0, 0, 0, 0), (36, .iadd, 0, 0, 0, 0), (37, .ireturn, 0, 0, 0, 0)]
def mC37 : List (Nat × Instr × Nat × Nat × Nat × Nat) := [(0, .aload_n 0, 0, 0, 0, 0), (1, .getfield 23, 0, 4, 2, 173), (4, .iload_n 1, 0, 0, 0, 0), (5, .invokevirtual 70, 0, 20, 1, 341), (8, .istore_n 3, 0, 0, 0, 0), (9, .iload_n 3, 0, 0, 0, 0), (10, .aload_n 0, 0, 0, 0, 0), (11, .getfield 23, 0, 4, 2, 173), (14, .iload_n 2, 0, 0, 0, 0), (15, .invokevirtual 70, 0, 20, 1, 341), (18, .if_icmp .eq 5, 0, 0, 0, 0), (21, .iconst 0, 0, 0, 0, 0), (22, .ireturn, 0, 0, 0, 0), (23, .aload_n 0, 0, 0, 0, 0), (24, .getfield 20, 0, 4, 1, 170), (27, .iload_n 1, 0, 0, 0, 0), (28, .invokevirtual 70, 0, 20, 1, 341), (31, .istore 4, 0, 0, 0, 0), (33, .aload_n 0, 0, 0, 0, 0), (34, .getfield 20, 0, 4, 1, 170), (37, .iload_n 2, 0, 0, 0, 0), (38, .invokevirtual 70, 0, 20, 1, 341), (41, .istore 5, 0, 0, 0, 0), (43, .iconst 0, 0, 0, 0, 0), (44, .istore 6, 0, 0, 0, 0), (46, .iload 6, 0, 0, 0, 0), (48, .iload_n 3, 0, 0, 0, 0), (49, .if_icmp .ge 38, 0, 0, 0, 0), (52, .aload_n 0, 0, 0, 0, 0), (53, .getfield 14, 0, 4, 0, 167), (56, .iload 4, 0, 0, 0, 0), (58, .iload 6, 0, 0, 0, 0), (60, .iadd, 0, 0, 0, 0), (61, .invokevirtual 70, 0, 20, 1, 341), (64, .aload_n 0, 0, 0, 0, 0), (65, .getfield 14, 0, 4, 0, 167), (68, .iload 5, 0, 0, 0, 0), (70, .iload 6, 0, 0, 0, 0), (72, .iadd, 0, 0, 0, 0), (73, .invokevirtual 70, 0, 20, 1, 341), (76, .if_icmp .eq 5, 0, 0, 0, 0), (79, .iconst 0, 0, 0, 0, 0), (80, .ireturn, 0, 0, 0, 0), (81, .iinc 6 1, 0, 0, 0, 0), (84, .goto (-38), 0, 0, 0, 0), (87, .iconst 1, 0, 0, 0, 0), (88, .ireturn, 0, 0, 0, 0)]
def mC38 : List (Nat × Instr × Nat × Nat × Nat × Nat) := [(0, .iconst 0, 0, 0, 0, 0), (1, .istore_n 1, 0, 0, 0, 0), (2, .iconst 0, 0, 0, 0, 0), (3, .istore_n 2, 0, 0, 0, 0), (4, .iload_n 2, 0, 0, 0, 0), (5, .aload_n 0, 0, 0, 0, 0), (6, .getfield 42, 0, 4, 8, 185), (9, .if_icmp .ge 20, 0, 0, 0, 0), (12, .iload_n 1, 0, 0, 0, 0), (13, .aload_n 0, 0, 0, 0, 0), (14, .getfield 26, 0, 4, 3, 176), (17, .iload_n 2, 0, 0, 0, 0), (18, .invokevirtual 70, 0, 20, 1, 341), (21, .iadd, 0, 0, 0, 0), (22, .istore_n 1, 0, 0, 0, 0), (23, .iinc 2 1, 0, 0, 0, 0), (26, .goto (-22), 0, 0, 0, 0), (29, .iload_n 1, 0, 0, 0, 0), (30, .ireturn, 0, 0, 0, 0)]
def mC39 : List (Nat × Instr × Nat × Nat × Nat × Nat) := [(0, .aload_n 0, 0, 0, 0, 0), (1, .invokespecial 3, 0, 998, 0, 158), (4, .aload_n 0, 0, 0, 0, 0), (5, .new 9, 0, 4, 0, 159), (8, .dup, 0, 0, 0, 0), (9, .invokespecial 11, 1, 22, 0, 1), (12, .putfield 12, 0, 5, 0, 249), (15, .aload_n 0, 0, 0, 0, 0), (16, .new 18, 0, 2, 0, 224), (19, .dup, 0, 0, 0, 0), (20, .invokespecial 20, 1, 0, 0, 2), (23, .putfield 21, 0, 5, 1, 251), (26, .aload_n 0, 0, 0, 0, 0), (27, .new 25, 0, 3, 0, 247), (30, .dup, 0, 0, 0, 0), (31, .bipush 60, 0, 0, 0, 0), (33, .invokespecial 27, 0, 19, 1, 248), (36, .putfield 30, 0, 5, 2, 253), (39, .aload_n 0, 0, 0, 0, 0), (40, .new 25, 0, 3, 0, 247), (43, .dup, 0, 0, 0, 0), (44, .sipush 501, 0, 0, 0, 0), (47, .invokespecial 27, 0, 19, 1, 248), (50, .putfield 34, 0, 5, 3, 255), (53, .aload_n 0, 0, 0, 0, 0), (54, .new 25, 0, 3, 0, 247), (57, .dup, 0, 0, 0, 0), (58, .sipush 501, 0, 0, 0, 0), (61, .invokespecial 27, 0, 19, 1, 248), (64, .putfield 37, 0, 5, 4, 256), (67, .aload_n 0, 0, 0, 0, 0), (68, .new 25, 0, 3, 0, 247), (71, .dup, 0, 0, 0, 0), (72, .sipush 501, 0, 0, 0, 0), (75, .invokespecial 27, 0, 19, 1, 248), (78, .putfield 40, 0, 5, 5, 257), (81, .aload_n 0, 0, 0, 0, 0), (82, .new 25, 0, 3, 0, 247), (85, .dup, 0, 0, 0, 0), (86, .bipush 20, 0, 0, 0, 0), (88, .invokespecial 27, 0, 19, 1, 248), (91, .putfield 43, 0, 5, 6, 258), (94, .aload_n 0, 0, 0, 0, 0), (95, .new 25, 0, 3, 0, 247), (98, .dup, 0, 0, 0, 0), (99, .bipush 6, 0, 0, 0, 0), (101, .invokespecial 27, 0, 19, 1, 248), (104, .putfield 46, 0, 5, 7, 259), (107, .aload_n 0, 0, 0, 0, 0), (108, .iconst 0, 0, 0, 0, 0), (109, .putfield 49, 0, 5, 9, 261), (112, .aload_n 0, 0, 0, 0, 0), (113, .iconst 0, 0, 0, 0, 0), (114, .putfield 53, 0, 5, 10, 262), (117, .aload_n 0, 0, 0, 0, 0), (118, .iconst 0, 0, 0, 0, 0), (119, .putfield 56, 0, 5, 11, 264), (122, .aload_n 0, 0, 0, 0, 0), (123, .iconst 0, 0, 0, 0, 0), (124, .putfield 59, 0, 5, 12, 266), (127, .aload_n 0, 0, 0, 0, 0), (128, .iload_n 1, 0, 0, 0, 0), (129, .putfield 63, 0, 5, 8, 260), (132, .return_, 0, 0, 0, 0)]
def mC40 : List (Nat × Instr × Nat × Nat × Nat × Nat) := [(0, .aload_n 0, 0, 0, 0, 0), (1, .getfield 59, 0, 5, 12, 266), (4, .ifCond .eq 4, 0, 0, 0, 0), (7, .return_, 0, 0, 0, 0), (8, .aload_n 0, 0, 0, 0, 0), (9, .aload_n 1, 0, 0, 0, 0), (10, .getfield 66, 0, 7, 0, 139), (13, .iconst 1, 0, 0, 0, 0), (14, .invokevirtual 71, 0, 20, 1, 406), (17, .iconst (-1), 0, 0, 0, 0), (18, .if_icmp .ne 10, 0, 0, 0, 0), (21, .aload_n 0, 0, 0, 0, 0), (22, .invokevirtual 75, 0, 41, 0, 407), (25, .goto 11, 0, 0, 0, 0), (28, .aload_n 1, 0, 0, 0, 0), (29, .getfield 66, 0, 7, 0, 139), (32, .iconst 1, 0, 0, 0, 0), (33, .invokevirtual 71, 0, 20, 1, 406), (36, .putfield 49, 0, 5, 9, 261), (39, .iconst 0, 0, 0, 0, 0), (40, .istore_n 2, 0, 0, 0, 0), (41, .iload_n 2, 0, 0, 0, 0), (42, .aload_n 0, 0, 0, 0, 0), (43, .getfield 12, 0, 5, 0, 249), (46, .getfield 79, 0, 4, 8, 186), (49, .if_icmp .ge 14, 0, 0, 0, 0), (52, .aload_n 0, 0, 0, 0, 0), (53, .iload_n 2, 0, 0, 0, 0), (54, .invokevirtual 82, 0, 42, 1, 421), (57, .iinc 2 1, 0, 0, 0, 0), (60, .goto (-19), 0, 0, 0, 0), (63, .aload_n 0, 0, 0, 0, 0), (64, .aload_n 1, 0, 0, 0, 0), (65, .getfield 66, 0, 7, 0, 139), (68, .iconst 2, 0, 0, 0, 0), (69, .invokevirtual 71, 0, 20, 1, 406), (72, .iconst (-1), 0, 0, 0, 0), (73, .if_icmp .ne 14, 0, 0, 0, 0), (76, .aload_n 0, 0, 0, 0, 0), (77, .aload_n 1, 0, 0, 0, 0), (78, .getfield 85, 0, 7, 2, 144), (81, .invokevirtual 88, 0, 43, 1, 464), (84, .goto 11, 0, 0, 0, 0), (87, .aload_n 1, 0, 0, 0, 0), (88, .getfield 66, 0, 7, 0, 139), (91, .iconst 2, 0, 0, 0, 0), (92, .invokevirtual 71, 0, 20, 1, 406), (95, .putfield 53, 0, 5, 10, 262), (98, .iconst 0, 0, 0, 0, 0), (99, .istore_n 2, 0, 0, 0, 0), (100, .iload_n 2, 0, 0, 0, 0), (101, .aload_n 0, 0, 0, 0, 0), (102, .getfield 12, 0, 5, 0, 249), (105, .invokevirtual 91, 0, 33, 0, 477), (108, .if_icmp .ge 39, 0, 0, 0, 0), (111, .aload_n 0, 0, 0, 0, 0), (112, .iload_n 2, 0, 0, 0, 0), (113, .aload_n 0, 0, 0, 0, 0), (114, .getfield 53, 0, 5, 10, 262), (117, .invokevirtual 94, 0, 44, 2, 478), (120, .aload_n 0, 0, 0, 0, 0), (121, .getfield 43, 0, 5, 6, 258), (124, .iload_n 2, 0, 0, 0, 0), (125, .aload_n 0, 0, 0, 0, 0), (126, .aload_n 1, 0, 0, 0, 0), (127, .getfield 85, 0, 7, 2, 144), (130, .invokevirtual 98, 0, 46, 1, 482), (133, .invokevirtual 101, 0, 21, 2, 463), (136, .aload_n 0, 0, 0, 0, 0), (137, .iload_n 2, 0, 0, 0, 0), (138, .invokevirtual 104, 0, 47, 1, 490), (141, .iinc 2 1, 0, 0, 0, 0), (144, .goto (-44), 0, 0, 0, 0), (147, .aload_n 0, 0, 0, 0, 0), (148, .getfield 21, 0, 5, 1, 251), (151, .iconst 0, 0, 0, 0, 0), (152, .putfield 107, 0, 2, 3, 236), (155, .aload_n 0, 0, 0, 0, 0), (156, .iconst 0, 0, 0, 0, 0), (157, .putfield 56, 0, 5, 11, 264), (160, .aload_n 0, 0, 0, 0, 0), (161, .getfield 53, 0, 5, 10, 262), (164, .istore_n 2, 0, 0, 0, 0), (165, .iload_n 2, 0, 0, 0, 0), (166, .aload_n 0, 0, 0, 0, 0), (167, .getfield 12, 0, 5, 0, 249), (170, .getfield 110, 0, 4, 9, 188), (173, .if_icmp .ge 39, 0, 0, 0, 0), (176, .aload_n 0, 0, 0, 0, 0), (177, .getfield 21, 0, 5, 1, 251), (180, .getfield 107, 0, 2, 3, 236), (183, .istore_n 3, 0, 0, 0, 0), (184, .aload_n 0, 0, 0, 0, 0), (185, .aload_n 1, 0, 0, 0, 0), (186, .iload_n 2, 0, 0, 0, 0), (187, .invokevirtual 113, 0, 49, 2, 502), (190, .aload_n 0, 0, 0, 0, 0), (191, .getfield 21, 0, 5, 1, 251), (194, .getfield 107, 0, 2, 3, 236), (197, .iload_n 3, 0, 0, 0, 0), (198, .if_icmp .ne 8, 0, 0, 0, 0), (201, .aload_n 0, 0, 0, 0, 0), (202, .iload_n 2, 0, 0, 0, 0), (203, .invokevirtual 117, 0, 52, 1, 528), (206, .iinc 2 1, 0, 0, 0, 0), (209, .goto (-44), 0, 0, 0, 0), (212, .aload_n 0, 0, 0, 0, 0), (213, .iconst 1, 0, 0, 0, 0), (214, .putfield 59, 0, 5, 12, 266), (217, .return_, 0, 0, 0, 0)]
def mC41 : List (Nat × Instr × Nat × Nat × Nat × Nat) := [(0, .iconst 0, 0, 0, 0, 0), (1, .istore_n 1, 0, 0, 0, 0), (2, .iconst 0, 0, 0, 0, 0), (3, .istore_n 2, 0, 0, 0, 0), (4, .iconst 0, 0, 0, 0, 0), (5, .istore_n 3, 0, 0, 0, 0), (6, .iload_n 3, 0, 0, 0, 0), (7, .aload_n 0, 0, 0, 0, 0), (8, .getfield 12, 0, 5, 0, 249), (11, .getfield 79, 0, 4, 8, 186), (14, .if_icmp .ge 81, 0, 0, 0, 0), (17, .aload_n 0, 0, 0, 0, 0), (18, .getfield 12, 0, 5, 0, 249), (21, .getfield 120, 0, 4, 1, 171), (24, .iload_n 3, 0, 0, 0, 0), (25, .invokevirtual 71, 0, 20, 1, 406), (28, .istore 4, 0, 0, 0, 0), (30, .iload 4, 0, 0, 0, 0), (32, .aload_n 0, 0, 0, 0, 0), (33, .getfield 12, 0, 5, 0, 249), (36, .getfield 123, 0, 4, 2, 174), (39, .iload_n 3, 0, 0, 0, 0), (40, .invokevirtual 71, 0, 20, 1, 406), (43, .iadd, 0, 0, 0, 0), (44, .istore 5, 0, 0, 0, 0), (46, .aload_n 0, 0, 0, 0, 0), (47, .getfield 12, 0, 5, 0, 249), (50, .getfield 126, 0, 4, 0, 168), (53, .iload 4, 0, 0, 0, 0), (55, .iload 5, 0, 0, 0, 0), (57, .bipush 7, 0, 0, 0, 0), (59, .invokestatic 129, 0, 5, 4, 411), (62, .ifCond .eq 6, 0, 0, 0, 0), (65, .iinc 1 1, 0, 0, 0, 0), (68, .aload_n 0, 0, 0, 0, 0), (69, .getfield 12, 0, 5, 0, 249), (72, .getfield 126, 0, 4, 0, 168), (75, .iload 4, 0, 0, 0, 0), (77, .iload 5, 0, 0, 0, 0), (79, .iconst 0, 0, 0, 0, 0), (80, .invokestatic 129, 0, 5, 4, 411), (83, .ifCond .eq 6, 0, 0, 0, 0), (86, .iinc 2 1, 0, 0, 0, 0), (89, .iinc 3 1, 0, 0, 0, 0), (92, .goto (-86), 0, 0, 0, 0), (95, .iload_n 2, 0, 0, 0, 0), (96, .iload_n 1, 0, 0, 0, 0), (97, .if_icmp .le 7, 0, 0, 0, 0), (100, .iconst 1, 0, 0, 0, 0), (101, .goto 4, 0, 0, 0, 0), (104, .iconst 0, 0, 0, 0, 0), (105, .ireturn, 0, 0, 0, 0)]
def mC42 : List (Nat × Instr × Nat × Nat × Nat × Nat) := [(0, .aload_n 0, 0, 0, 0, 0), (1, .getfield 12, 0, 5, 0, 249), (4, .getfield 126, 0, 4, 0, 168), (7, .astore_n 2, 0, 0, 0, 0), (8, .aload_n 0, 0, 0, 0, 0), (9, .getfield 12, 0, 5, 0, 249), (12, .getfield 120, 0, 4, 1, 171), (15, .iload_n 1, 0, 0, 0, 0), (16, .invokevirtual 71, 0, 20, 1, 406), (19, .istore_n 3, 0, 0, 0, 0), (20, .aload_n 0, 0, 0, 0, 0), (21, .getfield 12, 0, 5, 0, 249), (24, .getfield 123, 0, 4, 2, 174), (27, .iload_n 1, 0, 0, 0, 0), (28, .invokevirtual 71, 0, 20, 1, 406), (31, .istore 4, 0, 0, 0, 0), (33, .iload_n 3, 0, 0, 0, 0), (34, .iload 4, 0, 0, 0, 0), (36, .iadd, 0, 0, 0, 0), (37, .istore 5, 0, 0, 0, 0), (39, .aload_n 2, 0, 0, 0, 0), (40, .iload_n 3, 0, 0, 0, 0), (41, .iload 5, 0, 0, 0, 0), (43, .invokestatic 135, 0, 9, 3, 425), (46, .istore 6, 0, 0, 0, 0), (48, .iconst 5, 0, 0, 0, 0), (49, .istore 7, 0, 0, 0, 0), (51, .iload_n 3, 0, 0, 0, 0), (52, .iload 5, 0, 0, 0, 0), (54, .if_icmp .ne 9, 0, 0, 0, 0), (57, .iconst 0, 0, 0, 0, 0), (58, .istore 7, 0, 0, 0, 0), (60, .goto 112, 0, 0, 0, 0), (63, .aload_n 2, 0, 0, 0, 0), (64, .iload_n 3, 0, 0, 0, 0), (65, .iload 5, 0, 0, 0, 0), (67, .invokestatic 139, 0, 4, 3, 451), (70, .ifCond .eq 18, 0, 0, 0, 0), (73, .iconst 1, 0, 0, 0, 0), (74, .istore 7, 0, 0, 0, 0), (76, .aload_n 2, 0, 0, 0, 0), (77, .iload_n 3, 0, 0, 0, 0), (78, .iload 5, 0, 0, 0, 0), (80, .invokestatic 143, 0, 7, 3, 454), (83, .istore 4, 0, 0, 0, 0), (85, .goto 87, 0, 0, 0, 0), (88, .aload_n 2, 0, 0, 0, 0), (89, .iload_n 3, 0, 0, 0, 0), (90, .iload 5, 0, 0, 0, 0), (92, .aload_n 0, 0, 0, 0, 0), (93, .getfield 49, 0, 5, 9, 261), (96, .ifCond .ne 8, 0, 0, 0, 0), (99, .bipush 7, 0, 0, 0, 0), (101, .goto 4, 0, 0, 0, 0), (104, .iconst 0, 0, 0, 0, 0), (105, .invokestatic 129, 0, 5, 4, 411), (108, .ifCond .eq 18, 0, 0, 0, 0), (111, .iconst 2, 0, 0, 0, 0), (112, .istore 7, 0, 0, 0, 0), (114, .aload_n 2, 0, 0, 0, 0), (115, .iload_n 3, 0, 0, 0, 0), (116, .iload 5, 0, 0, 0, 0), (118, .invokestatic 146, 0, 8, 3, 457), (121, .istore 4, 0, 0, 0, 0), (123, .goto 49, 0, 0, 0, 0), (126, .iload 6, 0, 0, 0, 0), (128, .iconst (-1), 0, 0, 0, 0), (129, .if_icmp .eq 13, 0, 0, 0, 0), (132, .iconst 3, 0, 0, 0, 0), (133, .istore 7, 0, 0, 0, 0), (135, .iload 6, 0, 0, 0, 0), (137, .istore 4, 0, 0, 0, 0), (139, .goto 33, 0, 0, 0, 0), (142, .aload_n 2, 0, 0, 0, 0), (143, .iload_n 3, 0, 0, 0, 0), (144, .iload 5, 0, 0, 0, 0), (146, .invokestatic 149, 0, 6, 3, 460), (149, .ifCond .eq 23, 0, 0, 0, 0), (152, .iconst 4, 0, 0, 0, 0), (153, .istore 7, 0, 0, 0, 0), (155, .aload_n 2, 0, 0, 0, 0), (156, .iload_n 3, 0, 0, 0, 0), (157, .invokevirtual 71, 0, 20, 1, 406), (160, .bipush 44, 0, 0, 0, 0), (162, .if_icmp .ne 7, 0, 0, 0, 0), (165, .iconst 1, 0, 0, 0, 0), (166, .goto 4, 0, 0, 0, 0), (169, .iconst 0, 0, 0, 0, 0), (170, .istore 4, 0, 0, 0, 0), (172, .aload_n 0, 0, 0, 0, 0), (173, .getfield 34, 0, 5, 3, 255), (176, .iload_n 1, 0, 0, 0, 0), (177, .iload 7, 0, 0, 0, 0), (179, .invokevirtual 101, 0, 21, 2, 463), (182, .aload_n 0, 0, 0, 0, 0), (183, .getfield 37, 0, 5, 4, 256), (186, .iload_n 1, 0, 0, 0, 0), (187, .iload 4, 0, 0, 0, 0), (189, .invokevirtual 101, 0, 21, 2, 463), (192, .return_, 0, 0, 0, 0)]
def mC43 : List (Nat × Instr × Nat × Nat × Nat × Nat) := [(0, .aload_n 0, 0, 0, 0, 0), (1, .getfield 12, 0, 5, 0, 249), (4, .getfield 110, 0, 4, 9, 188), (7, .iconst 2, 0, 0, 0, 0), (8, .if_icmp .lt 24, 0, 0, 0, 0), (11, .aload_n 0, 0, 0, 0, 0), (12, .getfield 12, 0, 5, 0, 249), (15, .getfield 152, 0, 4, 6, 182), (18, .iconst 0, 0, 0, 0, 0), (19, .invokevirtual 71, 0, 20, 1, 406), (22, .aload_n 0, 0, 0, 0, 0), (23, .getfield 12, 0, 5, 0, 249), (26, .getfield 155, 0, 4, 12, 193), (29, .if_icmp .eq 5, 0, 0, 0, 0), (32, .iconst 0, 0, 0, 0, 0), (33, .ireturn, 0, 0, 0, 0), (34, .iconst 0, 0, 0, 0, 0), (35, .istore_n 2, 0, 0, 0, 0), (36, .iload_n 2, 0, 0, 0, 0), (37, .aload_n 0, 0, 0, 0, 0), (38, .getfield 12, 0, 5, 0, 249), (41, .iconst 0, 0, 0, 0, 0), (42, .invokevirtual 158, 0, 35, 1, 468), (45, .if_icmp .ge 31, 0, 0, 0, 0), (48, .aload_n 0, 0, 0, 0, 0), (49, .getfield 34, 0, 5, 3, 255), (52, .aload_n 0, 0, 0, 0, 0), (53, .getfield 12, 0, 5, 0, 249), (56, .iconst 0, 0, 0, 0, 0), (57, .iload_n 2, 0, 0, 0, 0), (58, .invokevirtual 161, 0, 36, 2, 472), (61, .invokevirtual 71, 0, 20, 1, 406), (64, .iconst 5, 0, 0, 0, 0), (65, .if_icmp .eq 5, 0, 0, 0, 0), (68, .iconst 0, 0, 0, 0, 0), (69, .ireturn, 0, 0, 0, 0), (70, .iinc 2 1, 0, 0, 0, 0), (73, .goto (-37), 0, 0, 0, 0), (76, .iconst 0, 0, 0, 0, 0), (77, .istore_n 2, 0, 0, 0, 0), (78, .iload_n 2, 0, 0, 0, 0), (79, .aload_n 0, 0, 0, 0, 0), (80, .getfield 12, 0, 5, 0, 249), (83, .invokevirtual 91, 0, 33, 0, 477), (86, .if_icmp .ge 32, 0, 0, 0, 0), (89, .aload_n 0, 0, 0, 0, 0), (90, .iload_n 2, 0, 0, 0, 0), (91, .iconst 1, 0, 0, 0, 0), (92, .invokevirtual 94, 0, 44, 2, 478), (95, .aload_n 0, 0, 0, 0, 0), (96, .iload_n 1, 0, 0, 0, 0), (97, .invokevirtual 98, 0, 46, 1, 482), (100, .istore_n 3, 0, 0, 0, 0), (101, .iload_n 3, 0, 0, 0, 0), (102, .iconst 5, 0, 0, 0, 0), (103, .if_icmp .eq 9, 0, 0, 0, 0), (106, .iload_n 3, 0, 0, 0, 0), (107, .ifCond .eq 5, 0, 0, 0, 0), (110, .iconst 1, 0, 0, 0, 0), (111, .ireturn, 0, 0, 0, 0), (112, .iinc 2 1, 0, 0, 0, 0), (115, .goto (-37), 0, 0, 0, 0), (118, .iconst 0, 0, 0, 0, 0), (119, .ireturn, 0, 0, 0, 0)]
def mC44 : List (Nat × Instr × Nat × Nat × Nat × Nat) := [(0, .iconst 0, 0, 0, 0, 0), (1, .istore_n 3, 0, 0, 0, 0), (2, .iload_n 3, 0, 0, 0, 0), (3, .bipush 6, 0, 0, 0, 0), (5, .if_icmp .ge 18, 0, 0, 0, 0), (8, .aload_n 0, 0, 0, 0, 0), (9, .getfield 46, 0, 5, 7, 259), (12, .iload_n 3, 0, 0, 0, 0), (13, .iconst 0, 0, 0, 0, 0), (14, .invokevirtual 101, 0, 21, 2, 463), (17, .iinc 3 1, 0, 0, 0, 0), (20, .goto (-18), 0, 0, 0, 0), (23, .iload_n 2, 0, 0, 0, 0), (24, .istore_n 3, 0, 0, 0, 0), (25, .iload_n 3, 0, 0, 0, 0), (26, .aload_n 0, 0, 0, 0, 0), (27, .getfield 12, 0, 5, 0, 249), (30, .getfield 110, 0, 4, 9, 188), (33, .if_icmp .ge 57, 0, 0, 0, 0), (36, .aload_n 0, 0, 0, 0, 0), (37, .getfield 12, 0, 5, 0, 249), (40, .iload_n 3, 0, 0, 0, 0), (41, .iload_n 1, 0, 0, 0, 0), (42, .invokevirtual 161, 0, 36, 2, 472), (45, .istore 4, 0, 0, 0, 0), (47, .iload 4, 0, 0, 0, 0), (49, .iconst (-1), 0, 0, 0, 0), (50, .if_icmp .eq 34, 0, 0, 0, 0), (53, .aload_n 0, 0, 0, 0, 0), (54, .getfield 34, 0, 5, 3, 255), (57, .iload 4, 0, 0, 0, 0), (59, .invokevirtual 71, 0, 20, 1, 406), (62, .istore 5, 0, 0, 0, 0), (64, .aload_n 0, 0, 0, 0, 0), (65, .getfield 46, 0, 5, 7, 259), (68, .iload 5, 0, 0, 0, 0), (70, .aload_n 0, 0, 0, 0, 0), (71, .getfield 46, 0, 5, 7, 259), (74, .iload 5, 0, 0, 0, 0), (76, .invokevirtual 71, 0, 20, 1, 406), (79, .iconst 1, 0, 0, 0, 0), (80, .iadd, 0, 0, 0, 0), (81, .invokevirtual 101, 0, 21, 2, 463), (84, .iinc 3 1, 0, 0, 0, 0), (87, .goto (-62), 0, 0, 0, 0), (90, .return_, 0, 0, 0, 0)]
def mC45 : List (Nat × Instr × Nat × Nat × Nat × Nat) := [(0, .iconst 0, 0, 0, 0, 0), (1, .istore_n 1, 0, 0, 0, 0), (2, .iconst 1, 0, 0, 0, 0), (3, .istore_n 2, 0, 0, 0, 0), (4, .iload_n 2, 0, 0, 0, 0), (5, .bipush 6, 0, 0, 0, 0), (7, .if_icmp .ge 20, 0, 0, 0, 0), (10, .iload_n 1, 0, 0, 0, 0), (11, .aload_n 0, 0, 0, 0, 0), (12, .getfield 46, 0, 5, 7, 259), (15, .iload_n 2, 0, 0, 0, 0), (16, .invokevirtual 71, 0, 20, 1, 406), (19, .iadd, 0, 0, 0, 0), (20, .istore_n 1, 0, 0, 0, 0), (21, .iinc 2 1, 0, 0, 0, 0), (24, .goto (-20), 0, 0, 0, 0), (27, .iload_n 1, 0, 0, 0, 0), (28, .ireturn, 0, 0, 0, 0)]
def mC46 : List (Nat × Instr × Nat × Nat × Nat × Nat) := [(0, .aload_n 0, 0, 0, 0, 0), (1, .invokevirtual 165, 0, 45, 0, 486), (4, .istore_n 2, 0, 0, 0, 0), (5, .iload_n 2, 0, 0, 0, 0), (6, .ifCond .ne 5, 0, 0, 0, 0), (9, .iconst 0, 0, 0, 0, 0), (10, .ireturn, 0, 0, 0, 0), (11, .iconst 1, 0, 0, 0, 0), (12, .istore_n 3, 0, 0, 0, 0), (13, .aload_n 0, 0, 0, 0, 0), (14, .getfield 46, 0, 5, 7, 259), (17, .iconst 1, 0, 0, 0, 0), (18, .invokevirtual 71, 0, 20, 1, 406), (21, .istore 4, 0, 0, 0, 0), (23, .iconst 2, 0, 0, 0, 0), (24, .istore 5, 0, 0, 0, 0), (26, .iload 5, 0, 0, 0, 0), (28, .iconst 4, 0, 0, 0, 0), (29, .if_icmp .gt 58, 0, 0, 0, 0), (32, .aload_n 0, 0, 0, 0, 0), (33, .getfield 46, 0, 5, 7, 259), (36, .iload 5, 0, 0, 0, 0), (38, .invokevirtual 71, 0, 20, 1, 406), (41, .istore 6, 0, 0, 0, 0), (43, .iload 5, 0, 0, 0, 0), (45, .iconst 2, 0, 0, 0, 0), (46, .if_icmp .ne 21, 0, 0, 0, 0), (49, .iload 6, 0, 0, 0, 0), (51, .ifCond .le 16, 0, 0, 0, 0), (54, .iload 6, 0, 0, 0, 0), (56, .aload_n 0, 0, 0, 0, 0), (57, .getfield 46, 0, 5, 7, 259), (60, .iconst 1, 0, 0, 0, 0), (61, .invokevirtual 71, 0, 20, 1, 406), (64, .iadd, 0, 0, 0, 0), (65, .istore 6, 0, 0, 0, 0), (67, .iload 6, 0, 0, 0, 0), (69, .iload 4, 0, 0, 0, 0), (71, .if_icmp .le 10, 0, 0, 0, 0), (74, .iload 5, 0, 0, 0, 0), (76, .istore_n 3, 0, 0, 0, 0), (77, .iload 6, 0, 0, 0, 0), (79, .istore 4, 0, 0, 0, 0), (81, .iinc 5 1, 0, 0, 0, 0), (84, .goto (-58), 0, 0, 0, 0), (87, .iload 4, 0, 0, 0, 0), (89, .bipush 100, 0, 0, 0, 0), (91, .imul, 0, 0, 0, 0), (92, .iload_n 1, 0, 0, 0, 0), (93, .iload_n 2, 0, 0, 0, 0), (94, .imul, 0, 0, 0, 0), (95, .if_icmp .lt 7, 0, 0, 0, 0), (98, .iload_n 3, 0, 0, 0, 0), (99, .goto 4, 0, 0, 0, 0), (102, .iconst 5, 0, 0, 0, 0), (103, .ireturn, 0, 0, 0, 0)]
def mC47 : List (Nat × Instr × Nat × Nat × Nat × Nat) := [(0, .aload_n 0, 0, 0, 0, 0), (1, .getfield 53, 0, 5, 10, 262), (4, .istore_n 2, 0, 0, 0, 0), (5, .iload_n 2, 0, 0, 0, 0), (6, .aload_n 0, 0, 0, 0, 0), (7, .getfield 12, 0, 5, 0, 249), (10, .getfield 110, 0, 4, 9, 188), (13, .if_icmp .ge 58, 0, 0, 0, 0), (16, .aload_n 0, 0, 0, 0, 0), (17, .getfield 12, 0, 5, 0, 249), (20, .iload_n 2, 0, 0, 0, 0), (21, .iload_n 1, 0, 0, 0, 0), (22, .invokevirtual 161, 0, 36, 2, 472), (25, .istore_n 3, 0, 0, 0, 0), (26, .iload_n 3, 0, 0, 0, 0), (27, .iconst (-1), 0, 0, 0, 0), (28, .if_icmp .eq 37, 0, 0, 0, 0), (31, .aload_n 0, 0, 0, 0, 0), (32, .getfield 40, 0, 5, 5, 257), (35, .iload_n 3, 0, 0, 0, 0), (36, .aload_n 0, 0, 0, 0, 0), (37, .getfield 34, 0, 5, 3, 255), (40, .iload_n 3, 0, 0, 0, 0), (41, .invokevirtual 71, 0, 20, 1, 406), (44, .ifCond .eq 17, 0, 0, 0, 0), (47, .aload_n 0, 0, 0, 0, 0), (48, .iload_n 2, 0, 0, 0, 0), (49, .iload_n 1, 0, 0, 0, 0), (50, .iload_n 3, 0, 0, 0, 0), (51, .invokevirtual 168, 0, 48, 3, 494), (54, .ifCond .eq 7, 0, 0, 0, 0), (57, .iconst 1, 0, 0, 0, 0), (58, .goto 4, 0, 0, 0, 0), (61, .iconst 0, 0, 0, 0, 0), (62, .invokevirtual 101, 0, 21, 2, 463), (65, .iinc 2 1, 0, 0, 0, 0), (68, .goto (-63), 0, 0, 0, 0), (71, .return_, 0, 0, 0, 0)]
def mC48 : List (Nat × Instr × Nat × Nat × Nat × Nat) := [(0, .aload_n 0, 0, 0, 0, 0), (1, .getfield 53, 0, 5, 10, 262), (4, .istore 4, 0, 0, 0, 0), (6, .iload 4, 0, 0, 0, 0), (8, .iload_n 1, 0, 0, 0, 0), (9, .if_icmp .ge 42, 0, 0, 0, 0), (12, .aload_n 0, 0, 0, 0, 0), (13, .getfield 12, 0, 5, 0, 249), (16, .iload 4, 0, 0, 0, 0), (18, .iload_n 2, 0, 0, 0, 0), (19, .invokevirtual 161, 0, 36, 2, 472), (22, .istore 5, 0, 0, 0, 0), (24, .iload 5, 0, 0, 0, 0), (26, .iconst (-1), 0, 0, 0, 0), (27, .if_icmp .eq 18, 0, 0, 0, 0), (30, .aload_n 0, 0, 0, 0, 0), (31, .getfield 12, 0, 5, 0, 249), (34, .iload 5, 0, 0, 0, 0), (36, .iload_n 3, 0, 0, 0, 0), (37, .invokevirtual 172, 0, 37, 2, 498), (40, .ifCond .eq 5, 0, 0, 0, 0), (43, .iconst 1, 0, 0, 0, 0), (44, .ireturn, 0, 0, 0, 0), (45, .iinc 4 1, 0, 0, 0, 0), (48, .goto (-42), 0, 0, 0, 0), (51, .iconst 0, 0, 0, 0, 0), (52, .ireturn, 0, 0, 0, 0)]
def mC49 : List (Nat × Instr × Nat × Nat × Nat × Nat) := [(0, .aload_n 0, 0, 0, 0, 0), (1, .getfield 12, 0, 5, 0, 249), (4, .getfield 152, 0, 4, 6, 182), (7, .iload_n 2, 0, 0, 0, 0), (8, .invokevirtual 71, 0, 20, 1, 406), (11, .istore_n 3, 0, 0, 0, 0), (12, .iload_n 3, 0, 0, 0, 0), (13, .aload_n 0, 0, 0, 0, 0), (14, .getfield 12, 0, 5, 0, 249), (17, .getfield 155, 0, 4, 12, 193), (20, .if_icmp .eq 28, 0, 0, 0, 0), (23, .aload_n 0, 0, 0, 0, 0), (24, .getfield 21, 0, 5, 1, 251), (27, .iload_n 2, 0, 0, 0, 0), (28, .iconst (-1), 0, 0, 0, 0), (29, .iload_n 3, 0, 0, 0, 0), (30, .aload_n 0, 0, 0, 0, 0), (31, .getfield 12, 0, 5, 0, 249), (34, .getfield 155, 0, 4, 12, 193), (37, .if_icmp .ge 7, 0, 0, 0, 0), (40, .iconst 4, 0, 0, 0, 0), (41, .goto 4, 0, 0, 0, 0), (44, .iconst 5, 0, 0, 0, 0), (45, .invokevirtual 176, 0, 1, 3, 506), (48, .iconst 0, 0, 0, 0, 0), (49, .istore 4, 0, 0, 0, 0), (51, .iload 4, 0, 0, 0, 0), (53, .aload_n 0, 0, 0, 0, 0), (54, .getfield 12, 0, 5, 0, 249), (57, .invokevirtual 91, 0, 33, 0, 477), (60, .if_icmp .ge 59, 0, 0, 0, 0), (63, .aload_n 0, 0, 0, 0, 0), (64, .getfield 12, 0, 5, 0, 249), (67, .iload_n 2, 0, 0, 0, 0), (68, .iload 4, 0, 0, 0, 0), (70, .invokevirtual 161, 0, 36, 2, 472), (73, .istore 5, 0, 0, 0, 0), (75, .iload 5, 0, 0, 0, 0), (77, .iconst (-1), 0, 0, 0, 0), (78, .if_icmp .ne 7, 0, 0, 0, 0), (81, .iconst 0, 0, 0, 0, 0), (82, .goto 12, 0, 0, 0, 0), (85, .aload_n 0, 0, 0, 0, 0), (86, .aload_n 1, 0, 0, 0, 0), (87, .iload 4, 0, 0, 0, 0), (89, .iload 5, 0, 0, 0, 0), (91, .invokevirtual 180, 0, 50, 3, 511), (94, .istore 6, 0, 0, 0, 0), (96, .iload 6, 0, 0, 0, 0), (98, .ifCond .eq 15, 0, 0, 0, 0), (101, .aload_n 0, 0, 0, 0, 0), (102, .getfield 21, 0, 5, 1, 251), (105, .iload_n 2, 0, 0, 0, 0), (106, .iload 4, 0, 0, 0, 0), (108, .iload 6, 0, 0, 0, 0), (110, .invokevirtual 176, 0, 1, 3, 506), (113, .iinc 4 1, 0, 0, 0, 0), (116, .goto (-65), 0, 0, 0, 0), (119, .return_, 0, 0, 0, 0)]
def mC50 : List (Nat × Instr × Nat × Nat × Nat × Nat) := [(0, .aload_n 0, 0, 0, 0, 0), (1, .getfield 12, 0, 5, 0, 249), (4, .getfield 184, 0, 4, 4, 179), (7, .iload_n 3, 0, 0, 0, 0), (8, .invokevirtual 71, 0, 20, 1, 406), (11, .ifCond .eq 15, 0, 0, 0, 0), (14, .aload_n 0, 0, 0, 0, 0), (15, .getfield 12, 0, 5, 0, 249), (18, .getfield 184, 0, 4, 4, 179), (21, .iload_n 3, 0, 0, 0, 0), (22, .invokevirtual 71, 0, 20, 1, 406), (25, .ireturn, 0, 0, 0, 0), (26, .aload_n 0, 0, 0, 0, 0), (27, .iload_n 3, 0, 0, 0, 0), (28, .aload_n 0, 0, 0, 0, 0), (29, .getfield 43, 0, 5, 6, 258), (32, .iload_n 2, 0, 0, 0, 0), (33, .invokevirtual 71, 0, 20, 1, 406), (36, .invokevirtual 187, 0, 51, 2, 515), (39, .ifCond .ne 5, 0, 0, 0, 0), (42, .iconst 3, 0, 0, 0, 0), (43, .ireturn, 0, 0, 0, 0), (44, .aload_n 0, 0, 0, 0, 0), (45, .getfield 34, 0, 5, 3, 255), (48, .iload_n 3, 0, 0, 0, 0), (49, .invokevirtual 71, 0, 20, 1, 406), (52, .ifCond .ne 14, 0, 0, 0, 0), (55, .aload_n 1, 0, 0, 0, 0), (56, .iload_n 2, 0, 0, 0, 0), (57, .invokevirtual 190, 0, 74, 1, 519), (60, .ifCond .eq 6, 0, 0, 0, 0), (63, .bipush 6, 0, 0, 0, 0), (65, .ireturn, 0, 0, 0, 0), (66, .aload_n 0, 0, 0, 0, 0), (67, .getfield 40, 0, 5, 5, 257), (70, .iload_n 3, 0, 0, 0, 0), (71, .invokevirtual 71, 0, 20, 1, 406), (74, .iconst 1, 0, 0, 0, 0), (75, .if_icmp .ne 16, 0, 0, 0, 0), (78, .aload_n 1, 0, 0, 0, 0), (79, .iload_n 2, 0, 0, 0, 0), (80, .invokevirtual 194, 0, 75, 1, 524), (83, .ifCond .eq 8, 0, 0, 0, 0), (86, .bipush 7, 0, 0, 0, 0), (88, .goto 4, 0, 0, 0, 0), (91, .iconst 0, 0, 0, 0, 0), (92, .ireturn, 0, 0, 0, 0)]
def mC51 : List (Nat × Instr × Nat × Nat × Nat × Nat) := [(0, .aload_n 0, 0, 0, 0, 0), (1, .getfield 34, 0, 5, 3, 255), (4, .iload_n 1, 0, 0, 0, 0), (5, .invokevirtual 71, 0, 20, 1, 406), (8, .istore_n 3, 0, 0, 0, 0), (9, .iload_n 3, 0, 0, 0, 0), (10, .iload_n 2, 0, 0, 0, 0), (11, .if_icmp .eq 22, 0, 0, 0, 0), (14, .iload_n 3, 0, 0, 0, 0), (15, .ifCond .eq 18, 0, 0, 0, 0), (18, .iload_n 2, 0, 0, 0, 0), (19, .iconst 5, 0, 0, 0, 0), (20, .if_icmp .eq 13, 0, 0, 0, 0), (23, .iload_n 3, 0, 0, 0, 0), (24, .iconst 1, 0, 0, 0, 0), (25, .if_icmp .ne 12, 0, 0, 0, 0), (28, .iload_n 2, 0, 0, 0, 0), (29, .iconst 2, 0, 0, 0, 0), (30, .if_icmp .ne 7, 0, 0, 0, 0), (33, .iconst 1, 0, 0, 0, 0), (34, .goto 4, 0, 0, 0, 0), (37, .iconst 0, 0, 0, 0, 0), (38, .ireturn, 0, 0, 0, 0)]
def mC52 : List (Nat × Instr × Nat × Nat × Nat × Nat) := [(0, .iconst 0, 0, 0, 0, 0), (1, .istore_n 2, 0, 0, 0, 0), (2, .iload_n 2, 0, 0, 0, 0), (3, .aload_n 0, 0, 0, 0, 0), (4, .getfield 56, 0, 5, 11, 264), (7, .if_icmp .ge 26, 0, 0, 0, 0), (10, .aload_n 0, 0, 0, 0, 0), (11, .aload_n 0, 0, 0, 0, 0), (12, .getfield 30, 0, 5, 2, 253), (15, .iload_n 2, 0, 0, 0, 0), (16, .invokevirtual 71, 0, 20, 1, 406), (19, .iload_n 1, 0, 0, 0, 0), (20, .invokevirtual 197, 0, 53, 2, 532), (23, .ifCond .eq 4, 0, 0, 0, 0), (26, .return_, 0, 0, 0, 0), (27, .iinc 2 1, 0, 0, 0, 0), (30, .goto (-28), 0, 0, 0, 0), (33, .aload_n 0, 0, 0, 0, 0), (34, .getfield 30, 0, 5, 2, 253), (37, .aload_n 0, 0, 0, 0, 0), (38, .getfield 56, 0, 5, 11, 264), (41, .iload_n 1, 0, 0, 0, 0), (42, .invokevirtual 101, 0, 21, 2, 463), (45, .aload_n 0, 0, 0, 0, 0), (46, .dup, 0, 0, 0, 0), (47, .getfield 56, 0, 5, 11, 264), (50, .iconst 1, 0, 0, 0, 0), (51, .iadd, 0, 0, 0, 0), (52, .putfield 56, 0, 5, 11, 264), (55, .return_, 0, 0, 0, 0)]
def mC53 : List (Nat × Instr × Nat × Nat × Nat × Nat) := [(0, .iconst 0, 0, 0, 0, 0), (1, .istore_n 3, 0, 0, 0, 0), (2, .iload_n 3, 0, 0, 0, 0), (3, .aload_n 0, 0, 0, 0, 0), (4, .getfield 12, 0, 5, 0, 249), (7, .invokevirtual 91, 0, 33, 0, 477), (10, .if_icmp .ge 39, 0, 0, 0, 0), (13, .aload_n 0, 0, 0, 0, 0), (14, .getfield 12, 0, 5, 0, 249), (17, .aload_n 0, 0, 0, 0, 0), (18, .getfield 12, 0, 5, 0, 249), (21, .iload_n 1, 0, 0, 0, 0), (22, .iload_n 3, 0, 0, 0, 0), (23, .invokevirtual 161, 0, 36, 2, 472), (26, .aload_n 0, 0, 0, 0, 0), (27, .getfield 12, 0, 5, 0, 249), (30, .iload_n 2, 0, 0, 0, 0), (31, .iload_n 3, 0, 0, 0, 0), (32, .invokevirtual 161, 0, 36, 2, 472), (35, .invokevirtual 172, 0, 37, 2, 498), (38, .ifCond .ne 5, 0, 0, 0, 0), (41, .iconst 0, 0, 0, 0, 0), (42, .ireturn, 0, 0, 0, 0), (43, .iinc 3 1, 0, 0, 0, 0), (46, .goto (-44), 0, 0, 0, 0), (49, .iconst 1, 0, 0, 0, 0), (50, .ireturn, 0, 0, 0, 0)]
def mC54 : List (Nat × Instr × Nat × Nat × Nat × Nat) := [(0, .iload_n 1, 0, 0, 0, 0), (1, .ifCond .lt 18, 0, 0, 0, 0), (4, .iload_n 1, 0, 0, 0, 0), (5, .aload_n 0, 0, 0, 0, 0), (6, .getfield 12, 0, 5, 0, 249), (9, .invokevirtual 91, 0, 33, 0, 477), (12, .if_icmp .ge 7, 0, 0, 0, 0), (15, .iconst 1, 0, 0, 0, 0), (16, .goto 4, 0, 0, 0, 0), (19, .iconst 0, 0, 0, 0, 0), (20, .ireturn, 0, 0, 0, 0)]
def mC55 : List (Nat × Instr × Nat × Nat × Nat × Nat) := [(0, .iload_n 1, 0, 0, 0, 0), (1, .ifCond .lt 15, 0, 0, 0, 0), (4, .iload_n 1, 0, 0, 0, 0), (5, .aload_n 0, 0, 0, 0, 0), (6, .getfield 56, 0, 5, 11, 264), (9, .if_icmp .ge 7, 0, 0, 0, 0), (12, .iconst 1, 0, 0, 0, 0), (13, .goto 4, 0, 0, 0, 0), (16, .iconst 0, 0, 0, 0, 0), (17, .ireturn, 0, 0, 0, 0)]
def mC56 : List (Nat × Instr × Nat × Nat × Nat × Nat) := [(0, .iload_n 1, 0, 0, 0, 0), (1, .lookupswitch 37 #[(0, 27), (1, 32)], 27, 0, 0, 0), (28, .aload_n 0, 0, 0, 0, 0), (29, .getfield 63, 0, 5, 8, 260), (32, .ireturn, 0, 0, 0, 0), (33, .aload_n 0, 0, 0, 0, 0), (34, .getfield 49, 0, 5, 9, 261), (37, .ireturn, 0, 0, 0, 0), (38, .aload_n 0, 0, 0, 0, 0), (39, .getfield 53, 0, 5, 10, 262), (42, .ireturn, 0, 0, 0, 0)]
def mC57 : List (Nat × Instr × Nat × Nat × Nat × Nat) := [(0, .iload_n 1, 0, 0, 0, 0), (1, .tableswitch 81 1 5 #[35, 43, 51, 68, 76], 35, 0, 0, 0), (36, .aload_n 0, 0, 0, 0, 0), (37, .getfield 12, 0, 5, 0, 249), (40, .getfield 110, 0, 4, 9, 188), (43, .ireturn, 0, 0, 0, 0), (44, .aload_n 0, 0, 0, 0, 0), (45, .getfield 12, 0, 5, 0, 249), (48, .invokevirtual 91, 0, 33, 0, 477), (51, .ireturn, 0, 0, 0, 0), (52, .iconst 0, 0, 0, 0, 0), (53, .aload_n 0, 0, 0, 0, 0), (54, .getfield 12, 0, 5, 0, 249), (57, .getfield 110, 0, 4, 9, 188), (60, .aload_n 0, 0, 0, 0, 0), (61, .getfield 53, 0, 5, 10, 262), (64, .isub, 0, 0, 0, 0), (65, .invokestatic 200, 0, 204, 2, 549), (68, .ireturn, 0, 0, 0, 0), (69, .aload_n 0, 0, 0, 0, 0), (70, .getfield 21, 0, 5, 1, 251), (73, .getfield 107, 0, 2, 3, 236), (76, .ireturn, 0, 0, 0, 0), (77, .aload_n 0, 0, 0, 0, 0), (78, .getfield 56, 0, 5, 11, 264), (81, .ireturn, 0, 0, 0, 0), (82, .aload_n 0, 0, 0, 0, 0), (83, .getfield 12, 0, 5, 0, 249), (86, .invokevirtual 205, 0, 38, 0, 552), (89, .ireturn, 0, 0, 0, 0)]
def mC58 : List (Nat × Instr × Nat × Nat × Nat × Nat) := [(0, .iload_n 2, 0, 0, 0, 0), (1, .tableswitch 73 0 3 #[31, 40, 49, 61], 31, 0, 0, 0), (32, .aload_n 0, 0, 0, 0, 0), (33, .getfield 34, 0, 5, 3, 255), (36, .iload_n 1, 0, 0, 0, 0), (37, .invokevirtual 71, 0, 20, 1, 406), (40, .ireturn, 0, 0, 0, 0), (41, .aload_n 0, 0, 0, 0, 0), (42, .getfield 37, 0, 5, 4, 256), (45, .iload_n 1, 0, 0, 0, 0), (46, .invokevirtual 71, 0, 20, 1, 406), (49, .ireturn, 0, 0, 0, 0), (50, .aload_n 0, 0, 0, 0, 0), (51, .getfield 12, 0, 5, 0, 249), (54, .getfield 123, 0, 4, 2, 174), (57, .iload_n 1, 0, 0, 0, 0), (58, .invokevirtual 71, 0, 20, 1, 406), (61, .ireturn, 0, 0, 0, 0), (62, .aload_n 0, 0, 0, 0, 0), (63, .getfield 12, 0, 5, 0, 249), (66, .getfield 184, 0, 4, 4, 179), (69, .iload_n 1, 0, 0, 0, 0), (70, .invokevirtual 71, 0, 20, 1, 406), (73, .ireturn, 0, 0, 0, 0), (74, .aload_n 0, 0, 0, 0, 0), (75, .getfield 12, 0, 5, 0, 249), (78, .getfield 208, 0, 4, 3, 177), (81, .iload_n 1, 0, 0, 0, 0), (82, .invokevirtual 71, 0, 20, 1, 406), (85, .ireturn, 0, 0, 0, 0)]
def mC59 : List (Nat × Instr × Nat × Nat × Nat × Nat) := [(0, .iload_n 2, 0, 0, 0, 0), (1, .tableswitch 81 0 3 #[31, 40, 54, 72], 31, 0, 0, 0), (32, .aload_n 0, 0, 0, 0, 0), (33, .getfield 43, 0, 5, 6, 258), (36, .iload_n 1, 0, 0, 0, 0), (37, .invokevirtual 71, 0, 20, 1, 406), (40, .ireturn, 0, 0, 0, 0), (41, .aload_n 0, 0, 0, 0, 0), (42, .iload_n 1, 0, 0, 0, 0), (43, .aload_n 0, 0, 0, 0, 0), (44, .getfield 53, 0, 5, 10, 262), (47, .invokevirtual 94, 0, 44, 2, 478), (50, .aload_n 0, 0, 0, 0, 0), (51, .invokevirtual 165, 0, 45, 0, 486), (54, .ireturn, 0, 0, 0, 0), (55, .aload_n 0, 0, 0, 0, 0), (56, .iload_n 1, 0, 0, 0, 0), (57, .aload_n 0, 0, 0, 0, 0), (58, .getfield 53, 0, 5, 10, 262), (61, .invokevirtual 94, 0, 44, 2, 478), (64, .aload_n 0, 0, 0, 0, 0), (65, .getfield 46, 0, 5, 7, 259), (68, .iconst 0, 0, 0, 0, 0), (69, .invokevirtual 71, 0, 20, 1, 406), (72, .ireturn, 0, 0, 0, 0), (73, .aload_n 0, 0, 0, 0, 0), (74, .getfield 21, 0, 5, 1, 251), (77, .iload_n 1, 0, 0, 0, 0), (78, .invokevirtual 211, 0, 3, 1, 573), (81, .ireturn, 0, 0, 0, 0), (82, .aload_n 0, 0, 0, 0, 0), (83, .iload_n 1, 0, 0, 0, 0), (84, .aload_n 0, 0, 0, 0, 0), (85, .getfield 53, 0, 5, 10, 262), (88, .invokevirtual 94, 0, 44, 2, 478), (91, .aload_n 0, 0, 0, 0, 0), (92, .invokevirtual 165, 0, 45, 0, 486), (95, .aload_n 0, 0, 0, 0, 0), (96, .iload_n 1, 0, 0, 0, 0), (97, .invokevirtual 214, 0, 60, 1, 578), (100, .isub, 0, 0, 0, 0), (101, .ireturn, 0, 0, 0, 0)]
def mC60 : List (Nat × Instr × Nat × Nat × Nat × Nat) := [(0, .iconst 0, 0, 0, 0, 0), (1, .istore_n 2, 0, 0, 0, 0), (2, .aload_n 0, 0, 0, 0, 0), (3, .getfield 53, 0, 5, 10, 262), (6, .istore_n 3, 0, 0, 0, 0), (7, .iload_n 3, 0, 0, 0, 0), (8, .aload_n 0, 0, 0, 0, 0), (9, .getfield 12, 0, 5, 0, 249), (12, .getfield 110, 0, 4, 9, 188), (15, .if_icmp .ge 42, 0, 0, 0, 0), (18, .aload_n 0, 0, 0, 0, 0), (19, .getfield 12, 0, 5, 0, 249), (22, .iload_n 3, 0, 0, 0, 0), (23, .iload_n 1, 0, 0, 0, 0), (24, .invokevirtual 161, 0, 36, 2, 472), (27, .istore 4, 0, 0, 0, 0), (29, .iload_n 2, 0, 0, 0, 0), (30, .iload 4, 0, 0, 0, 0), (32, .iconst (-1), 0, 0, 0, 0), (33, .if_icmp .ne 7, 0, 0, 0, 0), (36, .iconst 0, 0, 0, 0, 0), (37, .goto 12, 0, 0, 0, 0), (40, .aload_n 0, 0, 0, 0, 0), (41, .getfield 40, 0, 5, 5, 257), (44, .iload 4, 0, 0, 0, 0), (46, .invokevirtual 71, 0, 20, 1, 406), (49, .iadd, 0, 0, 0, 0), (50, .istore_n 2, 0, 0, 0, 0), (51, .iinc 3 1, 0, 0, 0, 0), (54, .goto (-47), 0, 0, 0, 0), (57, .iload_n 2, 0, 0, 0, 0), (58, .ireturn, 0, 0, 0, 0)]
def mC61 : List (Nat × Instr × Nat × Nat × Nat × Nat) := [(0, .aload_n 0, 0, 0, 0, 0), (1, .getfield 12, 0, 5, 0, 249), (4, .aload_n 0, 0, 0, 0, 0), (5, .getfield 30, 0, 5, 2, 253), (8, .iload_n 1, 0, 0, 0, 0), (9, .invokevirtual 71, 0, 20, 1, 406), (12, .iload_n 2, 0, 0, 0, 0), (13, .invokevirtual 161, 0, 36, 2, 472), (16, .ireturn, 0, 0, 0, 0)]
def mC62 : List (Nat × Instr × Nat × Nat × Nat × Nat) := [(0, .aload_n 0, 0, 0, 0, 0), (1, .iload_n 1, 0, 0, 0, 0), (2, .iload_n 2, 0, 0, 0, 0), (3, .invokevirtual 217, 0, 61, 2, 590), (6, .istore_n 3, 0, 0, 0, 0), (7, .aload_n 0, 0, 0, 0, 0), (8, .getfield 43, 0, 5, 6, 258), (11, .iload_n 2, 0, 0, 0, 0), (12, .invokevirtual 71, 0, 20, 1, 406), (15, .istore 4, 0, 0, 0, 0), (17, .iload 4, 0, 0, 0, 0), (19, .iconst 5, 0, 0, 0, 0), (20, .if_icmp .ne 15, 0, 0, 0, 0), (23, .aload_n 0, 0, 0, 0, 0), (24, .getfield 12, 0, 5, 0, 249), (27, .getfield 123, 0, 4, 2, 174), (30, .iload_n 3, 0, 0, 0, 0), (31, .invokevirtual 71, 0, 20, 1, 406), (34, .ireturn, 0, 0, 0, 0), (35, .iload 4, 0, 0, 0, 0), (37, .iconst 2, 0, 0, 0, 0), (38, .if_icmp .ne 19, 0, 0, 0, 0), (41, .aload_n 0, 0, 0, 0, 0), (42, .getfield 34, 0, 5, 3, 255), (45, .iload_n 3, 0, 0, 0, 0), (46, .invokevirtual 71, 0, 20, 1, 406), (49, .iconst 1, 0, 0, 0, 0), (50, .if_icmp .ne 7, 0, 0, 0, 0), (53, .iconst 1, 0, 0, 0, 0), (54, .goto 4, 0, 0, 0, 0), (57, .iconst 0, 0, 0, 0, 0), (58, .istore 5, 0, 0, 0, 0), (60, .iload 5, 0, 0, 0, 0), (62, .ifCond .eq 18, 0, 0, 0, 0), (65, .sipush 1000, 0, 0, 0, 0), (68, .aload_n 0, 0, 0, 0, 0), (69, .getfield 37, 0, 5, 4, 256), (72, .iload_n 3, 0, 0, 0, 0), (73, .invokevirtual 71, 0, 20, 1, 406), (76, .imul, 0, 0, 0, 0), (77, .goto 11, 0, 0, 0, 0), (80, .aload_n 0, 0, 0, 0, 0), (81, .getfield 37, 0, 5, 4, 256), (84, .iload_n 3, 0, 0, 0, 0), (85, .invokevirtual 71, 0, 20, 1, 406), (88, .ireturn, 0, 0, 0, 0)]
def mC63 : List (Nat × Instr × Nat × Nat × Nat × Nat) := [(0, .aload_n 0, 0, 0, 0, 0), (1, .getfield 34, 0, 5, 3, 255), (4, .aload_n 0, 0, 0, 0, 0), (5, .iload_n 1, 0, 0, 0, 0), (6, .iload_n 2, 0, 0, 0, 0), (7, .invokevirtual 217, 0, 61, 2, 590), (10, .invokevirtual 71, 0, 20, 1, 406), (13, .ifCond .eq 7, 0, 0, 0, 0), (16, .iconst 1, 0, 0, 0, 0), (17, .goto 4, 0, 0, 0, 0), (20, .iconst 0, 0, 0, 0, 0), (21, .ireturn, 0, 0, 0, 0)]
def mC64 : List (Nat × Instr × Nat × Nat × Nat × Nat) := [(0, .iconst 0, 0, 0, 0, 0), (1, .istore_n 3, 0, 0, 0, 0), (2, .iconst 0, 0, 0, 0, 0), (3, .istore 4, 0, 0, 0, 0), (5, .iconst 0, 0, 0, 0, 0), (6, .istore 5, 0, 0, 0, 0), (8, .iload 5, 0, 0, 0, 0), (10, .aload_n 0, 0, 0, 0, 0), (11, .getfield 56, 0, 5, 11, 264), (14, .if_icmp .ge 81, 0, 0, 0, 0), (17, .aload_n 0, 0, 0, 0, 0), (18, .iload 5, 0, 0, 0, 0), (20, .iload_n 1, 0, 0, 0, 0), (21, .invokevirtual 220, 0, 63, 2, 586), (24, .ifCond .eq 65, 0, 0, 0, 0), (27, .aload_n 0, 0, 0, 0, 0), (28, .iload 5, 0, 0, 0, 0), (30, .iload_n 1, 0, 0, 0, 0), (31, .invokevirtual 223, 0, 62, 2, 594), (34, .istore 6, 0, 0, 0, 0), (36, .iload_n 2, 0, 0, 0, 0), (37, .ifCond .eq 18, 0, 0, 0, 0), (40, .iload 6, 0, 0, 0, 0), (42, .iload 4, 0, 0, 0, 0), (44, .if_icmp .le 7, 0, 0, 0, 0), (47, .iconst 1, 0, 0, 0, 0), (48, .goto 19, 0, 0, 0, 0), (51, .iconst 0, 0, 0, 0, 0), (52, .goto 15, 0, 0, 0, 0), (55, .iload 6, 0, 0, 0, 0), (57, .iload 4, 0, 0, 0, 0), (59, .if_icmp .ge 7, 0, 0, 0, 0), (62, .iconst 1, 0, 0, 0, 0), (63, .goto 4, 0, 0, 0, 0), (66, .iconst 0, 0, 0, 0, 0), (67, .istore 7, 0, 0, 0, 0), (69, .iload_n 3, 0, 0, 0, 0), (70, .ifCond .eq 8, 0, 0, 0, 0), (73, .iload 7, 0, 0, 0, 0), (75, .ifCond .eq 8, 0, 0, 0, 0), (78, .iload 6, 0, 0, 0, 0), (80, .goto 5, 0, 0, 0, 0), (83, .iload 4, 0, 0, 0, 0), (85, .istore 4, 0, 0, 0, 0), (87, .iconst 1, 0, 0, 0, 0), (88, .istore_n 3, 0, 0, 0, 0), (89, .iinc 5 1, 0, 0, 0, 0), (92, .goto (-84), 0, 0, 0, 0), (95, .iload 4, 0, 0, 0, 0), (97, .ireturn, 0, 0, 0, 0)]
def mC65 : List (Nat × Instr × Nat × Nat × Nat × Nat) := [(0, .lconst 0, 0, 0, 0, 0), (1, .lstore_n 2, 0, 0, 0, 0), (2, .iconst 0, 0, 0, 0, 0), (3, .istore 4, 0, 0, 0, 0), (5, .iload 4, 0, 0, 0, 0), (7, .aload_n 0, 0, 0, 0, 0), (8, .getfield 56, 0, 5, 11, 264), (11, .if_icmp .ge 20, 0, 0, 0, 0), (14, .lload_n 2, 0, 0, 0, 0), (15, .aload_n 0, 0, 0, 0, 0), (16, .iload 4, 0, 0, 0, 0), (18, .iload_n 1, 0, 0, 0, 0), (19, .invokevirtual 223, 0, 62, 2, 594), (22, .i2l, 0, 0, 0, 0), (23, .ladd, 0, 0, 0, 0), (24, .lstore_n 2, 0, 0, 0, 0), (25, .iinc 4 1, 0, 0, 0, 0), (28, .goto (-23), 0, 0, 0, 0), (31, .lload_n 2, 0, 0, 0, 0), (32, .lreturn, 0, 0, 0, 0)]
def mC66 : List (Nat × Instr × Nat × Nat × Nat × Nat) := [(0, .iconst 0, 0, 0, 0, 0), (1, .istore_n 2, 0, 0, 0, 0), (2, .iconst 0, 0, 0, 0, 0), (3, .istore_n 3, 0, 0, 0, 0), (4, .iload_n 3, 0, 0, 0, 0), (5, .aload_n 0, 0, 0, 0, 0), (6, .getfield 56, 0, 5, 11, 264), (9, .if_icmp .ge 26, 0, 0, 0, 0), (12, .iload_n 2, 0, 0, 0, 0), (13, .aload_n 0, 0, 0, 0, 0), (14, .iload_n 3, 0, 0, 0, 0), (15, .iload_n 1, 0, 0, 0, 0), (16, .invokevirtual 220, 0, 63, 2, 586), (19, .ifCond .eq 7, 0, 0, 0, 0), (22, .iconst 1, 0, 0, 0, 0), (23, .goto 4, 0, 0, 0, 0), (26, .iconst 0, 0, 0, 0, 0), (27, .iadd, 0, 0, 0, 0), (28, .istore_n 2, 0, 0, 0, 0), (29, .iinc 3 1, 0, 0, 0, 0), (32, .goto (-28), 0, 0, 0, 0), (35, .iload_n 2, 0, 0, 0, 0), (36, .ireturn, 0, 0, 0, 0)]
def mC67 : List (Nat × Instr × Nat × Nat × Nat × Nat) := [(0, .iconst 0, 0, 0, 0, 0), (1, .istore_n 3, 0, 0, 0, 0), (2, .iload_n 3, 0, 0, 0, 0), (3, .aload_n 0, 0, 0, 0, 0), (4, .getfield 56, 0, 5, 11, 264), (7, .if_icmp .ge 30, 0, 0, 0, 0), (10, .aload_n 0, 0, 0, 0, 0), (11, .iload_n 3, 0, 0, 0, 0), (12, .iload_n 1, 0, 0, 0, 0), (13, .invokevirtual 220, 0, 63, 2, 586), (16, .ifCond .eq 15, 0, 0, 0, 0), (19, .aload_n 0, 0, 0, 0, 0), (20, .iload_n 3, 0, 0, 0, 0), (21, .iload_n 1, 0, 0, 0, 0), (22, .invokevirtual 223, 0, 62, 2, 594), (25, .iload_n 2, 0, 0, 0, 0), (26, .if_icmp .ne 5, 0, 0, 0, 0), (29, .iload_n 3, 0, 0, 0, 0), (30, .ireturn, 0, 0, 0, 0), (31, .iinc 3 1, 0, 0, 0, 0), (34, .goto (-32), 0, 0, 0, 0), (37, .iconst (-1), 0, 0, 0, 0), (38, .ireturn, 0, 0, 0, 0)]
def mC68 : List (Nat × Instr × Nat × Nat × Nat × Nat) := [(0, .aload_n 0, 0, 0, 0, 0), (1, .invokespecial 3, 0, 998, 0, 104), (4, .aload_n 0, 0, 0, 0, 0), (5, .new 9, 0, 3, 0, 105), (8, .dup, 0, 0, 0, 0), (9, .sipush 500, 0, 0, 0, 0), (12, .invokespecial 11, 0, 19, 1, 107), (15, .putfield 14, 0, 6, 0, 116), (18, .aload_n 0, 0, 0, 0, 0), (19, .iconst 0, 0, 0, 0, 0), (20, .putfield 20, 0, 6, 1, 118), (23, .return_, 0, 0, 0, 0)]
def mC69 : List (Nat × Instr × Nat × Nat × Nat × Nat) := [(0, .aload_n 0, 0, 0, 0, 0), (1, .getfield 20, 0, 6, 1, 118), (4, .iload_n 1, 0, 0, 0, 0), (5, .iadd, 0, 0, 0, 0), (6, .sipush 500, 0, 0, 0, 0), (9, .if_icmp .gt 7, 0, 0, 0, 0), (12, .iconst 1, 0, 0, 0, 0), (13, .goto 4, 0, 0, 0, 0), (16, .iconst 0, 0, 0, 0, 0), (17, .ireturn, 0, 0, 0, 0)]
def mC70 : List (Nat × Instr × Nat × Nat × Nat × Nat) := [(0, .aload_n 0, 0, 0, 0, 0), (1, .iconst 1, 0, 0, 0, 0), (2, .invokevirtual 24, 0, 69, 1, 717), (5, .ifCond .eq 25, 0, 0, 0, 0), (8, .aload_n 0, 0, 0, 0, 0), (9, .getfield 14, 0, 6, 0, 116), (12, .aload_n 0, 0, 0, 0, 0), (13, .getfield 20, 0, 6, 1, 118), (16, .iload_n 1, 0, 0, 0, 0), (17, .invokevirtual 28, 0, 21, 2, 718), (20, .aload_n 0, 0, 0, 0, 0), (21, .dup, 0, 0, 0, 0), (22, .getfield 20, 0, 6, 1, 118), (25, .iconst 1, 0, 0, 0, 0), (26, .iadd, 0, 0, 0, 0), (27, .putfield 20, 0, 6, 1, 118), (30, .return_, 0, 0, 0, 0)]
def mC71 : List (Nat × Instr × Nat × Nat × Nat × Nat) := [(0, .iload_n 1, 0, 0, 0, 0), (1, .invokestatic 32, 0, 72, 1, 734), (4, .istore_n 2, 0, 0, 0, 0), (5, .aload_n 0, 0, 0, 0, 0), (6, .iload_n 2, 0, 0, 0, 0), (7, .invokevirtual 24, 0, 69, 1, 717), (10, .ifCond .eq 61, 0, 0, 0, 0), (13, .iload_n 1, 0, 0, 0, 0), (14, .istore_n 3, 0, 0, 0, 0), (15, .aload_n 0, 0, 0, 0, 0), (16, .getfield 20, 0, 6, 1, 118), (19, .iload_n 2, 0, 0, 0, 0), (20, .iadd, 0, 0, 0, 0), (21, .iconst 1, 0, 0, 0, 0), (22, .isub, 0, 0, 0, 0), (23, .istore 4, 0, 0, 0, 0), (25, .iload 4, 0, 0, 0, 0), (27, .aload_n 0, 0, 0, 0, 0), (28, .getfield 20, 0, 6, 1, 118), (31, .if_icmp .lt 30, 0, 0, 0, 0), (34, .aload_n 0, 0, 0, 0, 0), (35, .getfield 14, 0, 6, 0, 116), (38, .iload 4, 0, 0, 0, 0), (40, .bipush 10, 0, 0, 0, 0), (42, .iload_n 3, 0, 0, 0, 0), (43, .bipush 10, 0, 0, 0, 0), (45, .irem, 0, 0, 0, 0), (46, .iadd, 0, 0, 0, 0), (47, .invokevirtual 28, 0, 21, 2, 718), (50, .iload_n 3, 0, 0, 0, 0), (51, .bipush 10, 0, 0, 0, 0), (53, .idiv, 0, 0, 0, 0), (54, .istore_n 3, 0, 0, 0, 0), (55, .iinc 4 (-1), 0, 0, 0, 0), (58, .goto (-33), 0, 0, 0, 0), (61, .aload_n 0, 0, 0, 0, 0), (62, .aload_n 0, 0, 0, 0, 0), (63, .getfield 20, 0, 6, 1, 118), (66, .iload_n 2, 0, 0, 0, 0), (67, .iadd, 0, 0, 0, 0), (68, .putfield 20, 0, 6, 1, 118), (71, .return_, 0, 0, 0, 0)]
def mC72 : List (Nat × Instr × Nat × Nat × Nat × Nat) := [(0, .iconst 1, 0, 0, 0, 0), (1, .istore_n 1, 0, 0, 0, 0), (2, .iload_n 0, 0, 0, 0, 0), (3, .bipush 10, 0, 0, 0, 0), (5, .idiv, 0, 0, 0, 0), (6, .istore_n 2, 0, 0, 0, 0), (7, .iload_n 2, 0, 0, 0, 0), (8, .ifCond .le 20, 0, 0, 0, 0), (11, .iload_n 1, 0, 0, 0, 0), (12, .bipush 10, 0, 0, 0, 0), (14, .if_icmp .ge 14, 0, 0, 0, 0), (17, .iinc 1 1, 0, 0, 0, 0), (20, .iload_n 2, 0, 0, 0, 0), (21, .bipush 10, 0, 0, 0, 0), (23, .idiv, 0, 0, 0, 0), (24, .istore_n 2, 0, 0, 0, 0), (25, .goto (-18), 0, 0, 0, 0), (28, .iload_n 1, 0, 0, 0, 0), (29, .ireturn, 0, 0, 0, 0)]
def mC73 : List (Nat × Instr × Nat × Nat × Nat × Nat) := [(0, .aload_n 0, 0, 0, 0, 0), (1, .invokespecial 3, 0, 998, 0, 131), (4, .aload_n 0, 0, 0, 0, 0), (5, .new 9, 0, 3, 0, 132), (8, .dup, 0, 0, 0, 0), (9, .iconst 3, 0, 0, 0, 0), (10, .invokespecial 11, 0, 19, 1, 133), (13, .putfield 14, 0, 7, 0, 138), (16, .aload_n 0, 0, 0, 0, 0), (17, .new 9, 0, 3, 0, 132), (20, .dup, 0, 0, 0, 0), (21, .bipush 20, 0, 0, 0, 0), (23, .invokespecial 11, 0, 19, 1, 133), (26, .putfield 20, 0, 7, 1, 141), (29, .aload_n 0, 0, 0, 0, 0), (30, .bipush 80, 0, 0, 0, 0), (32, .putfield 23, 0, 7, 2, 143), (35, .aload_n 0, 0, 0, 0, 0), (36, .getfield 14, 0, 7, 0, 138), (39, .iconst 0, 0, 0, 0, 0), (40, .iconst (-1), 0, 0, 0, 0), (41, .invokevirtual 27, 0, 21, 2, 134), (44, .aload_n 0, 0, 0, 0, 0), (45, .getfield 14, 0, 7, 0, 138), (48, .iconst 1, 0, 0, 0, 0), (49, .iconst (-1), 0, 0, 0, 0), (50, .invokevirtual 27, 0, 21, 2, 134), (53, .aload_n 0, 0, 0, 0, 0), (54, .getfield 14, 0, 7, 0, 138), (57, .iconst 2, 0, 0, 0, 0), (58, .iconst (-1), 0, 0, 0, 0), (59, .invokevirtual 27, 0, 21, 2, 134), (62, .return_, 0, 0, 0, 0)]
def mC74 : List (Nat × Instr × Nat × Nat × Nat × Nat) := [(0, .aload_n 0, 0, 0, 0, 0), (1, .getfield 20, 0, 7, 1, 141), (4, .iload_n 1, 0, 0, 0, 0), (5, .invokevirtual 31, 0, 20, 1, 523), (8, .istore_n 2, 0, 0, 0, 0), (9, .iload_n 2, 0, 0, 0, 0), (10, .iconst 1, 0, 0, 0, 0), (11, .if_icmp .eq 8, 0, 0, 0, 0), (14, .iload_n 2, 0, 0, 0, 0), (15, .iconst 3, 0, 0, 0, 0), (16, .if_icmp .ne 7, 0, 0, 0, 0), (19, .iconst 1, 0, 0, 0, 0), (20, .goto 4, 0, 0, 0, 0), (23, .iconst 0, 0, 0, 0, 0), (24, .ireturn, 0, 0, 0, 0)]
def mC75 : List (Nat × Instr × Nat × Nat × Nat × Nat) := [(0, .aload_n 0, 0, 0, 0, 0), (1, .getfield 20, 0, 7, 1, 141), (4, .iload_n 1, 0, 0, 0, 0), (5, .invokevirtual 31, 0, 20, 1, 523), (8, .istore_n 2, 0, 0, 0, 0), (9, .iload_n 2, 0, 0, 0, 0), (10, .iconst 2, 0, 0, 0, 0), (11, .if_icmp .eq 8, 0, 0, 0, 0), (14, .iload_n 2, 0, 0, 0, 0), (15, .iconst 3, 0, 0, 0, 0), (16, .if_icmp .ne 7, 0, 0, 0, 0), (19, .iconst 1, 0, 0, 0, 0), (20, .goto 4, 0, 0, 0, 0), (23, .iconst 0, 0, 0, 0, 0), (24, .ireturn, 0, 0, 0, 0)]
def mC76 : List (Nat × Instr × Nat × Nat × Nat × Nat) := [(0, .aload_n 0, 0, 0, 0, 0), (1, .invokespecial 3, 0, 998, 0, 96), (4, .aload_n 0, 0, 0, 0, 0), (5, .new 9, 0, 6, 0, 99), (8, .dup, 0, 0, 0, 0), (9, .invokespecial 11, 1, 68, 0, 0), (12, .putfield 12, 0, 8, 0, 295), (15, .aload_n 0, 0, 0, 0, 0), (16, .new 16, 0, 7, 0, 126), (19, .dup, 0, 0, 0, 0), (20, .invokespecial 18, 0, 73, 0, 128), (23, .putfield 19, 0, 8, 1, 296), (26, .aload_n 0, 0, 0, 0, 0), (27, .new 23, 0, 5, 0, 153), (30, .dup, 0, 0, 0, 0), (31, .iconst 0, 0, 0, 0, 0), (32, .invokespecial 25, 0, 39, 1, 155), (35, .putfield 28, 0, 8, 2, 297), (38, .aload_n 0, 0, 0, 0, 0), (39, .new 23, 0, 5, 0, 153), (42, .dup, 0, 0, 0, 0), (43, .iconst 1, 0, 0, 0, 0), (44, .invokespecial 25, 0, 39, 1, 155), (47, .putfield 32, 0, 8, 3, 298), (50, .aload_n 0, 0, 0, 0, 0), (51, .new 23, 0, 5, 0, 153), (54, .dup, 0, 0, 0, 0), (55, .iconst 2, 0, 0, 0, 0), (56, .invokespecial 25, 0, 39, 1, 155), (59, .putfield 35, 0, 8, 4, 299), (62, .aload_n 0, 0, 0, 0, 0), (63, .new 23, 0, 5, 0, 153), (66, .dup, 0, 0, 0, 0), (67, .iconst 3, 0, 0, 0, 0), (68, .invokespecial 25, 0, 39, 1, 155), (71, .putfield 38, 0, 8, 5, 300), (74, .aload_n 0, 0, 0, 0, 0), (75, .iconst 0, 0, 0, 0, 0), (76, .putfield 41, 0, 8, 6, 301), (79, .return_, 0, 0, 0, 0)]
def mC77 : List (Nat × Instr × Nat × Nat × Nat × Nat) := [(0, .iload_n 1, 0, 0, 0, 0), (1, .invokestatic 45, 0, 106, 1, 622), (4, .ifCond .ne 13, 0, 0, 0, 0), (7, .new 49, 0, 999, 0, 0), (10, .dup, 0, 0, 0, 0), (11, .ldc 51, 999, 0, 0, 0), (13, .invokespecial 53, 0, 999, 0, 0), (16, .athrow, 0, 0, 0, 0), (17, .aload_n 0, 0, 0, 0, 0), (18, .getfield 12, 0, 8, 0, 295), (21, .iconst 1, 0, 0, 0, 0), (22, .invokevirtual 56, 0, 69, 1, 693), (25, .ifCond .ne 13, 0, 0, 0, 0), (28, .new 59, 0, 999, 0, 0), (31, .dup, 0, 0, 0, 0), (32, .ldc 61, 999, 0, 0, 0), (34, .invokespecial 63, 0, 999, 0, 0), (37, .athrow, 0, 0, 0, 0), (38, .aload_n 0, 0, 0, 0, 0), (39, .getfield 12, 0, 8, 0, 295), (42, .iload_n 1, 0, 0, 0, 0), (43, .invokevirtual 64, 0, 70, 1, 713), (46, .aload_n 0, 0, 0, 0, 0), (47, .iconst 0, 0, 0, 0, 0), (48, .putfield 41, 0, 8, 6, 301), (51, .aload_n 0, 0, 0, 0, 0), (52, .getfield 12, 0, 8, 0, 295), (55, .getfield 67, 0, 6, 1, 120), (58, .ireturn, 0, 0, 0, 0)]
def mC78 : List (Nat × Instr × Nat × Nat × Nat × Nat) := [(0, .iload_n 1, 0, 0, 0, 0), (1, .ifCond .ge 13, 0, 0, 0, 0), (4, .new 49, 0, 999, 0, 0), (7, .dup, 0, 0, 0, 0), (8, .ldc 71, 999, 0, 0, 0), (10, .invokespecial 53, 0, 999, 0, 0), (13, .athrow, 0, 0, 0, 0), (14, .aload_n 0, 0, 0, 0, 0), (15, .getfield 12, 0, 8, 0, 295), (18, .iload_n 1, 0, 0, 0, 0), (19, .invokestatic 73, 0, 72, 1, 727), (22, .invokevirtual 56, 0, 69, 1, 693), (25, .ifCond .ne 13, 0, 0, 0, 0), (28, .new 59, 0, 999, 0, 0), (31, .dup, 0, 0, 0, 0), (32, .ldc 61, 999, 0, 0, 0), (34, .invokespecial 63, 0, 999, 0, 0), (37, .athrow, 0, 0, 0, 0), (38, .aload_n 0, 0, 0, 0, 0), (39, .getfield 12, 0, 8, 0, 295), (42, .iload_n 1, 0, 0, 0, 0), (43, .invokevirtual 77, 0, 71, 1, 730), (46, .aload_n 0, 0, 0, 0, 0), (47, .iconst 0, 0, 0, 0, 0), (48, .putfield 41, 0, 8, 6, 301), (51, .aload_n 0, 0, 0, 0, 0), (52, .getfield 12, 0, 8, 0, 295), (55, .getfield 67, 0, 6, 1, 120), (58, .ireturn, 0, 0, 0, 0)]
def mC79 : List (Nat × Instr × Nat × Nat × Nat × Nat) := [(0, .iload_n 1, 0, 0, 0, 0), (1, .ifCond .lt 20, 0, 0, 0, 0), (4, .iload_n 1, 0, 0, 0, 0), (5, .bipush 26, 0, 0, 0, 0), (7, .if_icmp .ge 14, 0, 0, 0, 0), (10, .iload_n 2, 0, 0, 0, 0), (11, .iconst 1, 0, 0, 0, 0), (12, .if_icmp .lt 9, 0, 0, 0, 0), (15, .iload_n 2, 0, 0, 0, 0), (16, .bipush 12, 0, 0, 0, 0), (18, .if_icmp .le 13, 0, 0, 0, 0), (21, .new 49, 0, 999, 0, 0), (24, .dup, 0, 0, 0, 0), (25, .ldc 80, 999, 0, 0, 0), (27, .invokespecial 53, 0, 999, 0, 0), (30, .athrow, 0, 0, 0, 0), (31, .aload_n 0, 0, 0, 0, 0), (32, .getfield 12, 0, 8, 0, 295), (35, .iload_n 2, 0, 0, 0, 0), (36, .invokevirtual 56, 0, 69, 1, 693), (39, .ifCond .ne 13, 0, 0, 0, 0), (42, .new 59, 0, 999, 0, 0), (45, .dup, 0, 0, 0, 0), (46, .ldc 61, 999, 0, 0, 0), (48, .invokespecial 63, 0, 999, 0, 0), (51, .athrow, 0, 0, 0, 0), (52, .iconst 0, 0, 0, 0, 0), (53, .istore_n 3, 0, 0, 0, 0), (54, .iload_n 3, 0, 0, 0, 0), (55, .iload_n 2, 0, 0, 0, 0), (56, .if_icmp .ge 25, 0, 0, 0, 0), (59, .aload_n 0, 0, 0, 0, 0), (60, .getfield 12, 0, 8, 0, 295), (63, .bipush 20, 0, 0, 0, 0), (65, .iload_n 1, 0, 0, 0, 0), (66, .iload_n 3, 0, 0, 0, 0), (67, .iadd, 0, 0, 0, 0), (68, .bipush 26, 0, 0, 0, 0), (70, .irem, 0, 0, 0, 0), (71, .iadd, 0, 0, 0, 0), (72, .invokevirtual 64, 0, 70, 1, 713), (75, .iinc 3 1, 0, 0, 0, 0), (78, .goto (-24), 0, 0, 0, 0), (81, .aload_n 0, 0, 0, 0, 0), (82, .iconst 0, 0, 0, 0, 0), (83, .putfield 41, 0, 8, 6, 301), (86, .aload_n 0, 0, 0, 0, 0), (87, .getfield 12, 0, 8, 0, 295), (90, .getfield 67, 0, 6, 1, 120), (93, .ireturn, 0, 0, 0, 0)]
def mC80 : List (Nat × Instr × Nat × Nat × Nat × Nat) := [(0, .iload_n 1, 0, 0, 0, 0), (1, .ifCond .lt 19, 0, 0, 0, 0), (4, .iload_n 2, 0, 0, 0, 0), (5, .ifCond .lt 15, 0, 0, 0, 0), (8, .iload_n 3, 0, 0, 0, 0), (9, .ifCond .lt 11, 0, 0, 0, 0), (12, .iload 4, 0, 0, 0, 0), (14, .invokestatic 45, 0, 106, 1, 622), (17, .ifCond .ne 13, 0, 0, 0, 0), (20, .new 49, 0, 999, 0, 0), (23, .dup, 0, 0, 0, 0), (24, .ldc 82, 999, 0, 0, 0), (26, .invokespecial 53, 0, 999, 0, 0), (29, .athrow, 0, 0, 0, 0), (30, .aload_n 0, 0, 0, 0, 0), (31, .getfield 12, 0, 8, 0, 295), (34, .iload_n 1, 0, 0, 0, 0), (35, .invokestatic 73, 0, 72, 1, 727), (38, .iload_n 2, 0, 0, 0, 0), (39, .invokestatic 73, 0, 72, 1, 727), (42, .iadd, 0, 0, 0, 0), (43, .iload_n 3, 0, 0, 0, 0), (44, .invokestatic 73, 0, 72, 1, 727), (47, .iadd, 0, 0, 0, 0), (48, .iconst 2, 0, 0, 0, 0), (49, .iadd, 0, 0, 0, 0), (50, .invokevirtual 56, 0, 69, 1, 693), (53, .ifCond .ne 13, 0, 0, 0, 0), (56, .new 59, 0, 999, 0, 0), (59, .dup, 0, 0, 0, 0), (60, .ldc 61, 999, 0, 0, 0), (62, .invokespecial 63, 0, 999, 0, 0), (65, .athrow, 0, 0, 0, 0), (66, .aload_n 0, 0, 0, 0, 0), (67, .getfield 12, 0, 8, 0, 295), (70, .iload_n 1, 0, 0, 0, 0), (71, .invokevirtual 77, 0, 71, 1, 730), (74, .aload_n 0, 0, 0, 0, 0), (75, .getfield 12, 0, 8, 0, 295), (78, .iload 4, 0, 0, 0, 0), (80, .invokevirtual 64, 0, 70, 1, 713), (83, .aload_n 0, 0, 0, 0, 0), (84, .getfield 12, 0, 8, 0, 295), (87, .iload_n 2, 0, 0, 0, 0), (88, .invokevirtual 77, 0, 71, 1, 730), (91, .aload_n 0, 0, 0, 0, 0), (92, .getfield 12, 0, 8, 0, 295), (95, .iload 4, 0, 0, 0, 0), (97, .invokevirtual 64, 0, 70, 1, 713), (100, .aload_n 0, 0, 0, 0, 0), (101, .getfield 12, 0, 8, 0, 295), (104, .iload_n 3, 0, 0, 0, 0), (105, .invokevirtual 77, 0, 71, 1, 730), (108, .aload_n 0, 0, 0, 0, 0), (109, .iconst 0, 0, 0, 0, 0), (110, .putfield 41, 0, 8, 6, 301), (113, .aload_n 0, 0, 0, 0, 0), (114, .getfield 12, 0, 8, 0, 295), (117, .getfield 67, 0, 6, 1, 120), (120, .ireturn, 0, 0, 0, 0)]
def mC81 : List (Nat × Instr × Nat × Nat × Nat × Nat) := [(0, .aload_n 0, 0, 0, 0, 0), (1, .getfield 12, 0, 8, 0, 295), (4, .getfield 67, 0, 6, 1, 120), (7, .istore_n 1, 0, 0, 0, 0), (8, .aload_n 0, 0, 0, 0, 0), (9, .getfield 12, 0, 8, 0, 295), (12, .iconst 0, 0, 0, 0, 0), (13, .putfield 67, 0, 6, 1, 120), (16, .aload_n 0, 0, 0, 0, 0), (17, .iconst 0, 0, 0, 0, 0), (18, .putfield 41, 0, 8, 6, 301), (21, .iload_n 1, 0, 0, 0, 0), (22, .ireturn, 0, 0, 0, 0)]
def mC82 : List (Nat × Instr × Nat × Nat × Nat × Nat) := [(0, .iload_n 1, 0, 0, 0, 0), (1, .ifCond .lt 8, 0, 0, 0, 0), (4, .iload_n 1, 0, 0, 0, 0), (5, .iconst 2, 0, 0, 0, 0), (6, .if_icmp .le 13, 0, 0, 0, 0), (9, .new 49, 0, 999, 0, 0), (12, .dup, 0, 0, 0, 0), (13, .ldc 84, 999, 0, 0, 0), (15, .invokespecial 53, 0, 999, 0, 0), (18, .athrow, 0, 0, 0, 0), (19, .iload_n 2, 0, 0, 0, 0), (20, .iconst (-1), 0, 0, 0, 0), (21, .if_icmp .lt 16, 0, 0, 0, 0), (24, .iload_n 2, 0, 0, 0, 0), (25, .iload_n 1, 0, 0, 0, 0), (26, .ifCond .ne 7, 0, 0, 0, 0), (29, .iconst 3, 0, 0, 0, 0), (30, .goto 4, 0, 0, 0, 0), (33, .iconst 1, 0, 0, 0, 0), (34, .if_icmp .le 13, 0, 0, 0, 0), (37, .new 49, 0, 999, 0, 0), (40, .dup, 0, 0, 0, 0), (41, .ldc 86, 999, 0, 0, 0), (43, .invokespecial 53, 0, 999, 0, 0), (46, .athrow, 0, 0, 0, 0), (47, .aload_n 0, 0, 0, 0, 0), (48, .getfield 19, 0, 8, 1, 296), (51, .getfield 88, 0, 7, 0, 140), (54, .iload_n 1, 0, 0, 0, 0), (55, .invokevirtual 92, 0, 20, 1, 385), (58, .istore_n 3, 0, 0, 0, 0), (59, .aload_n 0, 0, 0, 0, 0), (60, .getfield 19, 0, 8, 1, 296), (63, .getfield 88, 0, 7, 0, 140), (66, .iload_n 1, 0, 0, 0, 0), (67, .iload_n 2, 0, 0, 0, 0), (68, .invokevirtual 97, 0, 21, 2, 760), (71, .aload_n 0, 0, 0, 0, 0), (72, .invokevirtual 101, 0, 113, 0, 381), (75, .iload_n 3, 0, 0, 0, 0), (76, .ireturn, 0, 0, 0, 0)]
def mC83 : List (Nat × Instr × Nat × Nat × Nat × Nat) := [(0, .iload_n 1, 0, 0, 0, 0), (1, .invokestatic 104, 0, 108, 1, 768), (4, .ifCond .ne 13, 0, 0, 0, 0), (7, .new 49, 0, 999, 0, 0), (10, .dup, 0, 0, 0, 0), (11, .ldc 107, 999, 0, 0, 0), (13, .invokespecial 53, 0, 999, 0, 0), (16, .athrow, 0, 0, 0, 0), (17, .aload_n 0, 0, 0, 0, 0), (18, .getfield 19, 0, 8, 1, 296), (21, .getfield 109, 0, 7, 2, 145), (24, .istore_n 2, 0, 0, 0, 0), (25, .aload_n 0, 0, 0, 0, 0), (26, .getfield 19, 0, 8, 1, 296), (29, .iload_n 1, 0, 0, 0, 0), (30, .putfield 109, 0, 7, 2, 145), (33, .aload_n 0, 0, 0, 0, 0), (34, .invokevirtual 101, 0, 113, 0, 381), (37, .iload_n 2, 0, 0, 0, 0), (38, .ireturn, 0, 0, 0, 0)]
def mC84 : List (Nat × Instr × Nat × Nat × Nat × Nat) := [(0, .iload_n 1, 0, 0, 0, 0), (1, .ifCond .lt 9, 0, 0, 0, 0), (4, .iload_n 1, 0, 0, 0, 0), (5, .bipush 20, 0, 0, 0, 0), (7, .if_icmp .lt 13, 0, 0, 0, 0), (10, .new 112, 0, 999, 0, 0), (13, .dup, 0, 0, 0, 0), (14, .ldc 114, 999, 0, 0, 0), (16, .invokespecial 116, 0, 999, 0, 0), (19, .athrow, 0, 0, 0, 0), (20, .iload_n 2, 0, 0, 0, 0), (21, .ifCond .lt 8, 0, 0, 0, 0), (24, .iload_n 2, 0, 0, 0, 0), (25, .iconst 3, 0, 0, 0, 0), (26, .if_icmp .le 13, 0, 0, 0, 0), (29, .new 49, 0, 999, 0, 0), (32, .dup, 0, 0, 0, 0), (33, .ldc 117, 999, 0, 0, 0), (35, .invokespecial 53, 0, 999, 0, 0), (38, .athrow, 0, 0, 0, 0), (39, .aload_n 0, 0, 0, 0, 0), (40, .getfield 19, 0, 8, 1, 296), (43, .getfield 119, 0, 7, 1, 142), (46, .iload_n 1, 0, 0, 0, 0), (47, .invokevirtual 92, 0, 20, 1, 385), (50, .istore_n 3, 0, 0, 0, 0), (51, .aload_n 0, 0, 0, 0, 0), (52, .getfield 19, 0, 8, 1, 296), (55, .getfield 119, 0, 7, 1, 142), (58, .iload_n 1, 0, 0, 0, 0), (59, .iload_n 2, 0, 0, 0, 0), (60, .invokevirtual 97, 0, 21, 2, 760), (63, .aload_n 0, 0, 0, 0, 0), (64, .invokevirtual 101, 0, 113, 0, 381), (67, .iload_n 3, 0, 0, 0, 0), (68, .ireturn, 0, 0, 0, 0)]
def mC85 : List (Nat × Instr × Nat × Nat × Nat × Nat) := [(0, .iload_n 1, 0, 0, 0, 0), (1, .ifCond .lt 8, 0, 0, 0, 0), (4, .iload_n 1, 0, 0, 0, 0), (5, .iconst 2, 0, 0, 0, 0), (6, .if_icmp .le 13, 0, 0, 0, 0), (9, .new 49, 0, 999, 0, 0), (12, .dup, 0, 0, 0, 0), (13, .ldc 122, 999, 0, 0, 0), (15, .invokespecial 53, 0, 999, 0, 0), (18, .athrow, 0, 0, 0, 0), (19, .aload_n 0, 0, 0, 0, 0), (20, .invokevirtual 124, 0, 109, 0, 325), (23, .iload_n 1, 0, 0, 0, 0), (24, .invokevirtual 128, 0, 56, 1, 537), (27, .ireturn, 0, 0, 0, 0)]
def mC86 : List (Nat × Instr × Nat × Nat × Nat × Nat) := [(0, .iload_n 1, 0, 0, 0, 0), (1, .invokestatic 131, 0, 107, 1, 812), (4, .ifCond .ne 13, 0, 0, 0, 0), (7, .new 49, 0, 999, 0, 0), (10, .dup, 0, 0, 0, 0), (11, .ldc 134, 999, 0, 0, 0), (13, .invokespecial 53, 0, 999, 0, 0), (16, .athrow, 0, 0, 0, 0), (17, .aload_n 0, 0, 0, 0, 0), (18, .invokevirtual 136, 0, 112, 0, 329), (21, .aload_n 0, 0, 0, 0, 0), (22, .iload_n 1, 0, 0, 0, 0), (23, .invokevirtual 139, 0, 111, 1, 398), (26, .getfield 143, 0, 5, 0, 250), (29, .invokevirtual 147, 0, 34, 0, 390), (32, .ireturn, 0, 0, 0, 0)]
def mC87 : List (Nat × Instr × Nat × Nat × Nat × Nat) := [(0, .iload_n 1, 0, 0, 0, 0), (1, .ifCond .lt 9, 0, 0, 0, 0), (4, .iload_n 1, 0, 0, 0, 0), (5, .bipush 6, 0, 0, 0, 0), (7, .if_icmp .le 13, 0, 0, 0, 0), (10, .new 49, 0, 999, 0, 0), (13, .dup, 0, 0, 0, 0), (14, .ldc 153, 999, 0, 0, 0), (16, .invokespecial 53, 0, 999, 0, 0), (19, .athrow, 0, 0, 0, 0), (20, .iload_n 1, 0, 0, 0, 0), (21, .ifCond .ne 13, 0, 0, 0, 0), (24, .aload_n 0, 0, 0, 0, 0), (25, .getfield 12, 0, 8, 0, 295), (28, .getfield 67, 0, 6, 1, 120), (31, .goto 11, 0, 0, 0, 0), (34, .aload_n 0, 0, 0, 0, 0), (35, .invokevirtual 124, 0, 109, 0, 325), (38, .iload_n 1, 0, 0, 0, 0), (39, .invokevirtual 155, 0, 57, 1, 545), (42, .ireturn, 0, 0, 0, 0)]
def mC88 : List (Nat × Instr × Nat × Nat × Nat × Nat) := [(0, .aload_n 0, 0, 0, 0, 0), (1, .invokevirtual 124, 0, 109, 0, 325), (4, .getfield 143, 0, 5, 0, 250), (7, .astore_n 2, 0, 0, 0, 0), (8, .iload_n 1, 0, 0, 0, 0), (9, .ifCond .lt 11, 0, 0, 0, 0), (12, .iload_n 1, 0, 0, 0, 0), (13, .aload_n 2, 0, 0, 0, 0), (14, .getfield 158, 0, 4, 9, 189), (17, .if_icmp .lt 13, 0, 0, 0, 0), (20, .new 112, 0, 999, 0, 0), (23, .dup, 0, 0, 0, 0), (24, .ldc 161, 999, 0, 0, 0), (26, .invokespecial 116, 0, 999, 0, 0), (29, .athrow, 0, 0, 0, 0), (30, .aload_n 2, 0, 0, 0, 0), (31, .getfield 163, 0, 4, 6, 183), (34, .iload_n 1, 0, 0, 0, 0), (35, .invokevirtual 92, 0, 20, 1, 385), (38, .ireturn, 0, 0, 0, 0)]
def mC89 : List (Nat × Instr × Nat × Nat × Nat × Nat) := [(0, .aload_n 0, 0, 0, 0, 0), (1, .invokevirtual 124, 0, 109, 0, 325), (4, .astore 4, 0, 0, 0, 0), (6, .aload 4, 0, 0, 0, 0), (8, .getfield 143, 0, 5, 0, 250), (11, .iload_n 1, 0, 0, 0, 0), (12, .iload_n 2, 0, 0, 0, 0), (13, .invokevirtual 166, 0, 36, 2, 560), (16, .istore 5, 0, 0, 0, 0), (18, .iload 5, 0, 0, 0, 0), (20, .iconst (-1), 0, 0, 0, 0), (21, .if_icmp .ne 13, 0, 0, 0, 0), (24, .new 112, 0, 999, 0, 0), (27, .dup, 0, 0, 0, 0), (28, .ldc 170, 999, 0, 0, 0), (30, .invokespecial 116, 0, 999, 0, 0), (33, .athrow, 0, 0, 0, 0), (34, .iload_n 3, 0, 0, 0, 0), (35, .ifCond .lt 8, 0, 0, 0, 0), (38, .iload_n 3, 0, 0, 0, 0), (39, .iconst 4, 0, 0, 0, 0), (40, .if_icmp .le 13, 0, 0, 0, 0), (43, .new 49, 0, 999, 0, 0), (46, .dup, 0, 0, 0, 0), (47, .ldc 172, 999, 0, 0, 0), (49, .invokespecial 53, 0, 999, 0, 0), (52, .athrow, 0, 0, 0, 0), (53, .aload 4, 0, 0, 0, 0), (55, .iload 5, 0, 0, 0, 0), (57, .iload_n 3, 0, 0, 0, 0), (58, .invokevirtual 174, 0, 58, 2, 561), (61, .ireturn, 0, 0, 0, 0)]
def mC90 : List (Nat × Instr × Nat × Nat × Nat × Nat) := [(0, .aload_n 0, 0, 0, 0, 0), (1, .invokevirtual 124, 0, 109, 0, 325), (4, .getfield 143, 0, 5, 0, 250), (7, .astore 4, 0, 0, 0, 0), (9, .aload 4, 0, 0, 0, 0), (11, .iload_n 1, 0, 0, 0, 0), (12, .iload_n 2, 0, 0, 0, 0), (13, .invokevirtual 166, 0, 36, 2, 560), (16, .istore 5, 0, 0, 0, 0), (18, .iload 5, 0, 0, 0, 0), (20, .iconst (-1), 0, 0, 0, 0), (21, .if_icmp .ne 13, 0, 0, 0, 0), (24, .new 112, 0, 999, 0, 0), (27, .dup, 0, 0, 0, 0), (28, .ldc 170, 999, 0, 0, 0), (30, .invokespecial 116, 0, 999, 0, 0), (33, .athrow, 0, 0, 0, 0), (34, .iload_n 3, 0, 0, 0, 0), (35, .ifCond .lt 17, 0, 0, 0, 0), (38, .iload_n 3, 0, 0, 0, 0), (39, .aload 4, 0, 0, 0, 0), (41, .getfield 177, 0, 4, 2, 175), (44, .iload 5, 0, 0, 0, 0), (46, .invokevirtual 92, 0, 20, 1, 385), (49, .if_icmp .lt 5, 0, 0, 0, 0), (52, .iconst (-1), 0, 0, 0, 0), (53, .ireturn, 0, 0, 0, 0), (54, .aload 4, 0, 0, 0, 0), (56, .getfield 180, 0, 4, 0, 169), (59, .aload 4, 0, 0, 0, 0), (61, .getfield 183, 0, 4, 1, 172), (64, .iload 5, 0, 0, 0, 0), (66, .invokevirtual 92, 0, 20, 1, 385), (69, .iload_n 3, 0, 0, 0, 0), (70, .iadd, 0, 0, 0, 0), (71, .invokevirtual 92, 0, 20, 1, 385), (74, .ireturn, 0, 0, 0, 0)]
def mC91 : List (Nat × Instr × Nat × Nat × Nat × Nat) := [(0, .aload_n 0, 0, 0, 0, 0), (1, .invokevirtual 124, 0, 109, 0, 325), (4, .astore_n 3, 0, 0, 0, 0), (5, .aload_n 3, 0, 0, 0, 0), (6, .iload_n 1, 0, 0, 0, 0), (7, .invokevirtual 186, 0, 54, 1, 855), (10, .ifCond .ne 13, 0, 0, 0, 0), (13, .new 112, 0, 999, 0, 0), (16, .dup, 0, 0, 0, 0), (17, .ldc 189, 999, 0, 0, 0), (19, .invokespecial 116, 0, 999, 0, 0), (22, .athrow, 0, 0, 0, 0), (23, .iload_n 2, 0, 0, 0, 0), (24, .ifCond .lt 8, 0, 0, 0, 0), (27, .iload_n 2, 0, 0, 0, 0), (28, .iconst 4, 0, 0, 0, 0), (29, .if_icmp .le 13, 0, 0, 0, 0), (32, .new 49, 0, 999, 0, 0), (35, .dup, 0, 0, 0, 0), (36, .ldc 191, 999, 0, 0, 0), (38, .invokespecial 53, 0, 999, 0, 0), (41, .athrow, 0, 0, 0, 0), (42, .aload_n 3, 0, 0, 0, 0), (43, .iload_n 1, 0, 0, 0, 0), (44, .iload_n 2, 0, 0, 0, 0), (45, .invokevirtual 193, 0, 59, 2, 569), (48, .ireturn, 0, 0, 0, 0)]
def mC92 : List (Nat × Instr × Nat × Nat × Nat × Nat) := [(0, .aload_n 0, 0, 0, 0, 0), (1, .invokevirtual 124, 0, 109, 0, 325), (4, .astore_n 3, 0, 0, 0, 0), (5, .aload_n 3, 0, 0, 0, 0), (6, .iload_n 1, 0, 0, 0, 0), (7, .invokevirtual 186, 0, 54, 1, 855), (10, .ifCond .ne 13, 0, 0, 0, 0), (13, .new 112, 0, 999, 0, 0), (16, .dup, 0, 0, 0, 0), (17, .ldc 189, 999, 0, 0, 0), (19, .invokespecial 116, 0, 999, 0, 0), (22, .athrow, 0, 0, 0, 0), (23, .iload_n 2, 0, 0, 0, 0), (24, .ifCond .eq 18, 0, 0, 0, 0), (27, .iload_n 2, 0, 0, 0, 0), (28, .iconst 1, 0, 0, 0, 0), (29, .if_icmp .eq 13, 0, 0, 0, 0), (32, .new 49, 0, 999, 0, 0), (35, .dup, 0, 0, 0, 0), (36, .ldc 196, 999, 0, 0, 0), (38, .invokespecial 53, 0, 999, 0, 0), (41, .athrow, 0, 0, 0, 0), (42, .aload_n 3, 0, 0, 0, 0), (43, .iload_n 1, 0, 0, 0, 0), (44, .iload_n 2, 0, 0, 0, 0), (45, .iconst 1, 0, 0, 0, 0), (46, .if_icmp .ne 7, 0, 0, 0, 0), (49, .iconst 1, 0, 0, 0, 0), (50, .goto 4, 0, 0, 0, 0), (53, .iconst 0, 0, 0, 0, 0), (54, .invokevirtual 198, 0, 64, 2, 582), (57, .ireturn, 0, 0, 0, 0)]
def mC93 : List (Nat × Instr × Nat × Nat × Nat × Nat) := [(0, .aload_n 0, 0, 0, 0, 0), (1, .invokevirtual 124, 0, 109, 0, 325), (4, .astore_n 2, 0, 0, 0, 0), (5, .aload_n 2, 0, 0, 0, 0), (6, .iload_n 1, 0, 0, 0, 0), (7, .invokevirtual 186, 0, 54, 1, 855), (10, .ifCond .ne 13, 0, 0, 0, 0), (13, .new 112, 0, 999, 0, 0), (16, .dup, 0, 0, 0, 0), (17, .ldc 189, 999, 0, 0, 0), (19, .invokespecial 116, 0, 999, 0, 0), (22, .athrow, 0, 0, 0, 0), (23, .aload_n 2, 0, 0, 0, 0), (24, .iload_n 1, 0, 0, 0, 0), (25, .invokevirtual 202, 0, 65, 1, 598), (28, .lreturn, 0, 0, 0, 0)]
def mC94 : List (Nat × Instr × Nat × Nat × Nat × Nat) := [(0, .aload_n 0, 0, 0, 0, 0), (1, .invokevirtual 124, 0, 109, 0, 325), (4, .astore_n 2, 0, 0, 0, 0), (5, .aload_n 2, 0, 0, 0, 0), (6, .iload_n 1, 0, 0, 0, 0), (7, .invokevirtual 186, 0, 54, 1, 855), (10, .ifCond .ne 13, 0, 0, 0, 0), (13, .new 112, 0, 999, 0, 0), (16, .dup, 0, 0, 0, 0), (17, .ldc 189, 999, 0, 0, 0), (19, .invokespecial 116, 0, 999, 0, 0), (22, .athrow, 0, 0, 0, 0), (23, .aload_n 2, 0, 0, 0, 0), (24, .iload_n 1, 0, 0, 0, 0), (25, .invokevirtual 206, 0, 66, 1, 883), (28, .istore_n 3, 0, 0, 0, 0), (29, .iload_n 3, 0, 0, 0, 0), (30, .ifCond .ne 7, 0, 0, 0, 0), (33, .dconst 0, 0, 0, 0, 0), (34, .goto 12, 0, 0, 0, 0), (37, .aload_n 2, 0, 0, 0, 0), (38, .iload_n 1, 0, 0, 0, 0), (39, .invokevirtual 202, 0, 65, 1, 598), (42, .l2d, 0, 0, 0, 0), (43, .iload_n 3, 0, 0, 0, 0), (44, .i2d, 0, 0, 0, 0), (45, .ddiv, 0, 0, 0, 0), (46, .dreturn, 0, 0, 0, 0)]
def mC95 : List (Nat × Instr × Nat × Nat × Nat × Nat) := [(0, .aload_n 0, 0, 0, 0, 0), (1, .invokevirtual 124, 0, 109, 0, 325), (4, .getfield 209, 0, 5, 1, 252), (7, .astore_n 3, 0, 0, 0, 0), (8, .iload_n 1, 0, 0, 0, 0), (9, .ifCond .lt 11, 0, 0, 0, 0), (12, .iload_n 1, 0, 0, 0, 0), (13, .aload_n 3, 0, 0, 0, 0), (14, .getfield 213, 0, 2, 3, 237), (17, .if_icmp .lt 13, 0, 0, 0, 0), (20, .new 112, 0, 999, 0, 0), (23, .dup, 0, 0, 0, 0), (24, .ldc 216, 999, 0, 0, 0), (26, .invokespecial 116, 0, 999, 0, 0), (29, .athrow, 0, 0, 0, 0), (30, .iload_n 2, 0, 0, 0, 0), (31, .ifCond .lt 8, 0, 0, 0, 0), (34, .iload_n 2, 0, 0, 0, 0), (35, .iconst 2, 0, 0, 0, 0), (36, .if_icmp .le 13, 0, 0, 0, 0), (39, .new 49, 0, 999, 0, 0), (42, .dup, 0, 0, 0, 0), (43, .ldc 218, 999, 0, 0, 0), (45, .invokespecial 53, 0, 999, 0, 0), (48, .athrow, 0, 0, 0, 0), (49, .aload_n 3, 0, 0, 0, 0), (50, .iload_n 1, 0, 0, 0, 0), (51, .iload_n 2, 0, 0, 0, 0), (52, .invokevirtual 220, 0, 2, 2, 605), (55, .ireturn, 0, 0, 0, 0)]
def mC96 : List (Nat × Instr × Nat × Nat × Nat × Nat) := [(0, .aload_n 0, 0, 0, 0, 0), (1, .invokevirtual 124, 0, 109, 0, 325), (4, .astore_n 2, 0, 0, 0, 0), (5, .aload_n 2, 0, 0, 0, 0), (6, .iload_n 1, 0, 0, 0, 0), (7, .invokevirtual 223, 0, 55, 1, 903), (10, .ifCond .ne 13, 0, 0, 0, 0), (13, .new 112, 0, 999, 0, 0), (16, .dup, 0, 0, 0, 0), (17, .ldc 226, 999, 0, 0, 0), (19, .invokespecial 116, 0, 999, 0, 0), (22, .athrow, 0, 0, 0, 0), (23, .aload_n 2, 0, 0, 0, 0), (24, .getfield 228, 0, 5, 2, 254), (27, .iload_n 1, 0, 0, 0, 0), (28, .invokevirtual 92, 0, 20, 1, 385), (31, .ireturn, 0, 0, 0, 0)]
def mC97 : List (Nat × Instr × Nat × Nat × Nat × Nat) := [(0, .aload_n 0, 0, 0, 0, 0), (1, .invokevirtual 124, 0, 109, 0, 325), (4, .astore_n 3, 0, 0, 0, 0), (5, .aload_n 3, 0, 0, 0, 0), (6, .iload_n 1, 0, 0, 0, 0), (7, .invokevirtual 223, 0, 55, 1, 903), (10, .ifCond .eq 11, 0, 0, 0, 0), (13, .aload_n 3, 0, 0, 0, 0), (14, .iload_n 2, 0, 0, 0, 0), (15, .invokevirtual 186, 0, 54, 1, 855), (18, .ifCond .ne 13, 0, 0, 0, 0), (21, .new 112, 0, 999, 0, 0), (24, .dup, 0, 0, 0, 0), (25, .ldc 231, 999, 0, 0, 0), (27, .invokespecial 116, 0, 999, 0, 0), (30, .athrow, 0, 0, 0, 0), (31, .aload_n 3, 0, 0, 0, 0), (32, .iload_n 1, 0, 0, 0, 0), (33, .iload_n 2, 0, 0, 0, 0), (34, .invokevirtual 233, 0, 62, 2, 916), (37, .ireturn, 0, 0, 0, 0)]
def mC98 : List (Nat × Instr × Nat × Nat × Nat × Nat) := [(0, .aload_n 0, 0, 0, 0, 0), (1, .invokevirtual 124, 0, 109, 0, 325), (4, .astore_n 3, 0, 0, 0, 0), (5, .aload_n 3, 0, 0, 0, 0), (6, .iload_n 1, 0, 0, 0, 0), (7, .invokevirtual 186, 0, 54, 1, 855), (10, .ifCond .ne 13, 0, 0, 0, 0), (13, .new 112, 0, 999, 0, 0), (16, .dup, 0, 0, 0, 0), (17, .ldc 189, 999, 0, 0, 0), (19, .invokespecial 116, 0, 999, 0, 0), (22, .athrow, 0, 0, 0, 0), (23, .aload_n 3, 0, 0, 0, 0), (24, .iload_n 1, 0, 0, 0, 0), (25, .iload_n 2, 0, 0, 0, 0), (26, .invokevirtual 236, 0, 67, 2, 924), (29, .ireturn, 0, 0, 0, 0)]
def mC99 : List (Nat × Instr × Nat × Nat × Nat × Nat) := [(0, .iload_n 1, 0, 0, 0, 0), (1, .invokestatic 131, 0, 107, 1, 812), (4, .ifCond .ne 13, 0, 0, 0, 0), (7, .new 49, 0, 999, 0, 0), (10, .dup, 0, 0, 0, 0), (11, .ldc 134, 999, 0, 0, 0), (13, .invokespecial 53, 0, 999, 0, 0), (16, .athrow, 0, 0, 0, 0), (17, .aload_n 0, 0, 0, 0, 0), (18, .iload_n 1, 0, 0, 0, 0), (19, .invokevirtual 239, 0, 110, 1, 609), (22, .getfield 242, 0, 5, 11, 265), (25, .ireturn, 0, 0, 0, 0)]
def mC100 : List (Nat × Instr × Nat × Nat × Nat × Nat) := [(0, .aload_n 0, 0, 0, 0, 0), (1, .invokevirtual 124, 0, 109, 0, 325), (4, .astore_n 3, 0, 0, 0, 0), (5, .aload_n 3, 0, 0, 0, 0), (6, .iload_n 1, 0, 0, 0, 0), (7, .invokevirtual 186, 0, 54, 1, 855), (10, .ifCond .ne 13, 0, 0, 0, 0), (13, .new 112, 0, 999, 0, 0), (16, .dup, 0, 0, 0, 0), (17, .ldc 189, 999, 0, 0, 0), (19, .invokespecial 116, 0, 999, 0, 0), (22, .athrow, 0, 0, 0, 0), (23, .iload_n 2, 0, 0, 0, 0), (24, .invokestatic 104, 0, 108, 1, 768), (27, .ifCond .ne 13, 0, 0, 0, 0), (30, .new 49, 0, 999, 0, 0), (33, .dup, 0, 0, 0, 0), (34, .ldc 107, 999, 0, 0, 0), (36, .invokespecial 53, 0, 999, 0, 0), (39, .athrow, 0, 0, 0, 0), (40, .aload_n 3, 0, 0, 0, 0), (41, .iload_n 1, 0, 0, 0, 0), (42, .aload_n 3, 0, 0, 0, 0), (43, .getfield 245, 0, 5, 10, 263), (46, .invokevirtual 248, 0, 44, 2, 942), (49, .aload_n 3, 0, 0, 0, 0), (50, .iload_n 2, 0, 0, 0, 0), (51, .invokevirtual 251, 0, 46, 1, 943), (54, .ireturn, 0, 0, 0, 0)]
def mC101 : List (Nat × Instr × Nat × Nat × Nat × Nat) := [(0, .aload_n 0, 0, 0, 0, 0), (1, .invokevirtual 124, 0, 109, 0, 325), (4, .astore_n 1, 0, 0, 0, 0), (5, .ldc2_w 254, 0, 58075, 0, 536), (8, .lstore_n 2, 0, 0, 0, 0), (9, .iconst 0, 0, 0, 0, 0), (10, .istore 4, 0, 0, 0, 0), (12, .iload 4, 0, 0, 0, 0), (14, .iconst 2, 0, 0, 0, 0), (15, .if_icmp .gt 21, 0, 0, 0, 0), (18, .lload_n 2, 0, 0, 0, 0), (19, .aload_n 1, 0, 0, 0, 0), (20, .iload 4, 0, 0, 0, 0), (22, .invokevirtual 128, 0, 56, 1, 537), (25, .i2l, 0, 0, 0, 0), (26, .invokestatic 256, 0, 105, 2, 541), (29, .lstore_n 2, 0, 0, 0, 0), (30, .iinc 4 1, 0, 0, 0, 0), (33, .goto (-21), 0, 0, 0, 0), (36, .iconst 0, 0, 0, 0, 0), (37, .istore 4, 0, 0, 0, 0), (39, .iload 4, 0, 0, 0, 0), (41, .iconst 3, 0, 0, 0, 0), (42, .if_icmp .gt 27, 0, 0, 0, 0), (45, .lload_n 2, 0, 0, 0, 0), (46, .aload_n 0, 0, 0, 0, 0), (47, .iload 4, 0, 0, 0, 0), (49, .invokevirtual 139, 0, 111, 1, 398), (52, .getfield 143, 0, 5, 0, 250), (55, .invokevirtual 147, 0, 34, 0, 390), (58, .i2l, 0, 0, 0, 0), (59, .invokestatic 256, 0, 105, 2, 541), (62, .lstore_n 2, 0, 0, 0, 0), (63, .iinc 4 1, 0, 0, 0, 0), (66, .goto (-27), 0, 0, 0, 0), (69, .lload_n 2, 0, 0, 0, 0), (70, .aload_n 0, 0, 0, 0, 0), (71, .getfield 12, 0, 8, 0, 295), (74, .getfield 67, 0, 6, 1, 120), (77, .i2l, 0, 0, 0, 0), (78, .invokestatic 256, 0, 105, 2, 541), (81, .lstore_n 2, 0, 0, 0, 0), (82, .iconst 1, 0, 0, 0, 0), (83, .istore 4, 0, 0, 0, 0), (85, .iload 4, 0, 0, 0, 0), (87, .bipush 6, 0, 0, 0, 0), (89, .if_icmp .gt 21, 0, 0, 0, 0), (92, .lload_n 2, 0, 0, 0, 0), (93, .aload_n 1, 0, 0, 0, 0), (94, .iload 4, 0, 0, 0, 0), (96, .invokevirtual 155, 0, 57, 1, 545), (99, .i2l, 0, 0, 0, 0), (100, .invokestatic 256, 0, 105, 2, 541), (103, .lstore_n 2, 0, 0, 0, 0), (104, .iinc 4 1, 0, 0, 0, 0), (107, .goto (-22), 0, 0, 0, 0), (110, .lload_n 2, 0, 0, 0, 0), (111, .aload_n 1, 0, 0, 0, 0), (112, .invokestatic 260, 0, 102, 2, 556), (115, .lstore_n 2, 0, 0, 0, 0), (116, .lload_n 2, 0, 0, 0, 0), (117, .aload_n 1, 0, 0, 0, 0), (118, .invokestatic 264, 0, 103, 2, 565), (121, .lstore_n 2, 0, 0, 0, 0), (122, .lload_n 2, 0, 0, 0, 0), (123, .aload_n 1, 0, 0, 0, 0), (124, .invokestatic 267, 0, 104, 2, 602), (127, .lstore_n 2, 0, 0, 0, 0), (128, .iconst 0, 0, 0, 0, 0), (129, .istore 4, 0, 0, 0, 0), (131, .iload 4, 0, 0, 0, 0), (133, .iconst 3, 0, 0, 0, 0), (134, .if_icmp .gt 24, 0, 0, 0, 0), (137, .lload_n 2, 0, 0, 0, 0), (138, .aload_n 0, 0, 0, 0, 0), (139, .iload 4, 0, 0, 0, 0), (141, .invokevirtual 239, 0, 110, 1, 609), (144, .getfield 242, 0, 5, 11, 265), (147, .i2l, 0, 0, 0, 0), (148, .invokestatic 256, 0, 105, 2, 541), (151, .lstore_n 2, 0, 0, 0, 0), (152, .iinc 4 1, 0, 0, 0, 0), (155, .goto (-24), 0, 0, 0, 0), (158, .lload_n 2, 0, 0, 0, 0), (159, .lreturn, 0, 0, 0, 0)]
def mC102 : List (Nat × Instr × Nat × Nat × Nat × Nat) := [(0, .lload_n 0, 0, 0, 0, 0), (1, .lstore_n 3, 0, 0, 0, 0), (2, .iconst 0, 0, 0, 0, 0), (3, .istore 5, 0, 0, 0, 0), (5, .iload 5, 0, 0, 0, 0), (7, .aload_n 2, 0, 0, 0, 0), (8, .getfield 143, 0, 5, 0, 250), (11, .getfield 158, 0, 4, 9, 189), (14, .if_icmp .ge 92, 0, 0, 0, 0), (17, .lload_n 3, 0, 0, 0, 0), (18, .aload_n 2, 0, 0, 0, 0), (19, .getfield 143, 0, 5, 0, 250), (22, .getfield 163, 0, 4, 6, 183), (25, .iload 5, 0, 0, 0, 0), (27, .invokevirtual 92, 0, 20, 1, 385), (30, .i2l, 0, 0, 0, 0), (31, .invokestatic 256, 0, 105, 2, 541), (34, .lstore_n 3, 0, 0, 0, 0), (35, .iconst 0, 0, 0, 0, 0), (36, .istore 6, 0, 0, 0, 0), (38, .iload 6, 0, 0, 0, 0), (40, .aload_n 2, 0, 0, 0, 0), (41, .getfield 143, 0, 5, 0, 250), (44, .iload 5, 0, 0, 0, 0), (46, .invokevirtual 270, 0, 35, 1, 559), (49, .if_icmp .ge 51, 0, 0, 0, 0), (52, .aload_n 2, 0, 0, 0, 0), (53, .getfield 143, 0, 5, 0, 250), (56, .iload 5, 0, 0, 0, 0), (58, .iload 6, 0, 0, 0, 0), (60, .invokevirtual 166, 0, 36, 2, 560), (63, .istore 7, 0, 0, 0, 0), (65, .iconst 0, 0, 0, 0, 0), (66, .istore 8, 0, 0, 0, 0), (68, .iload 8, 0, 0, 0, 0), (70, .iconst 4, 0, 0, 0, 0), (71, .if_icmp .gt 23, 0, 0, 0, 0), (74, .lload_n 3, 0, 0, 0, 0), (75, .aload_n 2, 0, 0, 0, 0), (76, .iload 7, 0, 0, 0, 0), (78, .iload 8, 0, 0, 0, 0), (80, .invokevirtual 174, 0, 58, 2, 561), (83, .i2l, 0, 0, 0, 0), (84, .invokestatic 256, 0, 105, 2, 541), (87, .lstore_n 3, 0, 0, 0, 0), (88, .iinc 8 1, 0, 0, 0, 0), (91, .goto (-23), 0, 0, 0, 0), (94, .iinc 6 1, 0, 0, 0, 0), (97, .goto (-59), 0, 0, 0, 0), (100, .iinc 5 1, 0, 0, 0, 0), (103, .goto (-98), 0, 0, 0, 0), (106, .lload_n 3, 0, 0, 0, 0), (107, .lreturn, 0, 0, 0, 0)]
def mC103 : List (Nat × Instr × Nat × Nat × Nat × Nat) := [(0, .lload_n 0, 0, 0, 0, 0), (1, .lstore_n 3, 0, 0, 0, 0), (2, .iconst 0, 0, 0, 0, 0), (3, .istore 5, 0, 0, 0, 0), (5, .iload 5, 0, 0, 0, 0), (7, .aload_n 2, 0, 0, 0, 0), (8, .getfield 143, 0, 5, 0, 250), (11, .invokevirtual 273, 0, 33, 0, 568), (14, .if_icmp .ge 75, 0, 0, 0, 0), (17, .iconst 0, 0, 0, 0, 0), (18, .istore 6, 0, 0, 0, 0), (20, .iload 6, 0, 0, 0, 0), (22, .iconst 4, 0, 0, 0, 0), (23, .if_icmp .gt 23, 0, 0, 0, 0), (26, .lload_n 3, 0, 0, 0, 0), (27, .aload_n 2, 0, 0, 0, 0), (28, .iload 5, 0, 0, 0, 0), (30, .iload 6, 0, 0, 0, 0), (32, .invokevirtual 193, 0, 59, 2, 569), (35, .i2l, 0, 0, 0, 0), (36, .invokestatic 256, 0, 105, 2, 541), (39, .lstore_n 3, 0, 0, 0, 0), (40, .iinc 6 1, 0, 0, 0, 0), (43, .goto (-23), 0, 0, 0, 0), (46, .lload_n 3, 0, 0, 0, 0), (47, .aload_n 2, 0, 0, 0, 0), (48, .iload 5, 0, 0, 0, 0), (50, .iconst 0, 0, 0, 0, 0), (51, .invokevirtual 198, 0, 64, 2, 582), (54, .i2l, 0, 0, 0, 0), (55, .invokestatic 256, 0, 105, 2, 541), (58, .lstore_n 3, 0, 0, 0, 0), (59, .lload_n 3, 0, 0, 0, 0), (60, .aload_n 2, 0, 0, 0, 0), (61, .iload 5, 0, 0, 0, 0), (63, .iconst 1, 0, 0, 0, 0), (64, .invokevirtual 198, 0, 64, 2, 582), (67, .i2l, 0, 0, 0, 0), (68, .invokestatic 256, 0, 105, 2, 541), (71, .lstore_n 3, 0, 0, 0, 0), (72, .lload_n 3, 0, 0, 0, 0), (73, .aload_n 2, 0, 0, 0, 0), (74, .iload 5, 0, 0, 0, 0), (76, .invokevirtual 202, 0, 65, 1, 598), (79, .invokestatic 256, 0, 105, 2, 541), (82, .lstore_n 3, 0, 0, 0, 0), (83, .iinc 5 1, 0, 0, 0, 0), (86, .goto (-81), 0, 0, 0, 0), (89, .lload_n 3, 0, 0, 0, 0), (90, .lreturn, 0, 0, 0, 0)]
def mC104 : List (Nat × Instr × Nat × Nat × Nat × Nat) := [(0, .lload_n 0, 0, 0, 0, 0), (1, .lstore_n 3, 0, 0, 0, 0), (2, .iconst 0, 0, 0, 0, 0), (3, .istore 5, 0, 0, 0, 0), (5, .iload 5, 0, 0, 0, 0), (7, .aload_n 2, 0, 0, 0, 0), (8, .getfield 209, 0, 5, 1, 252), (11, .getfield 213, 0, 2, 3, 237), (14, .if_icmp .ge 41, 0, 0, 0, 0), (17, .iconst 0, 0, 0, 0, 0), (18, .istore 6, 0, 0, 0, 0), (20, .iload 6, 0, 0, 0, 0), (22, .iconst 2, 0, 0, 0, 0), (23, .if_icmp .gt 26, 0, 0, 0, 0), (26, .lload_n 3, 0, 0, 0, 0), (27, .aload_n 2, 0, 0, 0, 0), (28, .getfield 209, 0, 5, 1, 252), (31, .iload 5, 0, 0, 0, 0), (33, .iload 6, 0, 0, 0, 0), (35, .invokevirtual 220, 0, 2, 2, 605), (38, .i2l, 0, 0, 0, 0), (39, .invokestatic 256, 0, 105, 2, 541), (42, .lstore_n 3, 0, 0, 0, 0), (43, .iinc 6 1, 0, 0, 0, 0), (46, .goto (-26), 0, 0, 0, 0), (49, .iinc 5 1, 0, 0, 0, 0), (52, .goto (-47), 0, 0, 0, 0), (55, .iconst 0, 0, 0, 0, 0), (56, .istore 5, 0, 0, 0, 0), (58, .iload 5, 0, 0, 0, 0), (60, .aload_n 2, 0, 0, 0, 0), (61, .getfield 242, 0, 5, 11, 265), (64, .if_icmp .ge 24, 0, 0, 0, 0), (67, .lload_n 3, 0, 0, 0, 0), (68, .aload_n 2, 0, 0, 0, 0), (69, .getfield 228, 0, 5, 2, 254), (72, .iload 5, 0, 0, 0, 0), (74, .invokevirtual 92, 0, 20, 1, 385), (77, .i2l, 0, 0, 0, 0), (78, .invokestatic 256, 0, 105, 2, 541), (81, .lstore_n 3, 0, 0, 0, 0), (82, .iinc 5 1, 0, 0, 0, 0), (85, .goto (-27), 0, 0, 0, 0), (88, .lload_n 3, 0, 0, 0, 0), (89, .lreturn, 0, 0, 0, 0)]
def mC105 : List (Nat × Instr × Nat × Nat × Nat × Nat) := [(0, .lload_n 0, 0, 0, 0, 0), (1, .ldc2_w 276, 0, 31, 0, 544), (4, .lmul, 0, 0, 0, 0), (5, .lload_n 2, 0, 0, 0, 0), (6, .ladd, 0, 0, 0, 0), (7, .lreturn, 0, 0, 0, 0)]
def mC106 : List (Nat × Instr × Nat × Nat × Nat × Nat) := [(0, .iload_n 0, 0, 0, 0, 0), (1, .ifCond .lt 13, 0, 0, 0, 0), (4, .iload_n 0, 0, 0, 0, 0), (5, .bipush 45, 0, 0, 0, 0), (7, .if_icmp .gt 7, 0, 0, 0, 0), (10, .iconst 1, 0, 0, 0, 0), (11, .goto 4, 0, 0, 0, 0), (14, .iconst 0, 0, 0, 0, 0), (15, .ireturn, 0, 0, 0, 0)]
def mC107 : List (Nat × Instr × Nat × Nat × Nat × Nat) := [(0, .iload_n 0, 0, 0, 0, 0), (1, .ifCond .lt 12, 0, 0, 0, 0), (4, .iload_n 0, 0, 0, 0, 0), (5, .iconst 3, 0, 0, 0, 0), (6, .if_icmp .gt 7, 0, 0, 0, 0), (9, .iconst 1, 0, 0, 0, 0), (10, .goto 4, 0, 0, 0, 0), (13, .iconst 0, 0, 0, 0, 0), (14, .ireturn, 0, 0, 0, 0)]
def mC108 : List (Nat × Instr × Nat × Nat × Nat × Nat) := [(0, .iload_n 0, 0, 0, 0, 0), (1, .iconst 1, 0, 0, 0, 0), (2, .if_icmp .lt 13, 0, 0, 0, 0), (5, .iload_n 0, 0, 0, 0, 0), (6, .bipush 100, 0, 0, 0, 0), (8, .if_icmp .gt 7, 0, 0, 0, 0), (11, .iconst 1, 0, 0, 0, 0), (12, .goto 4, 0, 0, 0, 0), (15, .iconst 0, 0, 0, 0, 0), (16, .ireturn, 0, 0, 0, 0)]
def mC109 : List (Nat × Instr × Nat × Nat × Nat × Nat) := [(0, .aload_n 0, 0, 0, 0, 0), (1, .invokevirtual 136, 0, 112, 0, 329), (4, .aload_n 0, 0, 0, 0, 0), (5, .getfield 19, 0, 8, 1, 296), (8, .getfield 88, 0, 7, 0, 140), (11, .iconst 0, 0, 0, 0, 0), (12, .invokevirtual 92, 0, 20, 1, 385), (15, .istore_n 1, 0, 0, 0, 0), (16, .aload_n 0, 0, 0, 0, 0), (17, .iload_n 1, 0, 0, 0, 0), (18, .iconst (-1), 0, 0, 0, 0), (19, .if_icmp .ne 10, 0, 0, 0, 0), (22, .aload_n 0, 0, 0, 0, 0), (23, .invokevirtual 278, 0, 114, 0, 386), (26, .goto 4, 0, 0, 0, 0), (29, .iload_n 1, 0, 0, 0, 0), (30, .invokevirtual 139, 0, 111, 1, 398), (33, .astore_n 2, 0, 0, 0, 0), (34, .aload_n 2, 0, 0, 0, 0), (35, .aload_n 0, 0, 0, 0, 0), (36, .getfield 19, 0, 8, 1, 296), (39, .invokevirtual 281, 0, 40, 1, 402), (42, .aload_n 2, 0, 0, 0, 0), (43, .areturn, 0, 0, 0, 0)]
def mC110 : List (Nat × Instr × Nat × Nat × Nat × Nat) := [(0, .aload_n 0, 0, 0, 0, 0), (1, .invokevirtual 136, 0, 112, 0, 329), (4, .aload_n 0, 0, 0, 0, 0), (5, .iload_n 1, 0, 0, 0, 0), (6, .invokevirtual 139, 0, 111, 1, 398), (9, .astore_n 2, 0, 0, 0, 0), (10, .aload_n 2, 0, 0, 0, 0), (11, .aload_n 0, 0, 0, 0, 0), (12, .getfield 19, 0, 8, 1, 296), (15, .invokevirtual 281, 0, 40, 1, 402), (18, .aload_n 2, 0, 0, 0, 0), (19, .areturn, 0, 0, 0, 0)]
def mC111 : List (Nat × Instr × Nat × Nat × Nat × Nat) := [(0, .iload_n 1, 0, 0, 0, 0), (1, .tableswitch 42 0 2 #[27, 32, 37], 27, 0, 0, 0), (28, .aload_n 0, 0, 0, 0, 0), (29, .getfield 28, 0, 8, 2, 297), (32, .areturn, 0, 0, 0, 0), (33, .aload_n 0, 0, 0, 0, 0), (34, .getfield 32, 0, 8, 3, 298), (37, .areturn, 0, 0, 0, 0), (38, .aload_n 0, 0, 0, 0, 0), (39, .getfield 35, 0, 8, 4, 299), (42, .areturn, 0, 0, 0, 0), (43, .aload_n 0, 0, 0, 0, 0), (44, .getfield 38, 0, 8, 5, 300), (47, .areturn, 0, 0, 0, 0)]
def mC112 : List (Nat × Instr × Nat × Nat × Nat × Nat) := [(0, .aload_n 0, 0, 0, 0, 0), (1, .getfield 41, 0, 8, 6, 301), (4, .ifCond .eq 4, 0, 0, 0, 0), (7, .return_, 0, 0, 0, 0), (8, .aload_n 0, 0, 0, 0, 0), (9, .getfield 28, 0, 8, 2, 297), (12, .getfield 143, 0, 5, 0, 250), (15, .aload_n 0, 0, 0, 0, 0), (16, .getfield 12, 0, 8, 0, 295), (19, .iconst 0, 0, 0, 0, 0), (20, .invokevirtual 285, 0, 23, 2, 333), (23, .aload_n 0, 0, 0, 0, 0), (24, .getfield 32, 0, 8, 3, 298), (27, .getfield 143, 0, 5, 0, 250), (30, .aload_n 0, 0, 0, 0, 0), (31, .getfield 12, 0, 8, 0, 295), (34, .iconst 1, 0, 0, 0, 0), (35, .invokevirtual 285, 0, 23, 2, 333), (38, .aload_n 0, 0, 0, 0, 0), (39, .getfield 35, 0, 8, 4, 299), (42, .getfield 143, 0, 5, 0, 250), (45, .aload_n 0, 0, 0, 0, 0), (46, .getfield 12, 0, 8, 0, 295), (49, .iconst 2, 0, 0, 0, 0), (50, .invokevirtual 285, 0, 23, 2, 333), (53, .aload_n 0, 0, 0, 0, 0), (54, .getfield 38, 0, 8, 5, 300), (57, .getfield 143, 0, 5, 0, 250), (60, .aload_n 0, 0, 0, 0, 0), (61, .getfield 12, 0, 8, 0, 295), (64, .iconst 3, 0, 0, 0, 0), (65, .invokevirtual 285, 0, 23, 2, 333), (68, .aload_n 0, 0, 0, 0, 0), (69, .iconst 1, 0, 0, 0, 0), (70, .putfield 41, 0, 8, 6, 301), (73, .aload_n 0, 0, 0, 0, 0), (74, .invokevirtual 101, 0, 113, 0, 381), (77, .return_, 0, 0, 0, 0)]
def mC113 : List (Nat × Instr × Nat × Nat × Nat × Nat) := [(0, .aload_n 0, 0, 0, 0, 0), (1, .getfield 28, 0, 8, 2, 297), (4, .iconst 0, 0, 0, 0, 0), (5, .putfield 289, 0, 5, 12, 267), (8, .aload_n 0, 0, 0, 0, 0), (9, .getfield 32, 0, 8, 3, 298), (12, .iconst 0, 0, 0, 0, 0), (13, .putfield 289, 0, 5, 12, 267), (16, .aload_n 0, 0, 0, 0, 0), (17, .getfield 35, 0, 8, 4, 299), (20, .iconst 0, 0, 0, 0, 0), (21, .putfield 289, 0, 5, 12, 267), (24, .aload_n 0, 0, 0, 0, 0), (25, .getfield 38, 0, 8, 5, 300), (28, .iconst 0, 0, 0, 0, 0), (29, .putfield 289, 0, 5, 12, 267), (32, .return_, 0, 0, 0, 0)]
def mC114 : List (Nat × Instr × Nat × Nat × Nat × Nat) := [(0, .iconst 0, 0, 0, 0, 0), (1, .istore_n 1, 0, 0, 0, 0), (2, .aload_n 0, 0, 0, 0, 0), (3, .getfield 28, 0, 8, 2, 297), (6, .getfield 143, 0, 5, 0, 250), (9, .invokevirtual 147, 0, 34, 0, 390), (12, .istore_n 2, 0, 0, 0, 0), (13, .iconst 1, 0, 0, 0, 0), (14, .istore_n 3, 0, 0, 0, 0), (15, .iload_n 3, 0, 0, 0, 0), (16, .iconst 3, 0, 0, 0, 0), (17, .if_icmp .gt 33, 0, 0, 0, 0), (20, .aload_n 0, 0, 0, 0, 0), (21, .iload_n 3, 0, 0, 0, 0), (22, .invokevirtual 139, 0, 111, 1, 398), (25, .getfield 143, 0, 5, 0, 250), (28, .invokevirtual 147, 0, 34, 0, 390), (31, .istore 4, 0, 0, 0, 0), (33, .iload 4, 0, 0, 0, 0), (35, .iload_n 2, 0, 0, 0, 0), (36, .if_icmp .le 8, 0, 0, 0, 0), (39, .iload_n 3, 0, 0, 0, 0), (40, .istore_n 1, 0, 0, 0, 0), (41, .iload 4, 0, 0, 0, 0), (43, .istore_n 2, 0, 0, 0, 0), (44, .iinc 3 1, 0, 0, 0, 0), (47, .goto (-32), 0, 0, 0, 0), (50, .iload_n 1, 0, 0, 0, 0), (51, .ireturn, 0, 0, 0, 0)]
def mC115 : List (Nat × Instr × Nat × Nat × Nat × Nat) := [(0, .aload_n 0, 0, 0, 0, 0), (1, .invokespecial 3, 0, 998, 0, 1256), (4, .aload_n 0, 0, 0, 0, 0), (5, .aload_n 1, 0, 0, 0, 0), (6, .putfield 9, 0, 9, 0, 1257), (9, .aload_n 0, 0, 0, 0, 0), (10, .iload_n 2, 0, 0, 0, 0), (11, .putfield 15, 0, 9, 1, 1261), (14, .aload_n 0, 0, 0, 0, 0), (15, .iload_n 3, 0, 0, 0, 0), (16, .putfield 19, 0, 9, 2, 1265), (19, .return_, 0, 0, 0, 0)]
def mC116 : List (Nat × Instr × Nat × Nat × Nat × Nat) := [(0, .aload_n 0, 0, 0, 0, 0), (1, .getfield 9, 0, 9, 0, 1257), (4, .arraylength, 0, 0, 0, 0), (5, .aload_n 1, 0, 0, 0, 0), (6, .getfield 9, 0, 9, 0, 1257), (9, .arraylength, 0, 0, 0, 0), (10, .if_icmp .eq 5, 0, 0, 0, 0), (13, .iconst 0, 0, 0, 0, 0), (14, .ireturn, 0, 0, 0, 0), (15, .iconst 0, 0, 0, 0, 0), (16, .istore_n 2, 0, 0, 0, 0), (17, .iload_n 2, 0, 0, 0, 0), (18, .aload_n 0, 0, 0, 0, 0), (19, .getfield 9, 0, 9, 0, 1257), (22, .arraylength, 0, 0, 0, 0), (23, .if_icmp .ge 26, 0, 0, 0, 0), (26, .aload_n 0, 0, 0, 0, 0), (27, .getfield 9, 0, 9, 0, 1257), (30, .iload_n 2, 0, 0, 0, 0), (31, .iaload, 0, 0, 0, 0), (32, .aload_n 1, 0, 0, 0, 0), (33, .getfield 9, 0, 9, 0, 1257), (36, .iload_n 2, 0, 0, 0, 0), (37, .iaload, 0, 0, 0, 0), (38, .if_icmp .eq 5, 0, 0, 0, 0), (41, .iconst 0, 0, 0, 0, 0), (42, .ireturn, 0, 0, 0, 0), (43, .iinc 2 1, 0, 0, 0, 0), (46, .goto (-29), 0, 0, 0, 0), (49, .iconst 1, 0, 0, 0, 0), (50, .ireturn, 0, 0, 0, 0)]
def mC117 : List (Nat × Instr × Nat × Nat × Nat × Nat) := [(0, .iload_n 1, 0, 0, 0, 0), (1, .aload_n 0, 0, 0, 0, 0), (2, .getfield 9, 0, 9, 0, 1257), (5, .arraylength, 0, 0, 0, 0), (6, .if_icmp .ge 29, 0, 0, 0, 0), (9, .aload_n 0, 0, 0, 0, 0), (10, .getfield 9, 0, 9, 0, 1257), (13, .iload_n 1, 0, 0, 0, 0), (14, .iaload, 0, 0, 0, 0), (15, .bipush 10, 0, 0, 0, 0), (17, .if_icmp .lt 18, 0, 0, 0, 0), (20, .aload_n 0, 0, 0, 0, 0), (21, .getfield 9, 0, 9, 0, 1257), (24, .iload_n 1, 0, 0, 0, 0), (25, .iaload, 0, 0, 0, 0), (26, .bipush 20, 0, 0, 0, 0), (28, .if_icmp .ge 7, 0, 0, 0, 0), (31, .iconst 1, 0, 0, 0, 0), (32, .goto 4, 0, 0, 0, 0), (35, .iconst 0, 0, 0, 0, 0), (36, .ireturn, 0, 0, 0, 0)]
def mC118 : List (Nat × Instr × Nat × Nat × Nat × Nat) := [(0, .iconst 0, 0, 0, 0, 0), (1, .istore_n 2, 0, 0, 0, 0), (2, .aload_n 0, 0, 0, 0, 0), (3, .iload_n 1, 0, 0, 0, 0), (4, .iload_n 2, 0, 0, 0, 0), (5, .iadd, 0, 0, 0, 0), (6, .invokevirtual 23, 0, 117, 1, 1346), (9, .ifCond .eq 9, 0, 0, 0, 0), (12, .iinc 2 1, 0, 0, 0, 0), (15, .goto (-13), 0, 0, 0, 0), (18, .iload_n 2, 0, 0, 0, 0), (19, .ireturn, 0, 0, 0, 0)]
def mC119 : List (Nat × Instr × Nat × Nat × Nat × Nat) := [(0, .iconst 0, 0, 0, 0, 0), (1, .istore_n 3, 0, 0, 0, 0), (2, .iload_n 1, 0, 0, 0, 0), (3, .istore 4, 0, 0, 0, 0), (5, .iload 4, 0, 0, 0, 0), (7, .iload_n 1, 0, 0, 0, 0), (8, .iload_n 2, 0, 0, 0, 0), (9, .iadd, 0, 0, 0, 0), (10, .if_icmp .ge 25, 0, 0, 0, 0), (13, .bipush 10, 0, 0, 0, 0), (15, .iload_n 3, 0, 0, 0, 0), (16, .imul, 0, 0, 0, 0), (17, .aload_n 0, 0, 0, 0, 0), (18, .getfield 9, 0, 9, 0, 1257), (21, .iload 4, 0, 0, 0, 0), (23, .iaload, 0, 0, 0, 0), (24, .iadd, 0, 0, 0, 0), (25, .bipush 10, 0, 0, 0, 0), (27, .isub, 0, 0, 0, 0), (28, .istore_n 3, 0, 0, 0, 0), (29, .iinc 4 1, 0, 0, 0, 0), (32, .goto (-27), 0, 0, 0, 0), (35, .iload_n 3, 0, 0, 0, 0), (36, .ireturn, 0, 0, 0, 0)]
def mC120 : List (Nat × Instr × Nat × Nat × Nat × Nat) := [(0, .aload_n 0, 0, 0, 0, 0), (1, .getfield 9, 0, 9, 0, 1257), (4, .arraylength, 0, 0, 0, 0), (5, .ifCond .le 18, 0, 0, 0, 0), (8, .aload_n 0, 0, 0, 0, 0), (9, .getfield 9, 0, 9, 0, 1257), (12, .iconst 0, 0, 0, 0, 0), (13, .iaload, 0, 0, 0, 0), (14, .bipush 8, 0, 0, 0, 0), (16, .if_icmp .ne 7, 0, 0, 0, 0), (19, .iconst 1, 0, 0, 0, 0), (20, .goto 4, 0, 0, 0, 0), (23, .iconst 0, 0, 0, 0, 0), (24, .ireturn, 0, 0, 0, 0)]
def mC121 : List (Nat × Instr × Nat × Nat × Nat × Nat) := [(0, .iload_n 1, 0, 0, 0, 0), (1, .aload_n 0, 0, 0, 0, 0), (2, .getfield 9, 0, 9, 0, 1257), (5, .arraylength, 0, 0, 0, 0), (6, .if_icmp .ge 17, 0, 0, 0, 0), (9, .aload_n 0, 0, 0, 0, 0), (10, .getfield 9, 0, 9, 0, 1257), (13, .iload_n 1, 0, 0, 0, 0), (14, .iaload, 0, 0, 0, 0), (15, .iload_n 2, 0, 0, 0, 0), (16, .if_icmp .ne 7, 0, 0, 0, 0), (19, .iconst 1, 0, 0, 0, 0), (20, .goto 4, 0, 0, 0, 0), (23, .iconst 0, 0, 0, 0, 0), (24, .ireturn, 0, 0, 0, 0)]
def mC122 : List (Nat × Instr × Nat × Nat × Nat × Nat) := [(0, .aload_n 0, 0, 0, 0, 0), (1, .aload_n 0, 0, 0, 0, 0), (2, .invokevirtual 27, 0, 120, 0, 1338), (5, .invokevirtual 31, 0, 118, 1, 1342), (8, .istore_n 2, 0, 0, 0, 0), (9, .aload_n 0, 0, 0, 0, 0), (10, .invokevirtual 27, 0, 120, 0, 1338), (13, .iload_n 2, 0, 0, 0, 0), (14, .iadd, 0, 0, 0, 0), (15, .istore_n 3, 0, 0, 0, 0), (16, .iload_n 2, 0, 0, 0, 0), (17, .iconst 1, 0, 0, 0, 0), (18, .if_icmp .lt 27, 0, 0, 0, 0), (21, .iload_n 2, 0, 0, 0, 0), (22, .bipush 6, 0, 0, 0, 0), (24, .if_icmp .gt 21, 0, 0, 0, 0), (27, .aload_n 0, 0, 0, 0, 0), (28, .iload_n 3, 0, 0, 0, 0), (29, .iload_n 1, 0, 0, 0, 0), (30, .ifCond .ne 8, 0, 0, 0, 0), (33, .bipush 7, 0, 0, 0, 0), (35, .goto 4, 0, 0, 0, 0), (38, .iconst 0, 0, 0, 0, 0), (39, .invokevirtual 35, 0, 121, 2, 1354), (42, .ifCond .ne 5, 0, 0, 0, 0), (45, .iconst 0, 0, 0, 0, 0), (46, .ireturn, 0, 0, 0, 0), (47, .aload_n 0, 0, 0, 0, 0), (48, .iload_n 3, 0, 0, 0, 0), (49, .iconst 1, 0, 0, 0, 0), (50, .iadd, 0, 0, 0, 0), (51, .invokevirtual 31, 0, 118, 1, 1342), (54, .istore 4, 0, 0, 0, 0), (56, .iload 4, 0, 0, 0, 0), (58, .ifCond .le 28, 0, 0, 0, 0), (61, .iload 4, 0, 0, 0, 0), (63, .iconst 4, 0, 0, 0, 0), (64, .if_icmp .ge 22, 0, 0, 0, 0), (67, .iload_n 3, 0, 0, 0, 0), (68, .iconst 1, 0, 0, 0, 0), (69, .iadd, 0, 0, 0, 0), (70, .iload 4, 0, 0, 0, 0), (72, .iadd, 0, 0, 0, 0), (73, .aload_n 0, 0, 0, 0, 0), (74, .getfield 9, 0, 9, 0, 1257), (77, .arraylength, 0, 0, 0, 0), (78, .if_icmp .ne 8, 0, 0, 0, 0), (81, .iload 4, 0, 0, 0, 0), (83, .goto 4, 0, 0, 0, 0), (86, .iconst 0, 0, 0, 0, 0), (87, .ireturn, 0, 0, 0, 0)]
def mC123 : List (Nat × Instr × Nat × Nat × Nat × Nat) := [(0, .iload_n 0, 0, 0, 0, 0), (1, .iconst 4, 0, 0, 0, 0), (2, .irem, 0, 0, 0, 0), (3, .ifCond .ne 22, 0, 0, 0, 0), (6, .iload_n 0, 0, 0, 0, 0), (7, .bipush 100, 0, 0, 0, 0), (9, .irem, 0, 0, 0, 0), (10, .ifCond .ne 11, 0, 0, 0, 0), (13, .iload_n 0, 0, 0, 0, 0), (14, .sipush 400, 0, 0, 0, 0), (17, .irem, 0, 0, 0, 0), (18, .ifCond .ne 7, 0, 0, 0, 0), (21, .iconst 1, 0, 0, 0, 0), (22, .goto 4, 0, 0, 0, 0), (25, .iconst 0, 0, 0, 0, 0), (26, .ireturn, 0, 0, 0, 0)]
def mC124 : List (Nat × Instr × Nat × Nat × Nat × Nat) := [(0, .bipush 12, 0, 0, 0, 0), (2, .newarray .int, 0, 0, 0, 0), (4, .dup, 0, 0, 0, 0), (5, .iconst 0, 0, 0, 0, 0), (6, .bipush 31, 0, 0, 0, 0), (8, .iastore, 0, 0, 0, 0), (9, .dup, 0, 0, 0, 0), (10, .iconst 1, 0, 0, 0, 0), (11, .bipush 28, 0, 0, 0, 0), (13, .iastore, 0, 0, 0, 0), (14, .dup, 0, 0, 0, 0), (15, .iconst 2, 0, 0, 0, 0), (16, .bipush 31, 0, 0, 0, 0), (18, .iastore, 0, 0, 0, 0), (19, .dup, 0, 0, 0, 0), (20, .iconst 3, 0, 0, 0, 0), (21, .bipush 30, 0, 0, 0, 0), (23, .iastore, 0, 0, 0, 0), (24, .dup, 0, 0, 0, 0), (25, .iconst 4, 0, 0, 0, 0), (26, .bipush 31, 0, 0, 0, 0), (28, .iastore, 0, 0, 0, 0), (29, .dup, 0, 0, 0, 0), (30, .iconst 5, 0, 0, 0, 0), (31, .bipush 30, 0, 0, 0, 0), (33, .iastore, 0, 0, 0, 0), (34, .dup, 0, 0, 0, 0), (35, .bipush 6, 0, 0, 0, 0), (37, .bipush 31, 0, 0, 0, 0), (39, .iastore, 0, 0, 0, 0), (40, .dup, 0, 0, 0, 0), (41, .bipush 7, 0, 0, 0, 0), (43, .bipush 31, 0, 0, 0, 0), (45, .iastore, 0, 0, 0, 0), (46, .dup, 0, 0, 0, 0), (47, .bipush 8, 0, 0, 0, 0), (49, .bipush 30, 0, 0, 0, 0), (51, .iastore, 0, 0, 0, 0), (52, .dup, 0, 0, 0, 0), (53, .bipush 9, 0, 0, 0, 0), (55, .bipush 31, 0, 0, 0, 0), (57, .iastore, 0, 0, 0, 0), (58, .dup, 0, 0, 0, 0), (59, .bipush 10, 0, 0, 0, 0), (61, .bipush 30, 0, 0, 0, 0), (63, .iastore, 0, 0, 0, 0), (64, .dup, 0, 0, 0, 0), (65, .bipush 11, 0, 0, 0, 0), (67, .bipush 31, 0, 0, 0, 0), (69, .iastore, 0, 0, 0, 0), (70, .astore_n 2, 0, 0, 0, 0), (71, .iload_n 1, 0, 0, 0, 0), (72, .iconst 2, 0, 0, 0, 0), (73, .if_icmp .ne 15, 0, 0, 0, 0), (76, .iload_n 0, 0, 0, 0, 0), (77, .invokestatic 39, 0, 123, 1, 1369), (80, .ifCond .eq 8, 0, 0, 0, 0), (83, .bipush 29, 0, 0, 0, 0), (85, .goto 8, 0, 0, 0, 0), (88, .aload_n 2, 0, 0, 0, 0), (89, .iload_n 1, 0, 0, 0, 0), (90, .iconst 1, 0, 0, 0, 0), (91, .isub, 0, 0, 0, 0), (92, .iaload, 0, 0, 0, 0), (93, .ireturn, 0, 0, 0, 0)]
def mC125 : List (Nat × Instr × Nat × Nat × Nat × Nat) := [(0, .aload_n 0, 0, 0, 0, 0), (1, .iconst 0, 0, 0, 0, 0), (2, .invokevirtual 31, 0, 118, 1, 1342), (5, .istore_n 1, 0, 0, 0, 0), (6, .aload_n 0, 0, 0, 0, 0), (7, .iload_n 1, 0, 0, 0, 0), (8, .iconst 1, 0, 0, 0, 0), (9, .iadd, 0, 0, 0, 0), (10, .invokevirtual 31, 0, 118, 1, 1342), (13, .istore_n 2, 0, 0, 0, 0), (14, .aload_n 0, 0, 0, 0, 0), (15, .iload_n 1, 0, 0, 0, 0), (16, .iload_n 2, 0, 0, 0, 0), (17, .iadd, 0, 0, 0, 0), (18, .iconst 2, 0, 0, 0, 0), (19, .iadd, 0, 0, 0, 0), (20, .invokevirtual 31, 0, 118, 1, 1342), (23, .istore_n 3, 0, 0, 0, 0), (24, .iload_n 1, 0, 0, 0, 0), (25, .iconst 1, 0, 0, 0, 0), (26, .if_icmp .lt 61, 0, 0, 0, 0), (29, .iload_n 1, 0, 0, 0, 0), (30, .iconst 2, 0, 0, 0, 0), (31, .if_icmp .gt 56, 0, 0, 0, 0), (34, .iload_n 2, 0, 0, 0, 0), (35, .iconst 1, 0, 0, 0, 0), (36, .if_icmp .lt 51, 0, 0, 0, 0), (39, .iload_n 2, 0, 0, 0, 0), (40, .iconst 2, 0, 0, 0, 0), (41, .if_icmp .gt 46, 0, 0, 0, 0), (44, .iload_n 3, 0, 0, 0, 0), (45, .iconst 4, 0, 0, 0, 0), (46, .if_icmp .ne 41, 0, 0, 0, 0), (49, .aload_n 0, 0, 0, 0, 0), (50, .iload_n 1, 0, 0, 0, 0), (51, .bipush 9, 0, 0, 0, 0), (53, .invokevirtual 35, 0, 121, 2, 1354), (56, .ifCond .eq 31, 0, 0, 0, 0), (59, .aload_n 0, 0, 0, 0, 0), (60, .iload_n 1, 0, 0, 0, 0), (61, .iload_n 2, 0, 0, 0, 0), (62, .iadd, 0, 0, 0, 0), (63, .iconst 1, 0, 0, 0, 0), (64, .iadd, 0, 0, 0, 0), (65, .bipush 9, 0, 0, 0, 0), (67, .invokevirtual 35, 0, 121, 2, 1354), (70, .ifCond .eq 17, 0, 0, 0, 0), (73, .aload_n 0, 0, 0, 0, 0), (74, .getfield 9, 0, 9, 0, 1257), (77, .arraylength, 0, 0, 0, 0), (78, .iload_n 1, 0, 0, 0, 0), (79, .iload_n 2, 0, 0, 0, 0), (80, .iadd, 0, 0, 0, 0), (81, .bipush 6, 0, 0, 0, 0), (83, .iadd, 0, 0, 0, 0), (84, .if_icmp .eq 5, 0, 0, 0, 0), (87, .aconst_null, 0, 0, 0, 0), (88, .areturn, 0, 0, 0, 0), (89, .iconst 3, 0, 0, 0, 0), (90, .newarray .int, 0, 0, 0, 0), (92, .dup, 0, 0, 0, 0), (93, .iconst 0, 0, 0, 0, 0), (94, .aload_n 0, 0, 0, 0, 0), (95, .iconst 0, 0, 0, 0, 0), (96, .iload_n 1, 0, 0, 0, 0), (97, .invokevirtual 42, 0, 119, 2, 1362), (100, .iastore, 0, 0, 0, 0), (101, .dup, 0, 0, 0, 0), (102, .iconst 1, 0, 0, 0, 0), (103, .aload_n 0, 0, 0, 0, 0), (104, .iload_n 1, 0, 0, 0, 0), (105, .iconst 1, 0, 0, 0, 0), (106, .iadd, 0, 0, 0, 0), (107, .iload_n 2, 0, 0, 0, 0), (108, .invokevirtual 42, 0, 119, 2, 1362), (111, .iastore, 0, 0, 0, 0), (112, .dup, 0, 0, 0, 0), (113, .iconst 2, 0, 0, 0, 0), (114, .aload_n 0, 0, 0, 0, 0), (115, .iload_n 1, 0, 0, 0, 0), (116, .iload_n 2, 0, 0, 0, 0), (117, .iadd, 0, 0, 0, 0), (118, .iconst 2, 0, 0, 0, 0), (119, .iadd, 0, 0, 0, 0), (120, .iconst 4, 0, 0, 0, 0), (121, .invokevirtual 42, 0, 119, 2, 1362), (124, .iastore, 0, 0, 0, 0), (125, .astore 4, 0, 0, 0, 0), (127, .aload 4, 0, 0, 0, 0), (129, .iconst 2, 0, 0, 0, 0), (130, .iaload, 0, 0, 0, 0), (131, .sipush 1900, 0, 0, 0, 0), (134, .if_icmp .lt 40, 0, 0, 0, 0), (137, .aload 4, 0, 0, 0, 0), (139, .iconst 2, 0, 0, 0, 0), (140, .iaload, 0, 0, 0, 0), (141, .sipush 2100, 0, 0, 0, 0), (144, .if_icmp .ge 30, 0, 0, 0, 0), (147, .aload 4, 0, 0, 0, 0), (149, .iconst 1, 0, 0, 0, 0), (150, .iaload, 0, 0, 0, 0), (151, .ifCond .le 23, 0, 0, 0, 0), (154, .aload 4, 0, 0, 0, 0), (156, .iconst 1, 0, 0, 0, 0), (157, .iaload, 0, 0, 0, 0), (158, .bipush 13, 0, 0, 0, 0), (160, .if_icmp .ge 14, 0, 0, 0, 0), (163, .aload 4, 0, 0, 0, 0), (165, .iconst 0, 0, 0, 0, 0), (166, .iaload, 0, 0, 0, 0), (167, .ifCond .le 7, 0, 0, 0, 0), (170, .iconst 1, 0, 0, 0, 0), (171, .goto 4, 0, 0, 0, 0), (174, .iconst 0, 0, 0, 0, 0), (175, .istore 5, 0, 0, 0, 0), (177, .iload 5, 0, 0, 0, 0), (179, .ifCond .eq 26, 0, 0, 0, 0), (182, .aload 4, 0, 0, 0, 0), (184, .iconst 0, 0, 0, 0, 0), (185, .iaload, 0, 0, 0, 0), (186, .aload 4, 0, 0, 0, 0), (188, .iconst 2, 0, 0, 0, 0), (189, .iaload, 0, 0, 0, 0), (190, .aload 4, 0, 0, 0, 0), (192, .iconst 1, 0, 0, 0, 0), (193, .iaload, 0, 0, 0, 0), (194, .invokestatic 46, 0, 124, 2, 1366), (197, .if_icmp .gt 8, 0, 0, 0, 0), (200, .aload 4, 0, 0, 0, 0), (202, .goto 4, 0, 0, 0, 0), (205, .aconst_null, 0, 0, 0, 0), (206, .areturn, 0, 0, 0, 0)]
def mC126 : List (Nat × Instr × Nat × Nat × Nat × Nat) := [(0, .aload_n 0, 0, 0, 0, 0), (1, .getfield 9, 0, 9, 0, 1257), (4, .arraylength, 0, 0, 0, 0), (5, .ifCond .ne 5, 0, 0, 0, 0), (8, .iconst 0, 0, 0, 0, 0), (9, .ireturn, 0, 0, 0, 0), (10, .aload_n 0, 0, 0, 0, 0), (11, .aload_n 0, 0, 0, 0, 0), (12, .invokevirtual 27, 0, 120, 0, 1338), (15, .invokevirtual 31, 0, 118, 1, 1342), (18, .istore_n 2, 0, 0, 0, 0), (19, .iload_n 2, 0, 0, 0, 0), (20, .ifCond .le 25, 0, 0, 0, 0), (23, .iload_n 2, 0, 0, 0, 0), (24, .bipush 7, 0, 0, 0, 0), (26, .if_icmp .ge 19, 0, 0, 0, 0), (29, .aload_n 0, 0, 0, 0, 0), (30, .invokevirtual 27, 0, 120, 0, 1338), (33, .iload_n 2, 0, 0, 0, 0), (34, .iadd, 0, 0, 0, 0), (35, .aload_n 0, 0, 0, 0, 0), (36, .getfield 9, 0, 9, 0, 1257), (39, .arraylength, 0, 0, 0, 0), (40, .if_icmp .ne 5, 0, 0, 0, 0), (43, .iconst 1, 0, 0, 0, 0), (44, .ireturn, 0, 0, 0, 0), (45, .aload_n 0, 0, 0, 0, 0), (46, .iload_n 1, 0, 0, 0, 0), (47, .invokevirtual 49, 0, 122, 1, 1350), (50, .ifCond .le 5, 0, 0, 0, 0), (53, .iconst 2, 0, 0, 0, 0), (54, .ireturn, 0, 0, 0, 0), (55, .aload_n 0, 0, 0, 0, 0), (56, .invokevirtual 52, 0, 125, 0, 1358), (59, .ifnull 5, 0, 0, 0, 0), (62, .iconst 3, 0, 0, 0, 0), (63, .ireturn, 0, 0, 0, 0), (64, .aload_n 0, 0, 0, 0, 0), (65, .getfield 9, 0, 9, 0, 1257), (68, .arraylength, 0, 0, 0, 0), (69, .iconst 1, 0, 0, 0, 0), (70, .if_icmp .ne 29, 0, 0, 0, 0), (73, .aload_n 0, 0, 0, 0, 0), (74, .getfield 9, 0, 9, 0, 1257), (77, .iconst 0, 0, 0, 0, 0), (78, .iaload, 0, 0, 0, 0), (79, .bipush 44, 0, 0, 0, 0), (81, .if_icmp .eq 14, 0, 0, 0, 0), (84, .aload_n 0, 0, 0, 0, 0), (85, .getfield 9, 0, 9, 0, 1257), (88, .iconst 0, 0, 0, 0, 0), (89, .iaload, 0, 0, 0, 0), (90, .bipush 33, 0, 0, 0, 0), (92, .if_icmp .ne 7, 0, 0, 0, 0), (95, .iconst 4, 0, 0, 0, 0), (96, .goto 4, 0, 0, 0, 0), (99, .iconst 5, 0, 0, 0, 0), (100, .ireturn, 0, 0, 0, 0)]
def mC127 : List (Nat × Instr × Nat × Nat × Nat × Nat) := [(0, .aload_n 0, 0, 0, 0, 0), (1, .invokevirtual 27, 0, 120, 0, 1338), (4, .iconst 1, 0, 0, 0, 0), (5, .if_icmp .ne 7, 0, 0, 0, 0), (8, .iconst (-1), 0, 0, 0, 0), (9, .goto 4, 0, 0, 0, 0), (12, .iconst 1, 0, 0, 0, 0), (13, .istore_n 2, 0, 0, 0, 0), (14, .aload_n 0, 0, 0, 0, 0), (15, .iload_n 1, 0, 0, 0, 0), (16, .invokevirtual 56, 0, 126, 1, 1401), (19, .tableswitch 149 0 4 #[33, 35, 56, 124, 132], 33, 0, 0, 0), (52, .iconst 0, 0, 0, 0, 0), (53, .ireturn, 0, 0, 0, 0), (54, .iload_n 2, 0, 0, 0, 0), (55, .aload_n 0, 0, 0, 0, 0), (56, .aload_n 0, 0, 0, 0, 0), (57, .invokevirtual 27, 0, 120, 0, 1338), (60, .aload_n 0, 0, 0, 0, 0), (61, .getfield 9, 0, 9, 0, 1257), (64, .arraylength, 0, 0, 0, 0), (65, .aload_n 0, 0, 0, 0, 0), (66, .invokevirtual 27, 0, 120, 0, 1338), (69, .isub, 0, 0, 0, 0), (70, .invokevirtual 42, 0, 119, 2, 1362), (73, .imul, 0, 0, 0, 0), (74, .ireturn, 0, 0, 0, 0), (75, .aload_n 0, 0, 0, 0, 0), (76, .iload_n 1, 0, 0, 0, 0), (77, .invokevirtual 49, 0, 122, 1, 1350), (80, .istore_n 3, 0, 0, 0, 0), (81, .aload_n 0, 0, 0, 0, 0), (82, .aload_n 0, 0, 0, 0, 0), (83, .getfield 9, 0, 9, 0, 1257), (86, .arraylength, 0, 0, 0, 0), (87, .iload_n 3, 0, 0, 0, 0), (88, .isub, 0, 0, 0, 0), (89, .iload_n 3, 0, 0, 0, 0), (90, .invokevirtual 42, 0, 119, 2, 1362), (93, .istore 4, 0, 0, 0, 0), (95, .iload_n 3, 0, 0, 0, 0), (96, .istore 5, 0, 0, 0, 0), (98, .iload 5, 0, 0, 0, 0), (100, .iconst 3, 0, 0, 0, 0), (101, .if_icmp .ge 16, 0, 0, 0, 0), (104, .iload 4, 0, 0, 0, 0), (106, .bipush 10, 0, 0, 0, 0), (108, .imul, 0, 0, 0, 0), (109, .istore 4, 0, 0, 0, 0), (111, .iinc 5 1, 0, 0, 0, 0), (114, .goto (-16), 0, 0, 0, 0), (117, .iload_n 2, 0, 0, 0, 0), (118, .sipush 1000, 0, 0, 0, 0), (121, .aload_n 0, 0, 0, 0, 0), (122, .aload_n 0, 0, 0, 0, 0), (123, .invokevirtual 27, 0, 120, 0, 1338), (126, .aload_n 0, 0, 0, 0, 0), (127, .aload_n 0, 0, 0, 0, 0), (128, .invokevirtual 27, 0, 120, 0, 1338), (131, .invokevirtual 31, 0, 118, 1, 1342), (134, .invokevirtual 42, 0, 119, 2, 1362), (137, .imul, 0, 0, 0, 0), (138, .iload 4, 0, 0, 0, 0), (140, .iadd, 0, 0, 0, 0), (141, .imul, 0, 0, 0, 0), (142, .ireturn, 0, 0, 0, 0), (143, .aload_n 0, 0, 0, 0, 0), (144, .invokevirtual 52, 0, 125, 0, 1358), (147, .invokestatic 59, 0, 128, 1, 1493), (150, .ireturn, 0, 0, 0, 0), (151, .aload_n 0, 0, 0, 0, 0), (152, .getfield 9, 0, 9, 0, 1257), (155, .iconst 0, 0, 0, 0, 0), (156, .iaload, 0, 0, 0, 0), (157, .bipush 44, 0, 0, 0, 0), (159, .if_icmp .ne 7, 0, 0, 0, 0), (162, .iconst 1, 0, 0, 0, 0), (163, .goto 4, 0, 0, 0, 0), (166, .iconst 0, 0, 0, 0, 0), (167, .ireturn, 0, 0, 0, 0), (168, .aload_n 0, 0, 0, 0, 0), (169, .getfield 9, 0, 9, 0, 1257), (172, .arraylength, 0, 0, 0, 0), (173, .ireturn, 0, 0, 0, 0)]
def mC128 : List (Nat × Instr × Nat × Nat × Nat × Nat) := [(0, .aload_n 0, 0, 0, 0, 0), (1, .iconst 0, 0, 0, 0, 0), (2, .iaload, 0, 0, 0, 0), (3, .iconst 1, 0, 0, 0, 0), (4, .isub, 0, 0, 0, 0), (5, .istore_n 1, 0, 0, 0, 0), (6, .sipush 1900, 0, 0, 0, 0), (9, .istore_n 2, 0, 0, 0, 0), (10, .iload_n 2, 0, 0, 0, 0), (11, .aload_n 0, 0, 0, 0, 0), (12, .iconst 2, 0, 0, 0, 0), (13, .iaload, 0, 0, 0, 0), (14, .if_icmp .ge 28, 0, 0, 0, 0), (17, .iload_n 1, 0, 0, 0, 0), (18, .iload_n 2, 0, 0, 0, 0), (19, .invokestatic 39, 0, 123, 1, 1369), (22, .ifCond .eq 9, 0, 0, 0, 0), (25, .sipush 366, 0, 0, 0, 0), (28, .goto 6, 0, 0, 0, 0), (31, .sipush 365, 0, 0, 0, 0), (34, .iadd, 0, 0, 0, 0), (35, .istore_n 1, 0, 0, 0, 0), (36, .iinc 2 1, 0, 0, 0, 0), (39, .goto (-29), 0, 0, 0, 0), (42, .iconst 1, 0, 0, 0, 0), (43, .istore_n 2, 0, 0, 0, 0), (44, .iload_n 2, 0, 0, 0, 0), (45, .aload_n 0, 0, 0, 0, 0), (46, .iconst 1, 0, 0, 0, 0), (47, .iaload, 0, 0, 0, 0), (48, .if_icmp .ge 19, 0, 0, 0, 0), (51, .iload_n 1, 0, 0, 0, 0), (52, .aload_n 0, 0, 0, 0, 0), (53, .iconst 2, 0, 0, 0, 0), (54, .iaload, 0, 0, 0, 0), (55, .iload_n 2, 0, 0, 0, 0), (56, .invokestatic 46, 0, 124, 2, 1366), (59, .iadd, 0, 0, 0, 0), (60, .istore_n 1, 0, 0, 0, 0), (61, .iinc 2 1, 0, 0, 0, 0), (64, .goto (-20), 0, 0, 0, 0), (67, .iload_n 1, 0, 0, 0, 0), (68, .ireturn, 0, 0, 0, 0)]
def mC129 : List (Nat × Instr × Nat × Nat × Nat × Nat) := [(0, .aload_n 0, 0, 0, 0, 0), (1, .iload_n 2, 0, 0, 0, 0), (2, .invokevirtual 56, 0, 126, 1, 1401), (5, .istore_n 3, 0, 0, 0, 0), (6, .iload_n 3, 0, 0, 0, 0), (7, .iload_n 1, 0, 0, 0, 0), (8, .if_icmp .eq 22, 0, 0, 0, 0), (11, .iload_n 3, 0, 0, 0, 0), (12, .ifCond .eq 18, 0, 0, 0, 0), (15, .iload_n 1, 0, 0, 0, 0), (16, .iconst 5, 0, 0, 0, 0), (17, .if_icmp .eq 13, 0, 0, 0, 0), (20, .iload_n 3, 0, 0, 0, 0), (21, .iconst 1, 0, 0, 0, 0), (22, .if_icmp .ne 12, 0, 0, 0, 0), (25, .iload_n 1, 0, 0, 0, 0), (26, .iconst 2, 0, 0, 0, 0), (27, .if_icmp .ne 7, 0, 0, 0, 0), (30, .iconst 1, 0, 0, 0, 0), (31, .goto 4, 0, 0, 0, 0), (34, .iconst 0, 0, 0, 0, 0), (35, .ireturn, 0, 0, 0, 0)]
def mC130 : List (Nat × Instr × Nat × Nat × Nat × Nat) := [(0, .iload_n 1, 0, 0, 0, 0), (1, .iconst 5, 0, 0, 0, 0), (2, .if_icmp .ne 11, 0, 0, 0, 0), (5, .aload_n 0, 0, 0, 0, 0), (6, .getfield 9, 0, 9, 0, 1257), (9, .arraylength, 0, 0, 0, 0), (10, .goto 34, 0, 0, 0, 0), (13, .iload_n 1, 0, 0, 0, 0), (14, .iconst 2, 0, 0, 0, 0), (15, .if_icmp .ne 24, 0, 0, 0, 0), (18, .aload_n 0, 0, 0, 0, 0), (19, .iload_n 2, 0, 0, 0, 0), (20, .invokevirtual 56, 0, 126, 1, 1401), (23, .iconst 1, 0, 0, 0, 0), (24, .if_icmp .ne 15, 0, 0, 0, 0), (27, .sipush 1000, 0, 0, 0, 0), (30, .aload_n 0, 0, 0, 0, 0), (31, .iload_n 2, 0, 0, 0, 0), (32, .invokevirtual 63, 0, 127, 1, 1533), (35, .imul, 0, 0, 0, 0), (36, .goto 8, 0, 0, 0, 0), (39, .aload_n 0, 0, 0, 0, 0), (40, .iload_n 2, 0, 0, 0, 0), (41, .invokevirtual 63, 0, 127, 1, 1533), (44, .ireturn, 0, 0, 0, 0)]
def mC131 : List (Nat × Instr × Nat × Nat × Nat × Nat) := [(0, .aload_n 0, 0, 0, 0, 0), (1, .aload_n 1, 0, 0, 0, 0), (2, .putfield 3, 0, 10, 2, 1182), (5, .aload_n 0, 0, 0, 0, 0), (6, .invokespecial 9, 0, 998, 0, 1179), (9, .aload_n 0, 0, 0, 0, 0), (10, .iload_n 2, 0, 0, 0, 0), (11, .putfield 15, 0, 10, 0, 1180), (14, .return_, 0, 0, 0, 0)]
def mC132 : List (Nat × Instr × Nat × Nat × Nat × Nat) := [(0, .aload_n 0, 0, 0, 0, 0), (1, .getfield 19, 0, 10, 1, 1181), (4, .aload_n 0, 0, 0, 0, 0), (5, .getfield 3, 0, 10, 2, 1182), (8, .getfield 22, 0, 999, 0, 0), (11, .invokevirtual 26, 0, 212, 0, 1200), (14, .if_icmp .ne 7, 0, 0, 0, 0), (17, .iconst 1, 0, 0, 0, 0), (18, .goto 4, 0, 0, 0, 0), (21, .iconst 0, 0, 0, 0, 0), (22, .ireturn, 0, 0, 0, 0)]
def mC133 : List (Nat × Instr × Nat × Nat × Nat × Nat) := [(0, .aload_n 0, 0, 0, 0, 0), (1, .invokevirtual 32, 0, 132, 0, 1196), (4, .ifCond .ne 54, 0, 0, 0, 0), (7, .aload_n 0, 0, 0, 0, 0), (8, .getfield 3, 0, 10, 2, 1182), (11, .getfield 22, 0, 999, 0, 0), (14, .aload_n 0, 0, 0, 0, 0), (15, .getfield 19, 0, 10, 1, 1181), (18, .invokevirtual 36, 0, 216, 1, 1224), (21, .checkcast 40, 0, 0, 0, 0), (24, .invokevirtual 42, 0, 203, 0, 1239), (27, .aload_n 0, 0, 0, 0, 0), (28, .getfield 15, 0, 10, 0, 1180), (31, .if_icmp .eq 27, 0, 0, 0, 0), (34, .aload_n 0, 0, 0, 0, 0), (35, .getfield 3, 0, 10, 2, 1182), (38, .getfield 22, 0, 999, 0, 0), (41, .aload_n 0, 0, 0, 0, 0), (42, .getfield 19, 0, 10, 1, 1181), (45, .invokevirtual 36, 0, 216, 1, 1224), (48, .checkcast 40, 0, 0, 0, 0), (51, .invokevirtual 42, 0, 203, 0, 1239), (54, .iconst 5, 0, 0, 0, 0), (55, .if_icmp .ne 7, 0, 0, 0, 0), (58, .iconst 1, 0, 0, 0, 0), (59, .goto 4, 0, 0, 0, 0), (62, .iconst 0, 0, 0, 0, 0), (63, .ireturn, 0, 0, 0, 0)]
def mC134 : List (Nat × Instr × Nat × Nat × Nat × Nat) := [(0, .aload_n 1, 0, 0, 0, 0), (1, .invokevirtual 26, 0, 212, 0, 1200), (4, .newarray .int, 0, 0, 0, 0), (6, .astore_n 2, 0, 0, 0, 0), (7, .iconst 0, 0, 0, 0, 0), (8, .istore_n 3, 0, 0, 0, 0), (9, .iload_n 3, 0, 0, 0, 0), (10, .aload_n 2, 0, 0, 0, 0), (11, .arraylength, 0, 0, 0, 0), (12, .if_icmp .ge 23, 0, 0, 0, 0), (15, .aload_n 2, 0, 0, 0, 0), (16, .iload_n 3, 0, 0, 0, 0), (17, .aload_n 1, 0, 0, 0, 0), (18, .iload_n 3, 0, 0, 0, 0), (19, .invokevirtual 36, 0, 216, 1, 1224), (22, .checkcast 40, 0, 0, 0, 0), (25, .invokevirtual 42, 0, 203, 0, 1239), (28, .iastore, 0, 0, 0, 0), (29, .iinc 3 1, 0, 0, 0, 0), (32, .goto (-23), 0, 0, 0, 0), (35, .aload_n 2, 0, 0, 0, 0), (36, .areturn, 0, 0, 0, 0)]
def mC135 : List (Nat × Instr × Nat × Nat × Nat × Nat) := [(0, .new 27, 0, 1, 0, 1194), (3, .dup, 0, 0, 0, 0), (4, .invokespecial 45, 0, 209, 0, 1195), (7, .astore_n 1, 0, 0, 0, 0), (8, .aload_n 0, 0, 0, 0, 0), (9, .invokevirtual 32, 0, 132, 0, 1196), (12, .ifCond .ne 33, 0, 0, 0, 0), (15, .aload_n 0, 0, 0, 0, 0), (16, .getfield 3, 0, 10, 2, 1182), (19, .getfield 22, 0, 999, 0, 0), (22, .aload_n 0, 0, 0, 0, 0), (23, .getfield 19, 0, 10, 1, 1181), (26, .invokevirtual 36, 0, 216, 1, 1224), (29, .checkcast 40, 0, 0, 0, 0), (32, .invokevirtual 42, 0, 203, 0, 1239), (35, .iconst 4, 0, 0, 0, 0), (36, .if_icmp .ne 9, 0, 0, 0, 0), (39, .aload_n 0, 0, 0, 0, 0), (40, .aload_n 1, 0, 0, 0, 0), (41, .invokevirtual 46, 0, 136, 1, 1243), (44, .areturn, 0, 0, 0, 0), (45, .aload_n 0, 0, 0, 0, 0), (46, .invokevirtual 50, 0, 133, 0, 1277), (49, .ifCond .ne 35, 0, 0, 0, 0), (52, .aload_n 1, 0, 0, 0, 0), (53, .aload_n 0, 0, 0, 0, 0), (54, .getfield 3, 0, 10, 2, 1182), (57, .getfield 22, 0, 999, 0, 0), (60, .aload_n 0, 0, 0, 0, 0), (61, .dup, 0, 0, 0, 0), (62, .getfield 19, 0, 10, 1, 1181), (65, .dup_x1, 0, 0, 0, 0), (66, .iconst 1, 0, 0, 0, 0), (67, .iadd, 0, 0, 0, 0), (68, .putfield 19, 0, 10, 1, 1181), (71, .invokevirtual 36, 0, 216, 1, 1224), (74, .checkcast 40, 0, 0, 0, 0), (77, .invokevirtual 53, 0, 218, 1, 1276), (80, .pop, 0, 0, 0, 0), (81, .goto (-36), 0, 0, 0, 0), (84, .aload_n 1, 0, 0, 0, 0), (85, .invokevirtual 57, 0, 213, 0, 1281), (88, .ifCond .ne 38, 0, 0, 0, 0), (91, .aload_n 1, 0, 0, 0, 0), (92, .aload_n 1, 0, 0, 0, 0), (93, .invokevirtual 26, 0, 212, 0, 1200), (96, .iconst 1, 0, 0, 0, 0), (97, .isub, 0, 0, 0, 0), (98, .invokevirtual 36, 0, 216, 1, 1224), (101, .checkcast 40, 0, 0, 0, 0), (104, .invokevirtual 42, 0, 203, 0, 1239), (107, .bipush 6, 0, 0, 0, 0), (109, .if_icmp .ne 17, 0, 0, 0, 0), (112, .aload_n 1, 0, 0, 0, 0), (113, .aload_n 1, 0, 0, 0, 0), (114, .invokevirtual 26, 0, 212, 0, 1200), (117, .iconst 1, 0, 0, 0, 0), (118, .isub, 0, 0, 0, 0), (119, .invokevirtual 60, 0, 219, 1, 1285), (122, .pop, 0, 0, 0, 0), (123, .goto (-39), 0, 0, 0, 0), (126, .aload_n 1, 0, 0, 0, 0), (127, .invokevirtual 57, 0, 213, 0, 1281), (130, .ifCond .ne 28, 0, 0, 0, 0), (133, .aload_n 1, 0, 0, 0, 0), (134, .iconst 0, 0, 0, 0, 0), (135, .invokevirtual 36, 0, 216, 1, 1224), (138, .checkcast 40, 0, 0, 0, 0), (141, .invokevirtual 42, 0, 203, 0, 1239), (144, .bipush 6, 0, 0, 0, 0), (146, .if_icmp .ne 12, 0, 0, 0, 0), (149, .aload_n 1, 0, 0, 0, 0), (150, .iconst 0, 0, 0, 0, 0), (151, .invokevirtual 60, 0, 219, 1, 1285), (154, .pop, 0, 0, 0, 0), (155, .goto (-29), 0, 0, 0, 0), (158, .new 63, 0, 9, 0, 1247), (161, .dup, 0, 0, 0, 0), (162, .aload_n 0, 0, 0, 0, 0), (163, .aload_n 1, 0, 0, 0, 0), (164, .invokevirtual 65, 0, 134, 1, 1249), (167, .iconst 0, 0, 0, 0, 0), (168, .iconst 0, 0, 0, 0, 0), (169, .invokespecial 69, 0, 115, 3, 1253), (172, .areturn, 0, 0, 0, 0)]
def mC136 : List (Nat × Instr × Nat × Nat × Nat × Nat) := [(0, .aload_n 0, 0, 0, 0, 0), (1, .dup, 0, 0, 0, 0), (2, .getfield 19, 0, 10, 1, 1181), (5, .iconst 1, 0, 0, 0, 0), (6, .iadd, 0, 0, 0, 0), (7, .putfield 19, 0, 10, 1, 1181), (10, .aload_n 0, 0, 0, 0, 0), (11, .invokevirtual 32, 0, 132, 0, 1196), (14, .ifCond .eq 18, 0, 0, 0, 0), (17, .new 63, 0, 9, 0, 1247), (20, .dup, 0, 0, 0, 0), (21, .aload_n 0, 0, 0, 0, 0), (22, .aload_n 1, 0, 0, 0, 0), (23, .invokevirtual 65, 0, 134, 1, 1249), (26, .iconst 1, 0, 0, 0, 0), (27, .iconst 2, 0, 0, 0, 0), (28, .invokespecial 69, 0, 115, 3, 1253), (31, .areturn, 0, 0, 0, 0), (32, .aload_n 0, 0, 0, 0, 0), (33, .getfield 3, 0, 10, 2, 1182), (36, .getfield 22, 0, 999, 0, 0), (39, .aload_n 0, 0, 0, 0, 0), (40, .dup, 0, 0, 0, 0), (41, .getfield 19, 0, 10, 1, 1181), (44, .dup_x1, 0, 0, 0, 0), (45, .iconst 1, 0, 0, 0, 0), (46, .iadd, 0, 0, 0, 0), (47, .putfield 19, 0, 10, 1, 1181), (50, .invokevirtual 36, 0, 216, 1, 1224), (53, .checkcast 40, 0, 0, 0, 0), (56, .invokevirtual 42, 0, 203, 0, 1239), (59, .istore_n 2, 0, 0, 0, 0), (60, .iload_n 2, 0, 0, 0, 0), (61, .iconst 4, 0, 0, 0, 0), (62, .if_icmp .eq 15, 0, 0, 0, 0), (65, .aload_n 1, 0, 0, 0, 0), (66, .iload_n 2, 0, 0, 0, 0), (67, .invokestatic 72, 0, 201, 1, 1275), (70, .invokevirtual 53, 0, 218, 1, 1276), (73, .pop, 0, 0, 0, 0), (74, .goto (-64), 0, 0, 0, 0), (77, .aload_n 0, 0, 0, 0, 0), (78, .invokevirtual 32, 0, 132, 0, 1196), (81, .ifCond .ne 52, 0, 0, 0, 0), (84, .aload_n 0, 0, 0, 0, 0), (85, .getfield 3, 0, 10, 2, 1182), (88, .getfield 22, 0, 999, 0, 0), (91, .aload_n 0, 0, 0, 0, 0), (92, .getfield 19, 0, 10, 1, 1181), (95, .invokevirtual 36, 0, 216, 1, 1224), (98, .checkcast 40, 0, 0, 0, 0), (101, .invokevirtual 42, 0, 203, 0, 1239), (104, .iconst 4, 0, 0, 0, 0), (105, .if_icmp .eq 6, 0, 0, 0, 0), (108, .goto 25, 0, 0, 0, 0), (111, .aload_n 1, 0, 0, 0, 0), (112, .iconst 4, 0, 0, 0, 0), (113, .invokestatic 72, 0, 201, 1, 1275), (116, .invokevirtual 53, 0, 218, 1, 1276), (119, .pop, 0, 0, 0, 0), (120, .aload_n 0, 0, 0, 0, 0), (121, .dup, 0, 0, 0, 0), (122, .getfield 19, 0, 10, 1, 1181), (125, .iconst 1, 0, 0, 0, 0), (126, .iadd, 0, 0, 0, 0), (127, .putfield 19, 0, 10, 1, 1181), (130, .goto (-120), 0, 0, 0, 0), (133, .aload_n 0, 0, 0, 0, 0), (134, .invokevirtual 50, 0, 133, 0, 1277), (137, .ifCond .ne 7, 0, 0, 0, 0), (140, .iconst 1, 0, 0, 0, 0), (141, .goto 4, 0, 0, 0, 0), (144, .iconst 0, 0, 0, 0, 0), (145, .istore_n 2, 0, 0, 0, 0), (146, .aload_n 0, 0, 0, 0, 0), (147, .invokevirtual 50, 0, 133, 0, 1277), (150, .ifCond .ne 35, 0, 0, 0, 0), (153, .aload_n 1, 0, 0, 0, 0), (154, .aload_n 0, 0, 0, 0, 0), (155, .getfield 3, 0, 10, 2, 1182), (158, .getfield 22, 0, 999, 0, 0), (161, .aload_n 0, 0, 0, 0, 0), (162, .dup, 0, 0, 0, 0), (163, .getfield 19, 0, 10, 1, 1181), (166, .dup_x1, 0, 0, 0, 0), (167, .iconst 1, 0, 0, 0, 0), (168, .iadd, 0, 0, 0, 0), (169, .putfield 19, 0, 10, 1, 1181), (172, .invokevirtual 36, 0, 216, 1, 1224), (175, .checkcast 40, 0, 0, 0, 0), (178, .invokevirtual 53, 0, 218, 1, 1276), (181, .pop, 0, 0, 0, 0), (182, .goto (-36), 0, 0, 0, 0), (185, .new 63, 0, 9, 0, 1247), (188, .dup, 0, 0, 0, 0), (189, .aload_n 0, 0, 0, 0, 0), (190, .aload_n 1, 0, 0, 0, 0), (191, .invokevirtual 65, 0, 134, 1, 1249), (194, .iconst 1, 0, 0, 0, 0), (195, .iload_n 2, 0, 0, 0, 0), (196, .ifCond .eq 7, 0, 0, 0, 0), (199, .iconst 1, 0, 0, 0, 0), (200, .goto 4, 0, 0, 0, 0), (203, .iconst 0, 0, 0, 0, 0), (204, .invokespecial 69, 0, 115, 3, 1253), (207, .areturn, 0, 0, 0, 0)]
def mC137 : List (Nat × Instr × Nat × Nat × Nat × Nat) := [(0, .new 27, 0, 1, 0, 1194), (3, .dup, 0, 0, 0, 0), (4, .invokespecial 45, 0, 209, 0, 1195), (7, .astore_n 1, 0, 0, 0, 0), (8, .aload_n 0, 0, 0, 0, 0), (9, .invokevirtual 32, 0, 132, 0, 1196), (12, .ifCond .ne 122, 0, 0, 0, 0), (15, .aload_n 1, 0, 0, 0, 0), (16, .invokevirtual 26, 0, 212, 0, 1200), (19, .bipush 60, 0, 0, 0, 0), (21, .if_icmp .ge 113, 0, 0, 0, 0), (24, .new 76, 0, 11, 0, 1201), (27, .dup, 0, 0, 0, 0), (28, .invokespecial 78, 1, 138, 0, 3), (31, .astore_n 2, 0, 0, 0, 0), (32, .aload_n 2, 0, 0, 0, 0), (33, .aload_n 0, 0, 0, 0, 0), (34, .invokevirtual 79, 0, 135, 0, 1220), (37, .invokevirtual 83, 0, 139, 1, 1293), (40, .aload_n 0, 0, 0, 0, 0), (41, .invokevirtual 32, 0, 132, 0, 1196), (44, .ifCond .ne 51, 0, 0, 0, 0), (47, .aload_n 0, 0, 0, 0, 0), (48, .getfield 3, 0, 10, 2, 1182), (51, .getfield 22, 0, 999, 0, 0), (54, .aload_n 0, 0, 0, 0, 0), (55, .getfield 19, 0, 10, 1, 1181), (58, .invokevirtual 36, 0, 216, 1, 1224), (61, .checkcast 40, 0, 0, 0, 0), (64, .invokevirtual 42, 0, 203, 0, 1239), (67, .aload_n 0, 0, 0, 0, 0), (68, .getfield 15, 0, 10, 0, 1180), (71, .if_icmp .ne 24, 0, 0, 0, 0), (74, .aload_n 0, 0, 0, 0, 0), (75, .dup, 0, 0, 0, 0), (76, .getfield 19, 0, 10, 1, 1181), (79, .iconst 1, 0, 0, 0, 0), (80, .iadd, 0, 0, 0, 0), (81, .putfield 19, 0, 10, 1, 1181), (84, .aload_n 2, 0, 0, 0, 0), (85, .aload_n 0, 0, 0, 0, 0), (86, .invokevirtual 79, 0, 135, 0, 1220), (89, .invokevirtual 83, 0, 139, 1, 1293), (92, .goto (-52), 0, 0, 0, 0), (95, .aload_n 0, 0, 0, 0, 0), (96, .aload_n 0, 0, 0, 0, 0), (97, .getfield 19, 0, 10, 1, 1181), (100, .iconst 1, 0, 0, 0, 0), (101, .iadd, 0, 0, 0, 0), (102, .aload_n 0, 0, 0, 0, 0), (103, .getfield 3, 0, 10, 2, 1182), (106, .getfield 22, 0, 999, 0, 0), (109, .invokevirtual 26, 0, 212, 0, 1200), (112, .invokestatic 86, 0, 205, 2, 1299), (115, .putfield 19, 0, 10, 1, 1181), (118, .aload_n 2, 0, 0, 0, 0), (119, .invokevirtual 92, 0, 140, 0, 1300), (122, .ifCond .ne 9, 0, 0, 0, 0), (125, .aload_n 1, 0, 0, 0, 0), (126, .aload_n 2, 0, 0, 0, 0), (127, .invokevirtual 53, 0, 218, 1, 1276), (130, .pop, 0, 0, 0, 0), (131, .goto (-123), 0, 0, 0, 0), (134, .aload_n 1, 0, 0, 0, 0), (135, .areturn, 0, 0, 0, 0)]
def mC138 : List (Nat × Instr × Nat × Nat × Nat × Nat) := [(0, .aload_n 0, 0, 0, 0, 0), (1, .invokespecial 3, 0, 998, 0, 1206), (4, .aload_n 0, 0, 0, 0, 0), (5, .new 9, 0, 1, 0, 1207), (8, .dup, 0, 0, 0, 0), (9, .invokespecial 11, 0, 209, 0, 1208), (12, .putfield 12, 0, 11, 0, 1209), (15, .return_, 0, 0, 0, 0)]
def mC139 : List (Nat × Instr × Nat × Nat × Nat × Nat) := [(0, .aload_n 0, 0, 0, 0, 0), (1, .dup, 0, 0, 0, 0), (2, .getfield 18, 0, 11, 1, 1212), (5, .iconst 1, 0, 0, 0, 0), (6, .iadd, 0, 0, 0, 0), (7, .putfield 18, 0, 11, 1, 1212), (10, .aload_n 0, 0, 0, 0, 0), (11, .getfield 12, 0, 11, 0, 1209), (14, .invokevirtual 22, 0, 212, 0, 1297), (17, .bipush 20, 0, 0, 0, 0), (19, .if_icmp .ge 12, 0, 0, 0, 0), (22, .aload_n 0, 0, 0, 0, 0), (23, .getfield 12, 0, 11, 0, 1209), (26, .aload_n 1, 0, 0, 0, 0), (27, .invokevirtual 26, 0, 218, 1, 1298), (30, .pop, 0, 0, 0, 0), (31, .return_, 0, 0, 0, 0)]
def mC140 : List (Nat × Instr × Nat × Nat × Nat × Nat) := [(0, .aload_n 0, 0, 0, 0, 0), (1, .getfield 18, 0, 11, 1, 1212), (4, .iconst 1, 0, 0, 0, 0), (5, .if_icmp .ne 42, 0, 0, 0, 0), (8, .aload_n 0, 0, 0, 0, 0), (9, .getfield 12, 0, 11, 0, 1209), (12, .iconst 0, 0, 0, 0, 0), (13, .invokevirtual 30, 0, 216, 1, 1304), (16, .checkcast 34, 0, 0, 0, 0), (19, .getfield 36, 0, 9, 1, 1262), (22, .ifCond .ne 25, 0, 0, 0, 0), (25, .aload_n 0, 0, 0, 0, 0), (26, .getfield 12, 0, 11, 0, 1209), (29, .iconst 0, 0, 0, 0, 0), (30, .invokevirtual 30, 0, 216, 1, 1304), (33, .checkcast 34, 0, 0, 0, 0), (36, .getfield 40, 0, 9, 0, 1258), (39, .arraylength, 0, 0, 0, 0), (40, .ifCond .ne 7, 0, 0, 0, 0), (43, .iconst 1, 0, 0, 0, 0), (44, .goto 4, 0, 0, 0, 0), (47, .iconst 0, 0, 0, 0, 0), (48, .ireturn, 0, 0, 0, 0)]
def mC141 : List (Nat × Instr × Nat × Nat × Nat × Nat) := [(0, .aload_n 0, 0, 0, 0, 0), (1, .getfield 12, 0, 11, 0, 1209), (4, .invokevirtual 22, 0, 212, 0, 1297), (7, .aload_n 1, 0, 0, 0, 0), (8, .getfield 12, 0, 11, 0, 1209), (11, .invokevirtual 22, 0, 212, 0, 1297), (14, .if_icmp .eq 5, 0, 0, 0, 0), (17, .iconst 0, 0, 0, 0, 0), (18, .ireturn, 0, 0, 0, 0), (19, .iconst 0, 0, 0, 0, 0), (20, .istore_n 2, 0, 0, 0, 0), (21, .iload_n 2, 0, 0, 0, 0), (22, .aload_n 0, 0, 0, 0, 0), (23, .getfield 12, 0, 11, 0, 1209), (26, .invokevirtual 22, 0, 212, 0, 1297), (29, .if_icmp .ge 39, 0, 0, 0, 0), (32, .aload_n 0, 0, 0, 0, 0), (33, .getfield 12, 0, 11, 0, 1209), (36, .iload_n 2, 0, 0, 0, 0), (37, .invokevirtual 30, 0, 216, 1, 1304), (40, .checkcast 34, 0, 0, 0, 0), (43, .aload_n 1, 0, 0, 0, 0), (44, .getfield 12, 0, 11, 0, 1209), (47, .iload_n 2, 0, 0, 0, 0), (48, .invokevirtual 30, 0, 216, 1, 1304), (51, .checkcast 34, 0, 0, 0, 0), (54, .invokevirtual 44, 0, 116, 1, 1412), (57, .ifCond .ne 5, 0, 0, 0, 0), (60, .iconst 0, 0, 0, 0, 0), (61, .ireturn, 0, 0, 0, 0), (62, .iinc 2 1, 0, 0, 0, 0), (65, .goto (-44), 0, 0, 0, 0), (68, .iconst 1, 0, 0, 0, 0), (69, .ireturn, 0, 0, 0, 0)]
def mC142 : List (Nat × Instr × Nat × Nat × Nat × Nat) := [(0, .aload_n 0, 0, 0, 0, 0), (1, .aload_n 1, 0, 0, 0, 0), (2, .putfield 3, 0, 12, 9, 1430), (5, .aload_n 0, 0, 0, 0, 0), (6, .invokespecial 9, 0, 998, 0, 1318), (9, .aload_n 0, 0, 0, 0, 0), (10, .new 15, 0, 1, 0, 1319), (13, .dup, 0, 0, 0, 0), (14, .invokespecial 17, 0, 209, 0, 1320), (17, .putfield 18, 0, 12, 7, 1426), (20, .aload_n 0, 0, 0, 0, 0), (21, .new 15, 0, 1, 0, 1319), (24, .dup, 0, 0, 0, 0), (25, .invokespecial 17, 0, 209, 0, 1320), (28, .putfield 22, 0, 12, 8, 1428), (31, .aload_n 0, 0, 0, 0, 0), (32, .iload_n 2, 0, 0, 0, 0), (33, .putfield 25, 0, 12, 0, 1414), (36, .aload_n 0, 0, 0, 0, 0), (37, .new 29, 0, 10, 0, 1321), (40, .dup, 0, 0, 0, 0), (41, .aload_n 1, 0, 0, 0, 0), (42, .iload_n 2, 0, 0, 0, 0), (43, .invokespecial 31, 0, 131, 2, 1322), (46, .invokevirtual 34, 0, 137, 0, 1323), (49, .putfield 38, 0, 12, 1, 1416), (52, .aload_n 0, 0, 0, 0, 0), (53, .aload_n 0, 0, 0, 0, 0), (54, .getfield 38, 0, 12, 1, 1416), (57, .invokestatic 40, 1, 162, 1, 4), (60, .putfield 44, 0, 12, 2, 1418), (63, .aload_n 0, 0, 0, 0, 0), (64, .bipush 20, 0, 0, 0, 0), (66, .aload_n 0, 0, 0, 0, 0), (67, .getfield 44, 0, 12, 2, 1418), (70, .invokestatic 46, 0, 205, 2, 1325), (73, .putfield 52, 0, 12, 3, 1419), (76, .aload_n 0, 0, 0, 0, 0), (77, .aload_n 1, 0, 0, 0, 0), (78, .getfield 55, 0, 999, 0, 0), (81, .iconst 1, 0, 0, 0, 0), (82, .iaload, 0, 0, 0, 0), (83, .iconst (-1), 0, 0, 0, 0), (84, .if_icmp .ne 24, 0, 0, 0, 0), (87, .aload_n 0, 0, 0, 0, 0), (88, .iconst 1, 0, 0, 0, 0), (89, .invokevirtual 59, 0, 144, 1, 1326), (92, .aload_n 0, 0, 0, 0, 0), (93, .iconst 0, 0, 0, 0, 0), (94, .invokevirtual 59, 0, 144, 1, 1326), (97, .if_icmp .le 7, 0, 0, 0, 0), (100, .iconst 1, 0, 0, 0, 0), (101, .goto 13, 0, 0, 0, 0), (104, .iconst 0, 0, 0, 0, 0), (105, .goto 9, 0, 0, 0, 0), (108, .aload_n 1, 0, 0, 0, 0), (109, .getfield 55, 0, 999, 0, 0), (112, .iconst 1, 0, 0, 0, 0), (113, .iaload, 0, 0, 0, 0), (114, .putfield 63, 0, 12, 4, 1421), (117, .aload_n 0, 0, 0, 0, 0), (118, .aload_n 1, 0, 0, 0, 0), (119, .getfield 55, 0, 999, 0, 0), (122, .iconst 2, 0, 0, 0, 0), (123, .iaload, 0, 0, 0, 0), (124, .iconst (-1), 0, 0, 0, 0), (125, .if_icmp .ne 10, 0, 0, 0, 0), (128, .aload_n 0, 0, 0, 0, 0), (129, .invokevirtual 66, 0, 147, 0, 1372), (132, .goto 18, 0, 0, 0, 0), (135, .aload_n 1, 0, 0, 0, 0), (136, .getfield 55, 0, 999, 0, 0), (139, .iconst 2, 0, 0, 0, 0), (140, .iaload, 0, 0, 0, 0), (141, .iconst 1, 0, 0, 0, 0), (142, .if_icmp .ne 7, 0, 0, 0, 0), (145, .iconst 1, 0, 0, 0, 0), (146, .goto 4, 0, 0, 0, 0), (149, .iconst 0, 0, 0, 0, 0), (150, .putfield 70, 0, 12, 5, 1423), (153, .aload_n 0, 0, 0, 0, 0), (154, .aload_n 0, 0, 0, 0, 0), (155, .getfield 52, 0, 12, 3, 1419), (158, .newarray .int, 0, 0, 0, 0), (160, .putfield 74, 0, 12, 6, 1425), (163, .iconst 0, 0, 0, 0, 0), (164, .istore_n 3, 0, 0, 0, 0), (165, .iload_n 3, 0, 0, 0, 0), (166, .aload_n 0, 0, 0, 0, 0), (167, .getfield 52, 0, 12, 3, 1419), (170, .if_icmp .ge 32, 0, 0, 0, 0), (173, .aload_n 0, 0, 0, 0, 0), (174, .getfield 74, 0, 12, 6, 1425), (177, .iload_n 3, 0, 0, 0, 0), (178, .aload_n 0, 0, 0, 0, 0), (179, .aload_n 0, 0, 0, 0, 0), (180, .iload_n 3, 0, 0, 0, 0), (181, .aload_n 0, 0, 0, 0, 0), (182, .invokevirtual 77, 0, 143, 0, 1385), (185, .invokevirtual 81, 0, 145, 2, 1376), (188, .aload_n 1, 0, 0, 0, 0), (189, .getfield 85, 0, 999, 0, 0), (192, .invokevirtual 88, 0, 146, 2, 1381), (195, .iastore, 0, 0, 0, 0), (196, .iinc 3 1, 0, 0, 0, 0), (199, .goto (-34), 0, 0, 0, 0), (202, .aload_n 0, 0, 0, 0, 0), (203, .invokevirtual 77, 0, 143, 0, 1385), (206, .istore_n 3, 0, 0, 0, 0), (207, .iload_n 3, 0, 0, 0, 0), (208, .aload_n 0, 0, 0, 0, 0), (209, .getfield 38, 0, 12, 1, 1416), (212, .invokevirtual 92, 0, 212, 0, 1330), (215, .if_icmp .ge 14, 0, 0, 0, 0), (218, .aload_n 0, 0, 0, 0, 0), (219, .iload_n 3, 0, 0, 0, 0), (220, .invokevirtual 95, 0, 149, 1, 1389), (223, .iinc 3 1, 0, 0, 0, 0), (226, .goto (-19), 0, 0, 0, 0), (229, .return_, 0, 0, 0, 0)]
def mC143 : List (Nat × Instr × Nat × Nat × Nat × Nat) := [(0, .aload_n 0, 0, 0, 0, 0), (1, .getfield 70, 0, 12, 5, 1423), (4, .ifCond .eq 17, 0, 0, 0, 0), (7, .iconst 1, 0, 0, 0, 0), (8, .aload_n 0, 0, 0, 0, 0), (9, .getfield 38, 0, 12, 1, 1416), (12, .invokevirtual 92, 0, 212, 0, 1330), (15, .invokestatic 46, 0, 205, 2, 1325), (18, .goto 4, 0, 0, 0, 0), (21, .iconst 0, 0, 0, 0, 0), (22, .ireturn, 0, 0, 0, 0)]
def mC144 : List (Nat × Instr × Nat × Nat × Nat × Nat) := [(0, .iconst 0, 0, 0, 0, 0), (1, .istore_n 2, 0, 0, 0, 0), (2, .iconst 0, 0, 0, 0, 0), (3, .istore_n 3, 0, 0, 0, 0), (4, .iload_n 3, 0, 0, 0, 0), (5, .aload_n 0, 0, 0, 0, 0), (6, .getfield 38, 0, 12, 1, 1416), (9, .invokevirtual 92, 0, 212, 0, 1330), (12, .if_icmp .ge 78, 0, 0, 0, 0), (15, .iconst 0, 0, 0, 0, 0), (16, .istore 4, 0, 0, 0, 0), (18, .iload 4, 0, 0, 0, 0), (20, .aload_n 0, 0, 0, 0, 0), (21, .getfield 38, 0, 12, 1, 1416), (24, .iload_n 3, 0, 0, 0, 0), (25, .invokevirtual 99, 0, 216, 1, 1331), (28, .checkcast 103, 0, 0, 0, 0), (31, .getfield 105, 0, 11, 0, 1210), (34, .invokevirtual 92, 0, 212, 0, 1330), (37, .if_icmp .ge 47, 0, 0, 0, 0), (40, .iload_n 2, 0, 0, 0, 0), (41, .aload_n 0, 0, 0, 0, 0), (42, .getfield 38, 0, 12, 1, 1416), (45, .iload_n 3, 0, 0, 0, 0), (46, .invokevirtual 99, 0, 216, 1, 1331), (49, .checkcast 103, 0, 0, 0, 0), (52, .getfield 105, 0, 11, 0, 1210), (55, .iload 4, 0, 0, 0, 0), (57, .invokevirtual 99, 0, 216, 1, 1331), (60, .checkcast 107, 0, 0, 0, 0), (63, .iload_n 1, 0, 0, 0, 0), (64, .invokevirtual 109, 0, 126, 1, 1334), (67, .iconst 2, 0, 0, 0, 0), (68, .if_icmp .ne 7, 0, 0, 0, 0), (71, .iconst 1, 0, 0, 0, 0), (72, .goto 4, 0, 0, 0, 0), (75, .iconst 0, 0, 0, 0, 0), (76, .iadd, 0, 0, 0, 0), (77, .istore_n 2, 0, 0, 0, 0), (78, .iinc 4 1, 0, 0, 0, 0), (81, .goto (-63), 0, 0, 0, 0), (84, .iinc 3 1, 0, 0, 0, 0), (87, .goto (-83), 0, 0, 0, 0), (90, .iload_n 2, 0, 0, 0, 0), (91, .ireturn, 0, 0, 0, 0)]
def mC145 : List (Nat × Instr × Nat × Nat × Nat × Nat) := [(0, .new 15, 0, 1, 0, 1319), (3, .dup, 0, 0, 0, 0), (4, .invokespecial 17, 0, 209, 0, 1320), (7, .astore_n 3, 0, 0, 0, 0), (8, .iload_n 2, 0, 0, 0, 0), (9, .istore 4, 0, 0, 0, 0), (11, .iload 4, 0, 0, 0, 0), (13, .aload_n 0, 0, 0, 0, 0), (14, .getfield 38, 0, 12, 1, 1416), (17, .invokevirtual 92, 0, 212, 0, 1330), (20, .if_icmp .ge 58, 0, 0, 0, 0), (23, .iload_n 1, 0, 0, 0, 0), (24, .aload_n 0, 0, 0, 0, 0), (25, .getfield 38, 0, 12, 1, 1416), (28, .iload 4, 0, 0, 0, 0), (30, .invokevirtual 99, 0, 216, 1, 1331), (33, .checkcast 103, 0, 0, 0, 0), (36, .getfield 105, 0, 11, 0, 1210), (39, .invokevirtual 92, 0, 212, 0, 1330), (42, .if_icmp .ge 30, 0, 0, 0, 0), (45, .aload_n 3, 0, 0, 0, 0), (46, .aload_n 0, 0, 0, 0, 0), (47, .getfield 38, 0, 12, 1, 1416), (50, .iload 4, 0, 0, 0, 0), (52, .invokevirtual 99, 0, 216, 1, 1331), (55, .checkcast 103, 0, 0, 0, 0), (58, .getfield 105, 0, 11, 0, 1210), (61, .iload_n 1, 0, 0, 0, 0), (62, .invokevirtual 99, 0, 216, 1, 1331), (65, .checkcast 107, 0, 0, 0, 0), (68, .invokevirtual 112, 0, 218, 1, 1380), (71, .pop, 0, 0, 0, 0), (72, .iinc 4 1, 0, 0, 0, 0), (75, .goto (-64), 0, 0, 0, 0), (78, .aload_n 3, 0, 0, 0, 0), (79, .areturn, 0, 0, 0, 0)]
def mC146 : List (Nat × Instr × Nat × Nat × Nat × Nat) := [(0, .bipush 6, 0, 0, 0, 0), (2, .newarray .int, 0, 0, 0, 0), (4, .astore_n 3, 0, 0, 0, 0), (5, .iconst 0, 0, 0, 0, 0), (6, .istore 4, 0, 0, 0, 0), (8, .iload 4, 0, 0, 0, 0), (10, .aload_n 1, 0, 0, 0, 0), (11, .invokevirtual 92, 0, 212, 0, 1330), (14, .if_icmp .ge 31, 0, 0, 0, 0), (17, .aload_n 3, 0, 0, 0, 0), (18, .aload_n 1, 0, 0, 0, 0), (19, .iload 4, 0, 0, 0, 0), (21, .invokevirtual 99, 0, 216, 1, 1331), (24, .checkcast 107, 0, 0, 0, 0), (27, .aload_n 0, 0, 0, 0, 0), (28, .getfield 63, 0, 12, 4, 1421), (31, .invokevirtual 109, 0, 126, 1, 1334), (34, .dup2, 0, 0, 0, 0), (35, .iaload, 0, 0, 0, 0), (36, .iconst 1, 0, 0, 0, 0), (37, .iadd, 0, 0, 0, 0), (38, .iastore, 0, 0, 0, 0), (39, .iinc 4 1, 0, 0, 0, 0), (42, .goto (-34), 0, 0, 0, 0), (45, .aload_n 1, 0, 0, 0, 0), (46, .invokevirtual 92, 0, 212, 0, 1330), (49, .aload_n 3, 0, 0, 0, 0), (50, .iconst 0, 0, 0, 0, 0), (51, .iaload, 0, 0, 0, 0), (52, .isub, 0, 0, 0, 0), (53, .istore 4, 0, 0, 0, 0), (55, .iload 4, 0, 0, 0, 0), (57, .ifCond .ne 5, 0, 0, 0, 0), (60, .iconst 0, 0, 0, 0, 0), (61, .ireturn, 0, 0, 0, 0), (62, .aload_n 3, 0, 0, 0, 0), (63, .iconst 2, 0, 0, 0, 0), (64, .iaload, 0, 0, 0, 0), (65, .ifCond .le 12, 0, 0, 0, 0), (68, .aload_n 3, 0, 0, 0, 0), (69, .iconst 2, 0, 0, 0, 0), (70, .dup2, 0, 0, 0, 0), (71, .iaload, 0, 0, 0, 0), (72, .aload_n 3, 0, 0, 0, 0), (73, .iconst 1, 0, 0, 0, 0), (74, .iaload, 0, 0, 0, 0), (75, .iadd, 0, 0, 0, 0), (76, .iastore, 0, 0, 0, 0), (77, .iconst 1, 0, 0, 0, 0), (78, .istore 5, 0, 0, 0, 0), (80, .iconst 2, 0, 0, 0, 0), (81, .istore 6, 0, 0, 0, 0), (83, .iload 6, 0, 0, 0, 0), (85, .iconst 4, 0, 0, 0, 0), (86, .if_icmp .gt 24, 0, 0, 0, 0), (89, .aload_n 3, 0, 0, 0, 0), (90, .iload 6, 0, 0, 0, 0), (92, .iaload, 0, 0, 0, 0), (93, .aload_n 3, 0, 0, 0, 0), (94, .iload 5, 0, 0, 0, 0), (96, .iaload, 0, 0, 0, 0), (97, .if_icmp .le 7, 0, 0, 0, 0), (100, .iload 6, 0, 0, 0, 0), (102, .istore 5, 0, 0, 0, 0), (104, .iinc 6 1, 0, 0, 0, 0), (107, .goto (-24), 0, 0, 0, 0), (110, .bipush 100, 0, 0, 0, 0), (112, .aload_n 3, 0, 0, 0, 0), (113, .iload 5, 0, 0, 0, 0), (115, .iaload, 0, 0, 0, 0), (116, .imul, 0, 0, 0, 0), (117, .iload_n 2, 0, 0, 0, 0), (118, .iload 4, 0, 0, 0, 0), (120, .imul, 0, 0, 0, 0), (121, .if_icmp .lt 8, 0, 0, 0, 0), (124, .iload 5, 0, 0, 0, 0), (126, .goto 4, 0, 0, 0, 0), (129, .iconst 5, 0, 0, 0, 0), (130, .ireturn, 0, 0, 0, 0)]
def mC147 : List (Nat × Instr × Nat × Nat × Nat × Nat) := [(0, .aload_n 0, 0, 0, 0, 0), (1, .getfield 38, 0, 12, 1, 1416), (4, .invokevirtual 92, 0, 212, 0, 1330), (7, .iconst 2, 0, 0, 0, 0), (8, .if_icmp .lt 24, 0, 0, 0, 0), (11, .aload_n 0, 0, 0, 0, 0), (12, .getfield 38, 0, 12, 1, 1416), (15, .iconst 0, 0, 0, 0, 0), (16, .invokevirtual 99, 0, 216, 1, 1331), (19, .checkcast 103, 0, 0, 0, 0), (22, .getfield 116, 0, 11, 1, 1214), (25, .aload_n 0, 0, 0, 0, 0), (26, .getfield 44, 0, 12, 2, 1418), (29, .if_icmp .eq 5, 0, 0, 0, 0), (32, .iconst 0, 0, 0, 0, 0), (33, .ireturn, 0, 0, 0, 0), (34, .iconst 0, 0, 0, 0, 0), (35, .istore_n 1, 0, 0, 0, 0), (36, .iload_n 1, 0, 0, 0, 0), (37, .aload_n 0, 0, 0, 0, 0), (38, .getfield 38, 0, 12, 1, 1416), (41, .iconst 0, 0, 0, 0, 0), (42, .invokevirtual 99, 0, 216, 1, 1331), (45, .checkcast 103, 0, 0, 0, 0), (48, .getfield 105, 0, 11, 0, 1210), (51, .invokevirtual 92, 0, 212, 0, 1330), (54, .if_icmp .ge 43, 0, 0, 0, 0), (57, .aload_n 0, 0, 0, 0, 0), (58, .getfield 38, 0, 12, 1, 1416), (61, .iconst 0, 0, 0, 0, 0), (62, .invokevirtual 99, 0, 216, 1, 1331), (65, .checkcast 103, 0, 0, 0, 0), (68, .getfield 105, 0, 11, 0, 1210), (71, .iload_n 1, 0, 0, 0, 0), (72, .invokevirtual 99, 0, 216, 1, 1331), (75, .checkcast 107, 0, 0, 0, 0), (78, .aload_n 0, 0, 0, 0, 0), (79, .getfield 63, 0, 12, 4, 1421), (82, .invokevirtual 109, 0, 126, 1, 1334), (85, .iconst 5, 0, 0, 0, 0), (86, .if_icmp .eq 5, 0, 0, 0, 0), (89, .iconst 0, 0, 0, 0, 0), (90, .ireturn, 0, 0, 0, 0), (91, .iinc 1 1, 0, 0, 0, 0), (94, .goto (-58), 0, 0, 0, 0), (97, .iconst 0, 0, 0, 0, 0), (98, .istore_n 1, 0, 0, 0, 0), (99, .iload_n 1, 0, 0, 0, 0), (100, .aload_n 0, 0, 0, 0, 0), (101, .getfield 52, 0, 12, 3, 1419), (104, .if_icmp .ge 38, 0, 0, 0, 0), (107, .aload_n 0, 0, 0, 0, 0), (108, .aload_n 0, 0, 0, 0, 0), (109, .iload_n 1, 0, 0, 0, 0), (110, .iconst 1, 0, 0, 0, 0), (111, .invokevirtual 81, 0, 145, 2, 1376), (114, .aload_n 0, 0, 0, 0, 0), (115, .getfield 3, 0, 12, 9, 1430), (118, .getfield 85, 0, 999, 0, 0), (121, .invokevirtual 88, 0, 146, 2, 1381), (124, .istore_n 2, 0, 0, 0, 0), (125, .iload_n 2, 0, 0, 0, 0), (126, .iconst 5, 0, 0, 0, 0), (127, .if_icmp .eq 9, 0, 0, 0, 0), (130, .iload_n 2, 0, 0, 0, 0), (131, .ifCond .eq 5, 0, 0, 0, 0), (134, .iconst 1, 0, 0, 0, 0), (135, .ireturn, 0, 0, 0, 0), (136, .iinc 1 1, 0, 0, 0, 0), (139, .goto (-40), 0, 0, 0, 0), (142, .iconst 0, 0, 0, 0, 0), (143, .ireturn, 0, 0, 0, 0)]
def mC148 : List (Nat × Instr × Nat × Nat × Nat × Nat) := [(0, .aload_n 0, 0, 0, 0, 0), (1, .getfield 38, 0, 12, 1, 1416), (4, .iload_n 1, 0, 0, 0, 0), (5, .invokevirtual 99, 0, 216, 1, 1331), (8, .checkcast 103, 0, 0, 0, 0), (11, .getfield 105, 0, 11, 0, 1210), (14, .iload_n 2, 0, 0, 0, 0), (15, .invokevirtual 99, 0, 216, 1, 1331), (18, .checkcast 107, 0, 0, 0, 0), (21, .astore_n 3, 0, 0, 0, 0), (22, .aload_n 3, 0, 0, 0, 0), (23, .getfield 119, 0, 9, 2, 1266), (26, .ifCond .le 8, 0, 0, 0, 0), (29, .aload_n 3, 0, 0, 0, 0), (30, .getfield 119, 0, 9, 2, 1266), (33, .ireturn, 0, 0, 0, 0), (34, .aload_n 3, 0, 0, 0, 0), (35, .aload_n 0, 0, 0, 0, 0), (36, .getfield 74, 0, 12, 6, 1425), (39, .iload_n 2, 0, 0, 0, 0), (40, .iaload, 0, 0, 0, 0), (41, .aload_n 0, 0, 0, 0, 0), (42, .getfield 63, 0, 12, 4, 1421), (45, .invokevirtual 122, 0, 129, 2, 1397), (48, .ifCond .ne 5, 0, 0, 0, 0), (51, .iconst 3, 0, 0, 0, 0), (52, .ireturn, 0, 0, 0, 0), (53, .aload_n 3, 0, 0, 0, 0), (54, .getfield 126, 0, 9, 0, 1259), (57, .arraylength, 0, 0, 0, 0), (58, .ifCond .ne 7, 0, 0, 0, 0), (61, .iconst 1, 0, 0, 0, 0), (62, .goto 4, 0, 0, 0, 0), (65, .iconst 0, 0, 0, 0, 0), (66, .istore 4, 0, 0, 0, 0), (68, .iload 4, 0, 0, 0, 0), (70, .ifCond .eq 25, 0, 0, 0, 0), (73, .aload_n 0, 0, 0, 0, 0), (74, .getfield 3, 0, 12, 9, 1430), (77, .getfield 129, 0, 999, 0, 0), (80, .iload_n 2, 0, 0, 0, 0), (81, .iaload, 0, 0, 0, 0), (82, .iconst 2, 0, 0, 0, 0), (83, .irem, 0, 0, 0, 0), (84, .iconst 1, 0, 0, 0, 0), (85, .if_icmp .ne 8, 0, 0, 0, 0), (88, .bipush 6, 0, 0, 0, 0), (90, .goto 4, 0, 0, 0, 0), (93, .iconst 0, 0, 0, 0, 0), (94, .ireturn, 0, 0, 0, 0), (95, .aload_n 0, 0, 0, 0, 0), (96, .invokevirtual 77, 0, 143, 0, 1385), (99, .istore 5, 0, 0, 0, 0), (101, .iload 5, 0, 0, 0, 0), (103, .iload_n 1, 0, 0, 0, 0), (104, .if_icmp .ge 76, 0, 0, 0, 0), (107, .aload_n 0, 0, 0, 0, 0), (108, .getfield 3, 0, 12, 9, 1430), (111, .getfield 129, 0, 999, 0, 0), (114, .iload_n 2, 0, 0, 0, 0), (115, .iaload, 0, 0, 0, 0), (116, .iconst 1, 0, 0, 0, 0), (117, .if_icmp .le 63, 0, 0, 0, 0), (120, .iload_n 2, 0, 0, 0, 0), (121, .aload_n 0, 0, 0, 0, 0), (122, .getfield 38, 0, 12, 1, 1416), (125, .iload 5, 0, 0, 0, 0), (127, .invokevirtual 99, 0, 216, 1, 1331), (130, .checkcast 103, 0, 0, 0, 0), (133, .getfield 105, 0, 11, 0, 1210), (136, .invokevirtual 92, 0, 212, 0, 1330), (139, .if_icmp .ge 35, 0, 0, 0, 0), (142, .aload_n 0, 0, 0, 0, 0), (143, .getfield 38, 0, 12, 1, 1416), (146, .iload 5, 0, 0, 0, 0), (148, .invokevirtual 99, 0, 216, 1, 1331), (151, .checkcast 103, 0, 0, 0, 0), (154, .getfield 105, 0, 11, 0, 1210), (157, .iload_n 2, 0, 0, 0, 0), (158, .invokevirtual 99, 0, 216, 1, 1331), (161, .checkcast 107, 0, 0, 0, 0), (164, .aload_n 3, 0, 0, 0, 0), (165, .invokevirtual 132, 0, 116, 1, 1402), (168, .ifCond .eq 6, 0, 0, 0, 0), (171, .bipush 7, 0, 0, 0, 0), (173, .ireturn, 0, 0, 0, 0), (174, .iinc 5 1, 0, 0, 0, 0), (177, .goto (-76), 0, 0, 0, 0), (180, .iconst 0, 0, 0, 0, 0), (181, .ireturn, 0, 0, 0, 0)]
def mC149 : List (Nat × Instr × Nat × Nat × Nat × Nat) := [(0, .aload_n 0, 0, 0, 0, 0), (1, .getfield 38, 0, 12, 1, 1416), (4, .iload_n 1, 0, 0, 0, 0), (5, .invokevirtual 99, 0, 216, 1, 1331), (8, .checkcast 103, 0, 0, 0, 0), (11, .astore_n 2, 0, 0, 0, 0), (12, .aload_n 0, 0, 0, 0, 0), (13, .getfield 18, 0, 12, 7, 1426), (16, .invokevirtual 92, 0, 212, 0, 1330), (19, .istore_n 3, 0, 0, 0, 0), (20, .aload_n 2, 0, 0, 0, 0), (21, .getfield 116, 0, 11, 1, 1214), (24, .aload_n 0, 0, 0, 0, 0), (25, .getfield 44, 0, 12, 2, 1418), (28, .if_icmp .eq 41, 0, 0, 0, 0), (31, .aload_n 0, 0, 0, 0, 0), (32, .getfield 18, 0, 12, 7, 1426), (35, .iconst 3, 0, 0, 0, 0), (36, .newarray .int, 0, 0, 0, 0), (38, .dup, 0, 0, 0, 0), (39, .iconst 0, 0, 0, 0, 0), (40, .iload_n 1, 0, 0, 0, 0), (41, .iastore, 0, 0, 0, 0), (42, .dup, 0, 0, 0, 0), (43, .iconst 1, 0, 0, 0, 0), (44, .iconst (-1), 0, 0, 0, 0), (45, .iastore, 0, 0, 0, 0), (46, .dup, 0, 0, 0, 0), (47, .iconst 2, 0, 0, 0, 0), (48, .aload_n 2, 0, 0, 0, 0), (49, .getfield 116, 0, 11, 1, 1214), (52, .aload_n 0, 0, 0, 0, 0), (53, .getfield 44, 0, 12, 2, 1418), (56, .if_icmp .ge 7, 0, 0, 0, 0), (59, .iconst 4, 0, 0, 0, 0), (60, .goto 4, 0, 0, 0, 0), (63, .iconst 5, 0, 0, 0, 0), (64, .iastore, 0, 0, 0, 0), (65, .invokevirtual 112, 0, 218, 1, 1380), (68, .pop, 0, 0, 0, 0), (69, .iconst 0, 0, 0, 0, 0), (70, .istore 4, 0, 0, 0, 0), (72, .iload 4, 0, 0, 0, 0), (74, .aload_n 0, 0, 0, 0, 0), (75, .getfield 52, 0, 12, 3, 1419), (78, .if_icmp .ge 61, 0, 0, 0, 0), (81, .iload 4, 0, 0, 0, 0), (83, .aload_n 2, 0, 0, 0, 0), (84, .getfield 105, 0, 11, 0, 1210), (87, .invokevirtual 92, 0, 212, 0, 1330), (90, .if_icmp .ge 49, 0, 0, 0, 0), (93, .aload_n 0, 0, 0, 0, 0), (94, .iload_n 1, 0, 0, 0, 0), (95, .iload 4, 0, 0, 0, 0), (97, .invokevirtual 136, 0, 148, 2, 1393), (100, .ifCond .le 33, 0, 0, 0, 0), (103, .aload_n 0, 0, 0, 0, 0), (104, .getfield 18, 0, 12, 7, 1426), (107, .iconst 3, 0, 0, 0, 0), (108, .newarray .int, 0, 0, 0, 0), (110, .dup, 0, 0, 0, 0), (111, .iconst 0, 0, 0, 0, 0), (112, .iload_n 1, 0, 0, 0, 0), (113, .iastore, 0, 0, 0, 0), (114, .dup, 0, 0, 0, 0), (115, .iconst 1, 0, 0, 0, 0), (116, .iload 4, 0, 0, 0, 0), (118, .iastore, 0, 0, 0, 0), (119, .dup, 0, 0, 0, 0), (120, .iconst 2, 0, 0, 0, 0), (121, .aload_n 0, 0, 0, 0, 0), (122, .iload_n 1, 0, 0, 0, 0), (123, .iload 4, 0, 0, 0, 0), (125, .invokevirtual 136, 0, 148, 2, 1393), (128, .iastore, 0, 0, 0, 0), (129, .invokevirtual 112, 0, 218, 1, 1380), (132, .pop, 0, 0, 0, 0), (133, .iinc 4 1, 0, 0, 0, 0), (136, .goto (-64), 0, 0, 0, 0), (139, .aload_n 0, 0, 0, 0, 0), (140, .getfield 18, 0, 12, 7, 1426), (143, .invokevirtual 92, 0, 212, 0, 1330), (146, .iload_n 3, 0, 0, 0, 0), (147, .if_icmp .ne 7, 0, 0, 0, 0), (150, .iconst 1, 0, 0, 0, 0), (151, .goto 4, 0, 0, 0, 0), (154, .iconst 0, 0, 0, 0, 0), (155, .istore 4, 0, 0, 0, 0), (157, .iconst 0, 0, 0, 0, 0), (158, .istore 5, 0, 0, 0, 0), (160, .iload 5, 0, 0, 0, 0), (162, .aload_n 0, 0, 0, 0, 0), (163, .getfield 22, 0, 12, 8, 1428), (166, .invokevirtual 92, 0, 212, 0, 1330), (169, .if_icmp .ge 51, 0, 0, 0, 0), (172, .iload 4, 0, 0, 0, 0), (174, .aload_n 0, 0, 0, 0, 0), (175, .getfield 38, 0, 12, 1, 1416), (178, .aload_n 0, 0, 0, 0, 0), (179, .getfield 22, 0, 12, 8, 1428), (182, .iload 5, 0, 0, 0, 0), (184, .invokevirtual 99, 0, 216, 1, 1331), (187, .checkcast 139, 0, 0, 0, 0), (190, .invokevirtual 141, 0, 203, 0, 1407), (193, .invokevirtual 99, 0, 216, 1, 1331), (196, .checkcast 103, 0, 0, 0, 0), (199, .aload_n 2, 0, 0, 0, 0), (200, .invokevirtual 144, 0, 141, 1, 1408), (203, .ifCond .ne 7, 0, 0, 0, 0), (206, .iconst 1, 0, 0, 0, 0), (207, .goto 4, 0, 0, 0, 0), (210, .iconst 0, 0, 0, 0, 0), (211, .iand, 0, 0, 0, 0), (212, .istore 4, 0, 0, 0, 0), (214, .iinc 5 1, 0, 0, 0, 0), (217, .goto (-57), 0, 0, 0, 0), (220, .iload 4, 0, 0, 0, 0), (222, .ifCond .eq 15, 0, 0, 0, 0), (225, .aload_n 0, 0, 0, 0, 0), (226, .getfield 22, 0, 12, 8, 1428), (229, .iload_n 1, 0, 0, 0, 0), (230, .invokestatic 147, 0, 201, 1, 1413), (233, .invokevirtual 112, 0, 218, 1, 1380), (236, .pop, 0, 0, 0, 0), (237, .return_, 0, 0, 0, 0)]
def mC150 : List (Nat × Instr × Nat × Nat × Nat × Nat) := [(0, .aload_n 0, 0, 0, 0, 0), (1, .getfield 38, 0, 12, 1, 1416), (4, .aload_n 0, 0, 0, 0, 0), (5, .getfield 22, 0, 12, 8, 1428), (8, .iload_n 1, 0, 0, 0, 0), (9, .invokevirtual 99, 0, 216, 1, 1331), (12, .checkcast 139, 0, 0, 0, 0), (15, .invokevirtual 141, 0, 203, 0, 1407), (18, .invokevirtual 99, 0, 216, 1, 1331), (21, .checkcast 103, 0, 0, 0, 0), (24, .getfield 105, 0, 11, 0, 1210), (27, .iload_n 2, 0, 0, 0, 0), (28, .invokevirtual 99, 0, 216, 1, 1331), (31, .checkcast 107, 0, 0, 0, 0), (34, .areturn, 0, 0, 0, 0)]
def mC151 : List (Nat × Instr × Nat × Nat × Nat × Nat) := [(0, .aload_n 0, 0, 0, 0, 0), (1, .iload_n 1, 0, 0, 0, 0), (2, .iload_n 2, 0, 0, 0, 0), (3, .invokevirtual 151, 0, 150, 2, 1521), (6, .aload_n 0, 0, 0, 0, 0), (7, .getfield 74, 0, 12, 6, 1425), (10, .iload_n 2, 0, 0, 0, 0), (11, .iaload, 0, 0, 0, 0), (12, .aload_n 0, 0, 0, 0, 0), (13, .getfield 63, 0, 12, 4, 1421), (16, .invokevirtual 155, 0, 130, 2, 1529), (19, .ireturn, 0, 0, 0, 0)]
def mC152 : List (Nat × Instr × Nat × Nat × Nat × Nat) := [(0, .iconst 0, 0, 0, 0, 0), (1, .istore_n 2, 0, 0, 0, 0), (2, .iconst 0, 0, 0, 0, 0), (3, .istore_n 3, 0, 0, 0, 0), (4, .iload_n 3, 0, 0, 0, 0), (5, .aload_n 0, 0, 0, 0, 0), (6, .getfield 22, 0, 12, 8, 1428), (9, .invokevirtual 92, 0, 212, 0, 1330), (12, .if_icmp .ge 30, 0, 0, 0, 0), (15, .iload_n 2, 0, 0, 0, 0), (16, .aload_n 0, 0, 0, 0, 0), (17, .iload_n 3, 0, 0, 0, 0), (18, .iload_n 1, 0, 0, 0, 0), (19, .invokevirtual 151, 0, 150, 2, 1521), (22, .getfield 126, 0, 9, 0, 1259), (25, .arraylength, 0, 0, 0, 0), (26, .ifCond .le 7, 0, 0, 0, 0), (29, .iconst 1, 0, 0, 0, 0), (30, .goto 4, 0, 0, 0, 0), (33, .iconst 0, 0, 0, 0, 0), (34, .iadd, 0, 0, 0, 0), (35, .istore_n 2, 0, 0, 0, 0), (36, .iinc 3 1, 0, 0, 0, 0), (39, .goto (-35), 0, 0, 0, 0), (42, .iload_n 2, 0, 0, 0, 0), (43, .ireturn, 0, 0, 0, 0)]
def mC153 : List (Nat × Instr × Nat × Nat × Nat × Nat) := [(0, .lconst 0, 0, 0, 0, 0), (1, .lstore_n 2, 0, 0, 0, 0), (2, .iconst 0, 0, 0, 0, 0), (3, .istore 4, 0, 0, 0, 0), (5, .iload 4, 0, 0, 0, 0), (7, .aload_n 0, 0, 0, 0, 0), (8, .getfield 22, 0, 12, 8, 1428), (11, .invokevirtual 92, 0, 212, 0, 1330), (14, .if_icmp .ge 20, 0, 0, 0, 0), (17, .lload_n 2, 0, 0, 0, 0), (18, .aload_n 0, 0, 0, 0, 0), (19, .iload 4, 0, 0, 0, 0), (21, .iload_n 1, 0, 0, 0, 0), (22, .invokevirtual 158, 0, 151, 2, 1525), (25, .i2l, 0, 0, 0, 0), (26, .ladd, 0, 0, 0, 0), (27, .lstore_n 2, 0, 0, 0, 0), (28, .iinc 4 1, 0, 0, 0, 0), (31, .goto (-26), 0, 0, 0, 0), (34, .lload_n 2, 0, 0, 0, 0), (35, .lreturn, 0, 0, 0, 0)]
def mC154 : List (Nat × Instr × Nat × Nat × Nat × Nat) := [(0, .iconst 0, 0, 0, 0, 0), (1, .istore_n 3, 0, 0, 0, 0), (2, .iconst 0, 0, 0, 0, 0), (3, .istore 4, 0, 0, 0, 0), (5, .iconst 0, 0, 0, 0, 0), (6, .istore 5, 0, 0, 0, 0), (8, .iload 5, 0, 0, 0, 0), (10, .aload_n 0, 0, 0, 0, 0), (11, .getfield 22, 0, 12, 8, 1428), (14, .invokevirtual 92, 0, 212, 0, 1330), (17, .if_icmp .ge 68, 0, 0, 0, 0), (20, .aload_n 0, 0, 0, 0, 0), (21, .iload 5, 0, 0, 0, 0), (23, .iload_n 1, 0, 0, 0, 0), (24, .invokevirtual 151, 0, 150, 2, 1521), (27, .getfield 126, 0, 9, 0, 1259), (30, .arraylength, 0, 0, 0, 0), (31, .ifCond .ne 6, 0, 0, 0, 0), (34, .goto 45, 0, 0, 0, 0), (37, .aload_n 0, 0, 0, 0, 0), (38, .iload 5, 0, 0, 0, 0), (40, .iload_n 1, 0, 0, 0, 0), (41, .invokevirtual 158, 0, 151, 2, 1525), (44, .istore 6, 0, 0, 0, 0), (46, .iload 4, 0, 0, 0, 0), (48, .ifCond .ne 8, 0, 0, 0, 0), (51, .iload 6, 0, 0, 0, 0), (53, .goto 22, 0, 0, 0, 0), (56, .iload_n 2, 0, 0, 0, 0), (57, .ifCond .ne 12, 0, 0, 0, 0), (60, .iload_n 3, 0, 0, 0, 0), (61, .iload 6, 0, 0, 0, 0), (63, .invokestatic 46, 0, 205, 2, 1325), (66, .goto 9, 0, 0, 0, 0), (69, .iload_n 3, 0, 0, 0, 0), (70, .iload 6, 0, 0, 0, 0), (72, .invokestatic 160, 0, 204, 2, 1534), (75, .istore_n 3, 0, 0, 0, 0), (76, .iconst 1, 0, 0, 0, 0), (77, .istore 4, 0, 0, 0, 0), (79, .iinc 5 1, 0, 0, 0, 0), (82, .goto (-74), 0, 0, 0, 0), (85, .iload_n 3, 0, 0, 0, 0), (86, .ireturn, 0, 0, 0, 0)]
def mC155 : List (Nat × Instr × Nat × Nat × Nat × Nat) := [(0, .iload_n 2, 0, 0, 0, 0), (1, .ifCond .ne 10, 0, 0, 0, 0), (4, .aload_n 0, 0, 0, 0, 0), (5, .getfield 74, 0, 12, 6, 1425), (8, .iload_n 1, 0, 0, 0, 0), (9, .iaload, 0, 0, 0, 0), (10, .ireturn, 0, 0, 0, 0), (11, .iconst 0, 0, 0, 0, 0), (12, .istore_n 3, 0, 0, 0, 0), (13, .aload_n 0, 0, 0, 0, 0), (14, .iload_n 1, 0, 0, 0, 0), (15, .aload_n 0, 0, 0, 0, 0), (16, .invokevirtual 77, 0, 143, 0, 1385), (19, .invokevirtual 81, 0, 145, 2, 1376), (22, .astore 4, 0, 0, 0, 0), (24, .iconst 0, 0, 0, 0, 0), (25, .istore 5, 0, 0, 0, 0), (27, .iload 5, 0, 0, 0, 0), (29, .aload 4, 0, 0, 0, 0), (31, .invokevirtual 92, 0, 212, 0, 1330), (34, .if_icmp .ge 141, 0, 0, 0, 0), (37, .aload 4, 0, 0, 0, 0), (39, .iload 5, 0, 0, 0, 0), (41, .invokevirtual 99, 0, 216, 1, 1331), (44, .checkcast 107, 0, 0, 0, 0), (47, .getfield 126, 0, 9, 0, 1259), (50, .arraylength, 0, 0, 0, 0), (51, .ifCond .ne 7, 0, 0, 0, 0), (54, .iconst 1, 0, 0, 0, 0), (55, .goto 4, 0, 0, 0, 0), (58, .iconst 0, 0, 0, 0, 0), (59, .istore 6, 0, 0, 0, 0), (61, .iload 6, 0, 0, 0, 0), (63, .ifCond .ne 7, 0, 0, 0, 0), (66, .iconst 1, 0, 0, 0, 0), (67, .goto 4, 0, 0, 0, 0), (70, .iconst 0, 0, 0, 0, 0), (71, .istore 7, 0, 0, 0, 0), (73, .iconst 0, 0, 0, 0, 0), (74, .istore 8, 0, 0, 0, 0), (76, .iload 8, 0, 0, 0, 0), (78, .iload 5, 0, 0, 0, 0), (80, .if_icmp .ge 45, 0, 0, 0, 0), (83, .iload 7, 0, 0, 0, 0), (85, .aload 4, 0, 0, 0, 0), (87, .iload 8, 0, 0, 0, 0), (89, .invokevirtual 99, 0, 216, 1, 1331), (92, .checkcast 107, 0, 0, 0, 0), (95, .aload 4, 0, 0, 0, 0), (97, .iload 5, 0, 0, 0, 0), (99, .invokevirtual 99, 0, 216, 1, 1331), (102, .checkcast 107, 0, 0, 0, 0), (105, .invokevirtual 132, 0, 116, 1, 1402), (108, .ifCond .ne 7, 0, 0, 0, 0), (111, .iconst 1, 0, 0, 0, 0), (112, .goto 4, 0, 0, 0, 0), (115, .iconst 0, 0, 0, 0, 0), (116, .iand, 0, 0, 0, 0), (117, .istore 7, 0, 0, 0, 0), (119, .iinc 8 1, 0, 0, 0, 0), (122, .goto (-46), 0, 0, 0, 0), (125, .iload_n 3, 0, 0, 0, 0), (126, .iload_n 2, 0, 0, 0, 0), (127, .iconst 1, 0, 0, 0, 0), (128, .if_icmp .ne 11, 0, 0, 0, 0), (131, .iload 6, 0, 0, 0, 0), (133, .ifCond .ne 33, 0, 0, 0, 0), (136, .goto 26, 0, 0, 0, 0), (139, .iload_n 2, 0, 0, 0, 0), (140, .iconst 2, 0, 0, 0, 0), (141, .if_icmp .ne 11, 0, 0, 0, 0), (144, .iload 6, 0, 0, 0, 0), (146, .ifCond .eq 20, 0, 0, 0, 0), (149, .goto 13, 0, 0, 0, 0), (152, .iload_n 2, 0, 0, 0, 0), (153, .iconst 4, 0, 0, 0, 0), (154, .if_icmp .ne 12, 0, 0, 0, 0), (157, .iload 7, 0, 0, 0, 0), (159, .ifCond .eq 7, 0, 0, 0, 0), (162, .iconst 1, 0, 0, 0, 0), (163, .goto 4, 0, 0, 0, 0), (166, .iconst 0, 0, 0, 0, 0), (167, .iadd, 0, 0, 0, 0), (168, .istore_n 3, 0, 0, 0, 0), (169, .iinc 5 1, 0, 0, 0, 0), (172, .goto (-145), 0, 0, 0, 0), (175, .iconst 0, 0, 0, 0, 0), (176, .istore 5, 0, 0, 0, 0), (178, .iload 5, 0, 0, 0, 0), (180, .aload_n 0, 0, 0, 0, 0), (181, .getfield 18, 0, 12, 7, 1426), (184, .invokevirtual 92, 0, 212, 0, 1330), (187, .if_icmp .ge 40, 0, 0, 0, 0), (190, .iload_n 3, 0, 0, 0, 0), (191, .iload_n 2, 0, 0, 0, 0), (192, .iconst 3, 0, 0, 0, 0), (193, .if_icmp .ne 25, 0, 0, 0, 0), (196, .aload_n 0, 0, 0, 0, 0), (197, .getfield 18, 0, 12, 7, 1426), (200, .iload 5, 0, 0, 0, 0), (202, .invokevirtual 99, 0, 216, 1, 1331), (205, .checkcast 163, 0, 0, 0, 0), (208, .iconst 1, 0, 0, 0, 0), (209, .iaload, 0, 0, 0, 0), (210, .iload_n 1, 0, 0, 0, 0), (211, .if_icmp .ne 7, 0, 0, 0, 0), (214, .iconst 1, 0, 0, 0, 0), (215, .goto 4, 0, 0, 0, 0), (218, .iconst 0, 0, 0, 0, 0), (219, .iadd, 0, 0, 0, 0), (220, .istore_n 3, 0, 0, 0, 0), (221, .iinc 5 1, 0, 0, 0, 0), (224, .goto (-46), 0, 0, 0, 0), (227, .iload_n 3, 0, 0, 0, 0), (228, .ireturn, 0, 0, 0, 0)]
def mC156 : List (Nat × Instr × Nat × Nat × Nat × Nat) := [(0, .iconst 0, 0, 0, 0, 0), (1, .istore_n 1, 0, 0, 0, 0), (2, .iconst 0, 0, 0, 0, 0), (3, .istore_n 2, 0, 0, 0, 0), (4, .iload_n 2, 0, 0, 0, 0), (5, .aload_n 0, 0, 0, 0, 0), (6, .getfield 38, 0, 12, 1, 1416), (9, .invokevirtual 92, 0, 212, 0, 1330), (12, .if_icmp .ge 73, 0, 0, 0, 0), (15, .iconst 0, 0, 0, 0, 0), (16, .istore_n 3, 0, 0, 0, 0), (17, .iload_n 3, 0, 0, 0, 0), (18, .aload_n 0, 0, 0, 0, 0), (19, .getfield 38, 0, 12, 1, 1416), (22, .iload_n 2, 0, 0, 0, 0), (23, .invokevirtual 99, 0, 216, 1, 1331), (26, .checkcast 103, 0, 0, 0, 0), (29, .getfield 105, 0, 11, 0, 1210), (32, .invokevirtual 92, 0, 212, 0, 1330), (35, .if_icmp .ge 44, 0, 0, 0, 0), (38, .iload_n 1, 0, 0, 0, 0), (39, .aload_n 0, 0, 0, 0, 0), (40, .getfield 38, 0, 12, 1, 1416), (43, .iload_n 2, 0, 0, 0, 0), (44, .invokevirtual 99, 0, 216, 1, 1331), (47, .checkcast 103, 0, 0, 0, 0), (50, .getfield 105, 0, 11, 0, 1210), (53, .iload_n 3, 0, 0, 0, 0), (54, .invokevirtual 99, 0, 216, 1, 1331), (57, .checkcast 107, 0, 0, 0, 0), (60, .getfield 164, 0, 9, 1, 1263), (63, .ifCond .eq 7, 0, 0, 0, 0), (66, .iconst 1, 0, 0, 0, 0), (67, .goto 4, 0, 0, 0, 0), (70, .iconst 0, 0, 0, 0, 0), (71, .iadd, 0, 0, 0, 0), (72, .istore_n 1, 0, 0, 0, 0), (73, .iinc 3 1, 0, 0, 0, 0), (76, .goto (-59), 0, 0, 0, 0), (79, .iinc 2 1, 0, 0, 0, 0), (82, .goto (-78), 0, 0, 0, 0), (85, .iload_n 1, 0, 0, 0, 0), (86, .ireturn, 0, 0, 0, 0)]
def mC157 : List (Nat × Instr × Nat × Nat × Nat × Nat) := [(0, .aload_n 0, 0, 0, 0, 0), (1, .invokespecial 1, 0, 998, 0, 949), (4, .aload_n 0, 0, 0, 0, 0), (5, .new 7, 0, 1, 0, 950), (8, .dup, 0, 0, 0, 0), (9, .invokespecial 9, 0, 209, 0, 952), (12, .putfield 10, 0, 13, 1, 977), (15, .aload_n 0, 0, 0, 0, 0), (16, .iconst 3, 0, 0, 0, 0), (17, .newarray .int, 0, 0, 0, 0), (19, .dup, 0, 0, 0, 0), (20, .iconst 0, 0, 0, 0, 0), (21, .iconst (-1), 0, 0, 0, 0), (22, .iastore, 0, 0, 0, 0), (23, .dup, 0, 0, 0, 0), (24, .iconst 1, 0, 0, 0, 0), (25, .iconst (-1), 0, 0, 0, 0), (26, .iastore, 0, 0, 0, 0), (27, .dup, 0, 0, 0, 0), (28, .iconst 2, 0, 0, 0, 0), (29, .iconst (-1), 0, 0, 0, 0), (30, .iastore, 0, 0, 0, 0), (31, .putfield 16, 0, 13, 2, 979), (34, .aload_n 0, 0, 0, 0, 0), (35, .bipush 20, 0, 0, 0, 0), (37, .newarray .int, 0, 0, 0, 0), (39, .putfield 20, 0, 13, 3, 981), (42, .aload_n 0, 0, 0, 0, 0), (43, .bipush 80, 0, 0, 0, 0), (45, .putfield 23, 0, 13, 4, 983), (48, .return_, 0, 0, 0, 0)]
def mC158 : List (Nat × Instr × Nat × Nat × Nat × Nat) := [(0, .aload_n 0, 0, 0, 0, 0), (1, .getfield 27, 0, 13, 0, 976), (4, .ireturn, 0, 0, 0, 0)]
def mC159 : List (Nat × Instr × Nat × Nat × Nat × Nat) := [(0, .iload_n 0, 0, 0, 0, 0), (1, .iload_n 1, 0, 0, 0, 0), (2, .if_icmp .lt 12, 0, 0, 0, 0), (5, .iload_n 0, 0, 0, 0, 0), (6, .iload_n 2, 0, 0, 0, 0), (7, .if_icmp .gt 7, 0, 0, 0, 0), (10, .iconst 1, 0, 0, 0, 0), (11, .goto 4, 0, 0, 0, 0), (14, .iconst 0, 0, 0, 0, 0), (15, .ireturn, 0, 0, 0, 0)]
def mC160 : List (Nat × Instr × Nat × Nat × Nat × Nat) := [(0, .iload_n 1, 0, 0, 0, 0), (1, .ifCond .eq 15, 0, 0, 0, 0), (4, .aload_n 0, 0, 0, 0, 0), (5, .getfield 27, 0, 13, 0, 976), (8, .ifCond .ne 8, 0, 0, 0, 0), (11, .aload_n 0, 0, 0, 0, 0), (12, .iload_n 2, 0, 0, 0, 0), (13, .putfield 27, 0, 13, 0, 976), (16, .aload_n 0, 0, 0, 0, 0), (17, .getfield 27, 0, 13, 0, 976), (20, .ifCond .le 7, 0, 0, 0, 0), (23, .iconst 1, 0, 0, 0, 0), (24, .goto 4, 0, 0, 0, 0), (27, .iconst 0, 0, 0, 0, 0), (28, .ireturn, 0, 0, 0, 0)]
def mC161 : List (Nat × Instr × Nat × Nat × Nat × Nat) := [(0, .aload_n 0, 0, 0, 0, 0), (1, .iconst 0, 0, 0, 0, 0), (2, .putfield 27, 0, 13, 0, 976), (5, .aload_n 0, 0, 0, 0, 0), (6, .iload_n 1, 0, 0, 0, 0), (7, .iload_n 2, 0, 0, 0, 0), (8, .invokevirtual 30, 0, 160, 2, 1014), (11, .ireturn, 0, 0, 0, 0)]
def mC162 : List (Nat × Instr × Nat × Nat × Nat × Nat) := [(0, .iconst 0, 0, 0, 0, 0), (1, .istore_n 1, 0, 0, 0, 0), (2, .iconst 0, 0, 0, 0, 0), (3, .istore_n 2, 0, 0, 0, 0), (4, .iconst 0, 0, 0, 0, 0), (5, .istore_n 3, 0, 0, 0, 0), (6, .iload_n 3, 0, 0, 0, 0), (7, .aload_n 0, 0, 0, 0, 0), (8, .invokevirtual 34, 0, 212, 0, 1102), (11, .if_icmp .ge 57, 0, 0, 0, 0), (14, .aload_n 0, 0, 0, 0, 0), (15, .iload_n 3, 0, 0, 0, 0), (16, .invokevirtual 38, 0, 216, 1, 1309), (19, .checkcast 42, 0, 0, 0, 0), (22, .getfield 44, 0, 11, 1, 1213), (25, .istore 4, 0, 0, 0, 0), (27, .aload_n 0, 0, 0, 0, 0), (28, .iload 4, 0, 0, 0, 0), (30, .invokestatic 47, 0, 163, 2, 1311), (33, .istore 5, 0, 0, 0, 0), (35, .iload 5, 0, 0, 0, 0), (37, .iload_n 2, 0, 0, 0, 0), (38, .if_icmp .lt 24, 0, 0, 0, 0), (41, .iload 5, 0, 0, 0, 0), (43, .iload_n 2, 0, 0, 0, 0), (44, .if_icmp .ne 12, 0, 0, 0, 0), (47, .iload 4, 0, 0, 0, 0), (49, .iload_n 1, 0, 0, 0, 0), (50, .if_icmp .gt 6, 0, 0, 0, 0), (53, .goto 9, 0, 0, 0, 0), (56, .iload 5, 0, 0, 0, 0), (58, .istore_n 2, 0, 0, 0, 0), (59, .iload 4, 0, 0, 0, 0), (61, .istore_n 1, 0, 0, 0, 0), (62, .iinc 3 1, 0, 0, 0, 0), (65, .goto (-59), 0, 0, 0, 0), (68, .iload_n 1, 0, 0, 0, 0), (69, .ireturn, 0, 0, 0, 0)]
def mC163 : List (Nat × Instr × Nat × Nat × Nat × Nat) := [(0, .iconst 0, 0, 0, 0, 0), (1, .istore_n 2, 0, 0, 0, 0), (2, .iconst 0, 0, 0, 0, 0), (3, .istore_n 3, 0, 0, 0, 0), (4, .iload_n 3, 0, 0, 0, 0), (5, .aload_n 0, 0, 0, 0, 0), (6, .invokevirtual 34, 0, 212, 0, 1102), (9, .if_icmp .ge 32, 0, 0, 0, 0), (12, .iload_n 2, 0, 0, 0, 0), (13, .aload_n 0, 0, 0, 0, 0), (14, .iload_n 3, 0, 0, 0, 0), (15, .invokevirtual 38, 0, 216, 1, 1309), (18, .checkcast 42, 0, 0, 0, 0), (21, .getfield 44, 0, 11, 1, 1213), (24, .iload_n 1, 0, 0, 0, 0), (25, .if_icmp .ne 7, 0, 0, 0, 0), (28, .iconst 1, 0, 0, 0, 0), (29, .goto 4, 0, 0, 0, 0), (32, .iconst 0, 0, 0, 0, 0), (33, .iadd, 0, 0, 0, 0), (34, .istore_n 2, 0, 0, 0, 0), (35, .iinc 3 1, 0, 0, 0, 0), (38, .goto (-34), 0, 0, 0, 0), (41, .iload_n 2, 0, 0, 0, 0), (42, .ireturn, 0, 0, 0, 0)]
def mC164 : List (Nat × Instr × Nat × Nat × Nat × Nat) := [(0, .new 51, 0, 10, 0, 1174), (3, .dup, 0, 0, 0, 0), (4, .aload_n 0, 0, 0, 0, 0), (5, .iload_n 1, 0, 0, 0, 0), (6, .invokespecial 53, 0, 131, 2, 1176), (9, .invokevirtual 56, 0, 137, 0, 1190), (12, .astore_n 2, 0, 0, 0, 0), (13, .aload_n 2, 0, 0, 0, 0), (14, .invokestatic 60, 0, 162, 1, 1306), (17, .istore_n 3, 0, 0, 0, 0), (18, .iload_n 3, 0, 0, 0, 0), (19, .iconst 2, 0, 0, 0, 0), (20, .if_icmp .ge 7, 0, 0, 0, 0), (23, .iconst 0, 0, 0, 0, 0), (24, .goto 23, 0, 0, 0, 0), (27, .bipush 100, 0, 0, 0, 0), (29, .aload_n 2, 0, 0, 0, 0), (30, .iload_n 3, 0, 0, 0, 0), (31, .invokestatic 47, 0, 163, 2, 1311), (34, .imul, 0, 0, 0, 0), (35, .aload_n 2, 0, 0, 0, 0), (36, .invokevirtual 34, 0, 212, 0, 1102), (39, .idiv, 0, 0, 0, 0), (40, .bipush 20, 0, 0, 0, 0), (42, .iload_n 3, 0, 0, 0, 0), (43, .invokestatic 64, 0, 205, 2, 1314), (46, .iadd, 0, 0, 0, 0), (47, .ireturn, 0, 0, 0, 0)]
def mC165 : List (Nat × Instr × Nat × Nat × Nat × Nat) := [(0, .aload_n 0, 0, 0, 0, 0), (1, .getfield 16, 0, 13, 2, 979), (4, .iconst 0, 0, 0, 0, 0), (5, .iaload, 0, 0, 0, 0), (6, .iconst (-1), 0, 0, 0, 0), (7, .if_icmp .eq 10, 0, 0, 0, 0), (10, .aload_n 0, 0, 0, 0, 0), (11, .getfield 16, 0, 13, 2, 979), (14, .iconst 0, 0, 0, 0, 0), (15, .iaload, 0, 0, 0, 0), (16, .ireturn, 0, 0, 0, 0), (17, .iconst 0, 0, 0, 0, 0), (18, .istore_n 1, 0, 0, 0, 0), (19, .iconst 1, 0, 0, 0, 0), (20, .istore_n 2, 0, 0, 0, 0), (21, .iload_n 2, 0, 0, 0, 0), (22, .iconst 4, 0, 0, 0, 0), (23, .if_icmp .ge 24, 0, 0, 0, 0), (26, .aload_n 0, 0, 0, 0, 0), (27, .iload_n 2, 0, 0, 0, 0), (28, .invokevirtual 70, 0, 164, 1, 1170), (31, .aload_n 0, 0, 0, 0, 0), (32, .iload_n 1, 0, 0, 0, 0), (33, .invokevirtual 70, 0, 164, 1, 1170), (36, .if_icmp .le 5, 0, 0, 0, 0), (39, .iload_n 2, 0, 0, 0, 0), (40, .istore_n 1, 0, 0, 0, 0), (41, .iinc 2 1, 0, 0, 0, 0), (44, .goto (-23), 0, 0, 0, 0), (47, .iload_n 1, 0, 0, 0, 0), (48, .ireturn, 0, 0, 0, 0)]
def mC166 : List (Nat × Instr × Nat × Nat × Nat × Nat) := [(0, .new 74, 0, 12, 0, 1164), (3, .dup, 0, 0, 0, 0), (4, .aload_n 0, 0, 0, 0, 0), (5, .aload_n 0, 0, 0, 0, 0), (6, .invokevirtual 76, 0, 165, 0, 1166), (9, .invokespecial 79, 0, 142, 2, 1315), (12, .areturn, 0, 0, 0, 0)]
def mC167 : List (Nat × Instr × Nat × Nat × Nat × Nat) := [(0, .aload_n 0, 0, 0, 0, 0), (1, .aload_n 0, 0, 0, 0, 0), (2, .getfield 10, 0, 13, 1, 977), (5, .invokevirtual 34, 0, 212, 0, 1102), (8, .aload_n 1, 0, 0, 0, 0), (9, .invokevirtual 34, 0, 212, 0, 1102), (12, .iadd, 0, 0, 0, 0), (13, .sipush 500, 0, 0, 0, 0), (16, .if_icmp .le 7, 0, 0, 0, 0), (19, .iconst 1, 0, 0, 0, 0), (20, .goto 4, 0, 0, 0, 0), (23, .iconst 0, 0, 0, 0, 0), (24, .iconst 2, 0, 0, 0, 0), (25, .invokevirtual 30, 0, 160, 2, 1014), (28, .ifCond .eq 5, 0, 0, 0, 0), (31, .iconst 0, 0, 0, 0, 0), (32, .ireturn, 0, 0, 0, 0), (33, .aload_n 0, 0, 0, 0, 0), (34, .getfield 10, 0, 13, 1, 977), (37, .aload_n 1, 0, 0, 0, 0), (38, .invokevirtual 80, 0, 222, 1, 1106), (41, .pop, 0, 0, 0, 0), (42, .aload_n 0, 0, 0, 0, 0), (43, .getfield 10, 0, 13, 1, 977), (46, .invokevirtual 34, 0, 212, 0, 1102), (49, .ireturn, 0, 0, 0, 0)]
def mC168 : List (Nat × Instr × Nat × Nat × Nat × Nat) := [(0, .iload_n 0, 0, 0, 0, 0), (1, .iconst 0, 0, 0, 0, 0), (2, .bipush 45, 0, 0, 0, 0), (4, .invokestatic 84, 0, 159, 3, 1007), (7, .ifCond .ne 7, 0, 0, 0, 0), (10, .iconst 1, 0, 0, 0, 0), (11, .goto 4, 0, 0, 0, 0), (14, .iconst 0, 0, 0, 0, 0), (15, .ireturn, 0, 0, 0, 0)]
def mC169 : List (Nat × Instr × Nat × Nat × Nat × Nat) := [(0, .iload_n 1, 0, 0, 0, 0), (1, .bipush 9, 0, 0, 0, 0), (3, .if_icmp .le 11, 0, 0, 0, 0), (6, .aload_n 0, 0, 0, 0, 0), (7, .iload_n 1, 0, 0, 0, 0), (8, .bipush 10, 0, 0, 0, 0), (10, .idiv, 0, 0, 0, 0), (11, .invokestatic 88, 0, 169, 2, 1125), (14, .aload_n 0, 0, 0, 0, 0), (15, .bipush 10, 0, 0, 0, 0), (17, .iload_n 1, 0, 0, 0, 0), (18, .bipush 10, 0, 0, 0, 0), (20, .irem, 0, 0, 0, 0), (21, .iadd, 0, 0, 0, 0), (22, .invokestatic 92, 0, 201, 1, 1018), (25, .invokevirtual 98, 0, 218, 1, 1038), (28, .pop, 0, 0, 0, 0), (29, .return_, 0, 0, 0, 0)]
def mC170 : List (Nat × Instr × Nat × Nat × Nat × Nat) := [(0, .aload_n 0, 0, 0, 0, 0), (1, .iload_n 1, 0, 0, 0, 0), (2, .invokestatic 102, 0, 168, 1, 1004), (5, .iconst 1, 0, 0, 0, 0), (6, .invokevirtual 106, 0, 161, 2, 1010), (9, .ifCond .eq 5, 0, 0, 0, 0), (12, .iconst 0, 0, 0, 0, 0), (13, .ireturn, 0, 0, 0, 0), (14, .new 7, 0, 1, 0, 950), (17, .dup, 0, 0, 0, 0), (18, .invokespecial 9, 0, 209, 0, 952), (21, .astore_n 2, 0, 0, 0, 0), (22, .aload_n 2, 0, 0, 0, 0), (23, .iload_n 1, 0, 0, 0, 0), (24, .invokestatic 92, 0, 201, 1, 1018), (27, .invokevirtual 98, 0, 218, 1, 1038), (30, .pop, 0, 0, 0, 0), (31, .aload_n 0, 0, 0, 0, 0), (32, .aload_n 2, 0, 0, 0, 0), (33, .invokevirtual 109, 0, 167, 1, 1098), (36, .ireturn, 0, 0, 0, 0)]
def mC171 : List (Nat × Instr × Nat × Nat × Nat × Nat) := [(0, .aload_n 0, 0, 0, 0, 0), (1, .iload_n 1, 0, 0, 0, 0), (2, .ifCond .ge 7, 0, 0, 0, 0), (5, .iconst 1, 0, 0, 0, 0), (6, .goto 4, 0, 0, 0, 0), (9, .iconst 0, 0, 0, 0, 0), (10, .iconst 1, 0, 0, 0, 0), (11, .invokevirtual 106, 0, 161, 2, 1010), (14, .ifCond .eq 5, 0, 0, 0, 0), (17, .iconst 0, 0, 0, 0, 0), (18, .ireturn, 0, 0, 0, 0), (19, .new 7, 0, 1, 0, 950), (22, .dup, 0, 0, 0, 0), (23, .invokespecial 9, 0, 209, 0, 952), (26, .astore_n 2, 0, 0, 0, 0), (27, .aload_n 2, 0, 0, 0, 0), (28, .iload_n 1, 0, 0, 0, 0), (29, .invokestatic 88, 0, 169, 2, 1125), (32, .aload_n 0, 0, 0, 0, 0), (33, .aload_n 2, 0, 0, 0, 0), (34, .invokevirtual 109, 0, 167, 1, 1098), (37, .ireturn, 0, 0, 0, 0)]
def mC172 : List (Nat × Instr × Nat × Nat × Nat × Nat) := [(0, .aload_n 0, 0, 0, 0, 0), (1, .iload_n 1, 0, 0, 0, 0), (2, .iconst 0, 0, 0, 0, 0), (3, .bipush 25, 0, 0, 0, 0), (5, .invokestatic 84, 0, 159, 3, 1007), (8, .ifCond .eq 13, 0, 0, 0, 0), (11, .iload_n 2, 0, 0, 0, 0), (12, .iconst 1, 0, 0, 0, 0), (13, .bipush 12, 0, 0, 0, 0), (15, .invokestatic 84, 0, 159, 3, 1007), (18, .ifCond .ne 7, 0, 0, 0, 0), (21, .iconst 1, 0, 0, 0, 0), (22, .goto 4, 0, 0, 0, 0), (25, .iconst 0, 0, 0, 0, 0), (26, .iconst 1, 0, 0, 0, 0), (27, .invokevirtual 106, 0, 161, 2, 1010), (30, .ifCond .eq 5, 0, 0, 0, 0), (33, .iconst 0, 0, 0, 0, 0), (34, .ireturn, 0, 0, 0, 0), (35, .new 7, 0, 1, 0, 950), (38, .dup, 0, 0, 0, 0), (39, .invokespecial 9, 0, 209, 0, 952), (42, .astore_n 3, 0, 0, 0, 0), (43, .iconst 0, 0, 0, 0, 0), (44, .istore 4, 0, 0, 0, 0), (46, .iload 4, 0, 0, 0, 0), (48, .iload_n 2, 0, 0, 0, 0), (49, .if_icmp .ge 27, 0, 0, 0, 0), (52, .aload_n 3, 0, 0, 0, 0), (53, .bipush 20, 0, 0, 0, 0), (55, .iload_n 1, 0, 0, 0, 0), (56, .iload 4, 0, 0, 0, 0), (58, .iadd, 0, 0, 0, 0), (59, .bipush 26, 0, 0, 0, 0), (61, .irem, 0, 0, 0, 0), (62, .iadd, 0, 0, 0, 0), (63, .invokestatic 92, 0, 201, 1, 1018), (66, .invokevirtual 98, 0, 218, 1, 1038), (69, .pop, 0, 0, 0, 0), (70, .iinc 4 1, 0, 0, 0, 0), (73, .goto (-27), 0, 0, 0, 0), (76, .aload_n 0, 0, 0, 0, 0), (77, .aload_n 3, 0, 0, 0, 0), (78, .invokevirtual 109, 0, 167, 1, 1098), (81, .ireturn, 0, 0, 0, 0)]
def mC173 : List (Nat × Instr × Nat × Nat × Nat × Nat) := [(0, .aload_n 0, 0, 0, 0, 0), (1, .iload_n 1, 0, 0, 0, 0), (2, .ifCond .lt 19, 0, 0, 0, 0), (5, .iload_n 2, 0, 0, 0, 0), (6, .ifCond .lt 15, 0, 0, 0, 0), (9, .iload_n 3, 0, 0, 0, 0), (10, .ifCond .lt 11, 0, 0, 0, 0), (13, .iload 4, 0, 0, 0, 0), (15, .invokestatic 102, 0, 168, 1, 1004), (18, .ifCond .eq 7, 0, 0, 0, 0), (21, .iconst 1, 0, 0, 0, 0), (22, .goto 4, 0, 0, 0, 0), (25, .iconst 0, 0, 0, 0, 0), (26, .iconst 1, 0, 0, 0, 0), (27, .invokevirtual 106, 0, 161, 2, 1010), (30, .ifCond .eq 5, 0, 0, 0, 0), (33, .iconst 0, 0, 0, 0, 0), (34, .ireturn, 0, 0, 0, 0), (35, .new 7, 0, 1, 0, 950), (38, .dup, 0, 0, 0, 0), (39, .invokespecial 9, 0, 209, 0, 952), (42, .astore 5, 0, 0, 0, 0), (44, .aload 5, 0, 0, 0, 0), (46, .iload_n 1, 0, 0, 0, 0), (47, .invokestatic 88, 0, 169, 2, 1125), (50, .aload 5, 0, 0, 0, 0), (52, .iload 4, 0, 0, 0, 0), (54, .invokestatic 92, 0, 201, 1, 1018), (57, .invokevirtual 98, 0, 218, 1, 1038), (60, .pop, 0, 0, 0, 0), (61, .aload 5, 0, 0, 0, 0), (63, .iload_n 2, 0, 0, 0, 0), (64, .invokestatic 88, 0, 169, 2, 1125), (67, .aload 5, 0, 0, 0, 0), (69, .iload 4, 0, 0, 0, 0), (71, .invokestatic 92, 0, 201, 1, 1018), (74, .invokevirtual 98, 0, 218, 1, 1038), (77, .pop, 0, 0, 0, 0), (78, .aload 5, 0, 0, 0, 0), (80, .iload_n 3, 0, 0, 0, 0), (81, .invokestatic 88, 0, 169, 2, 1125), (84, .aload_n 0, 0, 0, 0, 0), (85, .aload 5, 0, 0, 0, 0), (87, .invokevirtual 109, 0, 167, 1, 1098), (90, .ireturn, 0, 0, 0, 0)]
def mC174 : List (Nat × Instr × Nat × Nat × Nat × Nat) := [(0, .aload_n 0, 0, 0, 0, 0), (1, .iconst 0, 0, 0, 0, 0), (2, .putfield 27, 0, 13, 0, 976), (5, .aload_n 0, 0, 0, 0, 0), (6, .getfield 10, 0, 13, 1, 977), (9, .invokevirtual 34, 0, 212, 0, 1102), (12, .istore_n 1, 0, 0, 0, 0), (13, .aload_n 0, 0, 0, 0, 0), (14, .getfield 10, 0, 13, 1, 977), (17, .invokevirtual 111, 0, 221, 0, 1140), (20, .iload_n 1, 0, 0, 0, 0), (21, .ireturn, 0, 0, 0, 0)]
def mC175 : List (Nat × Instr × Nat × Nat × Nat × Nat) := [(0, .aload_n 0, 0, 0, 0, 0), (1, .iload_n 1, 0, 0, 0, 0), (2, .iconst 0, 0, 0, 0, 0), (3, .iconst 2, 0, 0, 0, 0), (4, .invokestatic 84, 0, 159, 3, 1007), (7, .ifCond .eq 20, 0, 0, 0, 0), (10, .iload_n 2, 0, 0, 0, 0), (11, .iconst (-1), 0, 0, 0, 0), (12, .iload_n 1, 0, 0, 0, 0), (13, .ifCond .ne 7, 0, 0, 0, 0), (16, .iconst 3, 0, 0, 0, 0), (17, .goto 4, 0, 0, 0, 0), (20, .iconst 1, 0, 0, 0, 0), (21, .invokestatic 84, 0, 159, 3, 1007), (24, .ifCond .ne 7, 0, 0, 0, 0), (27, .iconst 1, 0, 0, 0, 0), (28, .goto 4, 0, 0, 0, 0), (31, .iconst 0, 0, 0, 0, 0), (32, .iconst 1, 0, 0, 0, 0), (33, .invokevirtual 106, 0, 161, 2, 1010), (36, .ifCond .eq 5, 0, 0, 0, 0), (39, .iconst 0, 0, 0, 0, 0), (40, .ireturn, 0, 0, 0, 0), (41, .aload_n 0, 0, 0, 0, 0), (42, .getfield 16, 0, 13, 2, 979), (45, .iload_n 1, 0, 0, 0, 0), (46, .iaload, 0, 0, 0, 0), (47, .istore_n 3, 0, 0, 0, 0), (48, .aload_n 0, 0, 0, 0, 0), (49, .getfield 16, 0, 13, 2, 979), (52, .iload_n 1, 0, 0, 0, 0), (53, .iload_n 2, 0, 0, 0, 0), (54, .iastore, 0, 0, 0, 0), (55, .iload_n 3, 0, 0, 0, 0), (56, .ireturn, 0, 0, 0, 0)]
def mC176 : List (Nat × Instr × Nat × Nat × Nat × Nat) := [(0, .aload_n 0, 0, 0, 0, 0), (1, .iload_n 1, 0, 0, 0, 0), (2, .iconst 1, 0, 0, 0, 0), (3, .bipush 100, 0, 0, 0, 0), (5, .invokestatic 84, 0, 159, 3, 1007), (8, .ifCond .ne 7, 0, 0, 0, 0), (11, .iconst 1, 0, 0, 0, 0), (12, .goto 4, 0, 0, 0, 0), (15, .iconst 0, 0, 0, 0, 0), (16, .iconst 1, 0, 0, 0, 0), (17, .invokevirtual 106, 0, 161, 2, 1010), (20, .ifCond .eq 5, 0, 0, 0, 0), (23, .iconst 0, 0, 0, 0, 0), (24, .ireturn, 0, 0, 0, 0), (25, .aload_n 0, 0, 0, 0, 0), (26, .getfield 23, 0, 13, 4, 983), (29, .istore_n 2, 0, 0, 0, 0), (30, .aload_n 0, 0, 0, 0, 0), (31, .iload_n 1, 0, 0, 0, 0), (32, .putfield 23, 0, 13, 4, 983), (35, .iload_n 2, 0, 0, 0, 0), (36, .ireturn, 0, 0, 0, 0)]
def mC177 : List (Nat × Instr × Nat × Nat × Nat × Nat) := [(0, .aload_n 0, 0, 0, 0, 0), (1, .iload_n 1, 0, 0, 0, 0), (2, .iconst 0, 0, 0, 0, 0), (3, .bipush 19, 0, 0, 0, 0), (5, .invokestatic 84, 0, 159, 3, 1007), (8, .ifCond .ne 7, 0, 0, 0, 0), (11, .iconst 1, 0, 0, 0, 0), (12, .goto 4, 0, 0, 0, 0), (15, .iconst 0, 0, 0, 0, 0), (16, .iconst 1, 0, 0, 0, 0), (17, .invokevirtual 106, 0, 161, 2, 1010), (20, .ifCond .ne 25, 0, 0, 0, 0), (23, .aload_n 0, 0, 0, 0, 0), (24, .iload_n 2, 0, 0, 0, 0), (25, .iconst 0, 0, 0, 0, 0), (26, .iconst 3, 0, 0, 0, 0), (27, .invokestatic 84, 0, 159, 3, 1007), (30, .ifCond .ne 7, 0, 0, 0, 0), (33, .iconst 1, 0, 0, 0, 0), (34, .goto 4, 0, 0, 0, 0), (37, .iconst 0, 0, 0, 0, 0), (38, .iconst 2, 0, 0, 0, 0), (39, .invokevirtual 30, 0, 160, 2, 1014), (42, .ifCond .eq 5, 0, 0, 0, 0), (45, .iconst 0, 0, 0, 0, 0), (46, .ireturn, 0, 0, 0, 0), (47, .aload_n 0, 0, 0, 0, 0), (48, .getfield 20, 0, 13, 3, 981), (51, .iload_n 1, 0, 0, 0, 0), (52, .iaload, 0, 0, 0, 0), (53, .istore_n 3, 0, 0, 0, 0), (54, .aload_n 0, 0, 0, 0, 0), (55, .getfield 20, 0, 13, 3, 981), (58, .iload_n 1, 0, 0, 0, 0), (59, .iload_n 2, 0, 0, 0, 0), (60, .iastore, 0, 0, 0, 0), (61, .iload_n 3, 0, 0, 0, 0), (62, .ireturn, 0, 0, 0, 0)]
def mC178 : List (Nat × Instr × Nat × Nat × Nat × Nat) := [(0, .iload_n 1, 0, 0, 0, 0), (1, .ifCond .ne 10, 0, 0, 0, 0), (4, .aload_n 0, 0, 0, 0, 0), (5, .getfield 114, 0, 12, 0, 1415), (8, .goto 27, 0, 0, 0, 0), (11, .iload_n 1, 0, 0, 0, 0), (12, .iconst 1, 0, 0, 0, 0), (13, .if_icmp .ne 10, 0, 0, 0, 0), (16, .aload_n 0, 0, 0, 0, 0), (17, .getfield 116, 0, 12, 4, 1422), (20, .goto 15, 0, 0, 0, 0), (23, .aload_n 0, 0, 0, 0, 0), (24, .getfield 119, 0, 12, 5, 1424), (27, .ifCond .eq 7, 0, 0, 0, 0), (30, .iconst 1, 0, 0, 0, 0), (31, .goto 4, 0, 0, 0, 0), (34, .iconst 0, 0, 0, 0, 0), (35, .ireturn, 0, 0, 0, 0)]
def mC179 : List (Nat × Instr × Nat × Nat × Nat × Nat) := [(0, .aload_n 0, 0, 0, 0, 0), (1, .iload_n 1, 0, 0, 0, 0), (2, .iconst 0, 0, 0, 0, 0), (3, .iconst 2, 0, 0, 0, 0), (4, .invokestatic 84, 0, 159, 3, 1007), (7, .ifCond .ne 7, 0, 0, 0, 0), (10, .iconst 1, 0, 0, 0, 0), (11, .goto 4, 0, 0, 0, 0), (14, .iconst 0, 0, 0, 0, 0), (15, .iconst 1, 0, 0, 0, 0), (16, .invokevirtual 106, 0, 161, 2, 1010), (19, .ifCond .eq 7, 0, 0, 0, 0), (22, .iconst 0, 0, 0, 0, 0), (23, .goto 11, 0, 0, 0, 0), (26, .aload_n 0, 0, 0, 0, 0), (27, .invokevirtual 123, 0, 166, 0, 1160), (30, .iload_n 1, 0, 0, 0, 0), (31, .invokestatic 127, 0, 178, 2, 1452), (34, .ireturn, 0, 0, 0, 0)]
def mC180 : List (Nat × Instr × Nat × Nat × Nat × Nat) := [(0, .aload_n 0, 0, 0, 0, 0), (1, .iload_n 1, 0, 0, 0, 0), (2, .iconst 0, 0, 0, 0, 0), (3, .iconst 3, 0, 0, 0, 0), (4, .invokestatic 84, 0, 159, 3, 1007), (7, .ifCond .ne 7, 0, 0, 0, 0), (10, .iconst 1, 0, 0, 0, 0), (11, .goto 4, 0, 0, 0, 0), (14, .iconst 0, 0, 0, 0, 0), (15, .iconst 1, 0, 0, 0, 0), (16, .invokevirtual 106, 0, 161, 2, 1010), (19, .ifCond .eq 7, 0, 0, 0, 0), (22, .iconst 0, 0, 0, 0, 0), (23, .goto 8, 0, 0, 0, 0), (26, .aload_n 0, 0, 0, 0, 0), (27, .iload_n 1, 0, 0, 0, 0), (28, .invokevirtual 70, 0, 164, 1, 1170), (31, .ireturn, 0, 0, 0, 0)]
def mC181 : List (Nat × Instr × Nat × Nat × Nat × Nat) := [(0, .bipush 7, 0, 0, 0, 0), (2, .newarray .int, 0, 0, 0, 0), (4, .dup, 0, 0, 0, 0), (5, .iconst 0, 0, 0, 0, 0), (6, .aload_n 0, 0, 0, 0, 0), (7, .getfield 10, 0, 13, 1, 977), (10, .invokevirtual 34, 0, 212, 0, 1102), (13, .iastore, 0, 0, 0, 0), (14, .dup, 0, 0, 0, 0), (15, .iconst 1, 0, 0, 0, 0), (16, .aload_n 1, 0, 0, 0, 0), (17, .getfield 131, 0, 12, 1, 1417), (20, .invokevirtual 34, 0, 212, 0, 1102), (23, .iastore, 0, 0, 0, 0), (24, .dup, 0, 0, 0, 0), (25, .iconst 2, 0, 0, 0, 0), (26, .aload_n 1, 0, 0, 0, 0), (27, .getfield 133, 0, 12, 3, 1420), (30, .iastore, 0, 0, 0, 0), (31, .dup, 0, 0, 0, 0), (32, .iconst 3, 0, 0, 0, 0), (33, .aload_n 1, 0, 0, 0, 0), (34, .getfield 131, 0, 12, 1, 1417), (37, .invokevirtual 34, 0, 212, 0, 1102), (40, .aload_n 1, 0, 0, 0, 0), (41, .invokevirtual 136, 0, 143, 0, 1467), (44, .isub, 0, 0, 0, 0), (45, .iastore, 0, 0, 0, 0), (46, .dup, 0, 0, 0, 0), (47, .iconst 4, 0, 0, 0, 0), (48, .aload_n 1, 0, 0, 0, 0), (49, .getfield 139, 0, 12, 7, 1427), (52, .invokevirtual 34, 0, 212, 0, 1102), (55, .iastore, 0, 0, 0, 0), (56, .dup, 0, 0, 0, 0), (57, .iconst 5, 0, 0, 0, 0), (58, .aload_n 1, 0, 0, 0, 0), (59, .getfield 142, 0, 12, 8, 1429), (62, .invokevirtual 34, 0, 212, 0, 1102), (65, .iastore, 0, 0, 0, 0), (66, .dup, 0, 0, 0, 0), (67, .bipush 6, 0, 0, 0, 0), (69, .aload_n 1, 0, 0, 0, 0), (70, .invokevirtual 145, 0, 156, 0, 1468), (73, .iastore, 0, 0, 0, 0), (74, .astore_n 3, 0, 0, 0, 0), (75, .aload_n 3, 0, 0, 0, 0), (76, .iload_n 2, 0, 0, 0, 0), (77, .iaload, 0, 0, 0, 0), (78, .ireturn, 0, 0, 0, 0)]
def mC182 : List (Nat × Instr × Nat × Nat × Nat × Nat) := [(0, .aload_n 0, 0, 0, 0, 0), (1, .iload_n 1, 0, 0, 0, 0), (2, .iconst 0, 0, 0, 0, 0), (3, .bipush 6, 0, 0, 0, 0), (5, .invokestatic 84, 0, 159, 3, 1007), (8, .ifCond .ne 7, 0, 0, 0, 0), (11, .iconst 1, 0, 0, 0, 0), (12, .goto 4, 0, 0, 0, 0), (15, .iconst 0, 0, 0, 0, 0), (16, .iconst 1, 0, 0, 0, 0), (17, .invokevirtual 106, 0, 161, 2, 1010), (20, .ifCond .eq 7, 0, 0, 0, 0), (23, .iconst 0, 0, 0, 0, 0), (24, .goto 12, 0, 0, 0, 0), (27, .aload_n 0, 0, 0, 0, 0), (28, .aload_n 0, 0, 0, 0, 0), (29, .invokevirtual 123, 0, 166, 0, 1160), (32, .iload_n 1, 0, 0, 0, 0), (33, .invokevirtual 148, 0, 181, 2, 1463), (36, .ireturn, 0, 0, 0, 0)]
def mC183 : List (Nat × Instr × Nat × Nat × Nat × Nat) := [(0, .aload_n 0, 0, 0, 0, 0), (1, .invokevirtual 123, 0, 166, 0, 1160), (4, .astore_n 2, 0, 0, 0, 0), (5, .aload_n 0, 0, 0, 0, 0), (6, .iload_n 1, 0, 0, 0, 0), (7, .iconst 0, 0, 0, 0, 0), (8, .aload_n 2, 0, 0, 0, 0), (9, .getfield 131, 0, 12, 1, 1417), (12, .invokevirtual 34, 0, 212, 0, 1102), (15, .iconst 1, 0, 0, 0, 0), (16, .isub, 0, 0, 0, 0), (17, .invokestatic 84, 0, 159, 3, 1007), (20, .ifCond .ne 7, 0, 0, 0, 0), (23, .iconst 1, 0, 0, 0, 0), (24, .goto 4, 0, 0, 0, 0), (27, .iconst 0, 0, 0, 0, 0), (28, .iconst 1, 0, 0, 0, 0), (29, .invokevirtual 106, 0, 161, 2, 1010), (32, .ifCond .eq 7, 0, 0, 0, 0), (35, .iconst 0, 0, 0, 0, 0), (36, .goto 17, 0, 0, 0, 0), (39, .aload_n 2, 0, 0, 0, 0), (40, .getfield 131, 0, 12, 1, 1417), (43, .iload_n 1, 0, 0, 0, 0), (44, .invokevirtual 38, 0, 216, 1, 1309), (47, .checkcast 42, 0, 0, 0, 0), (50, .getfield 44, 0, 11, 1, 1213), (53, .ireturn, 0, 0, 0, 0)]
def mC184 : List (Nat × Instr × Nat × Nat × Nat × Nat) := [(0, .iconst 5, 0, 0, 0, 0), (1, .newarray .int, 0, 0, 0, 0), (3, .dup, 0, 0, 0, 0), (4, .iconst 0, 0, 0, 0, 0), (5, .aload_n 0, 0, 0, 0, 0), (6, .iload_n 2, 0, 0, 0, 0), (7, .invokevirtual 151, 0, 126, 1, 1488), (10, .iastore, 0, 0, 0, 0), (11, .dup, 0, 0, 0, 0), (12, .iconst 1, 0, 0, 0, 0), (13, .aload_n 0, 0, 0, 0, 0), (14, .iload_n 2, 0, 0, 0, 0), (15, .invokevirtual 156, 0, 127, 1, 1489), (18, .iastore, 0, 0, 0, 0), (19, .dup, 0, 0, 0, 0), (20, .iconst 2, 0, 0, 0, 0), (21, .aload_n 0, 0, 0, 0, 0), (22, .getfield 159, 0, 9, 0, 1260), (25, .arraylength, 0, 0, 0, 0), (26, .iastore, 0, 0, 0, 0), (27, .dup, 0, 0, 0, 0), (28, .iconst 3, 0, 0, 0, 0), (29, .aload_n 0, 0, 0, 0, 0), (30, .getfield 162, 0, 9, 2, 1267), (33, .iastore, 0, 0, 0, 0), (34, .dup, 0, 0, 0, 0), (35, .iconst 4, 0, 0, 0, 0), (36, .aload_n 0, 0, 0, 0, 0), (37, .getfield 165, 0, 9, 1, 1264), (40, .ifCond .eq 7, 0, 0, 0, 0), (43, .iconst 1, 0, 0, 0, 0), (44, .goto 4, 0, 0, 0, 0), (47, .iconst 0, 0, 0, 0, 0), (48, .iastore, 0, 0, 0, 0), (49, .astore_n 3, 0, 0, 0, 0), (50, .aload_n 3, 0, 0, 0, 0), (51, .iload_n 1, 0, 0, 0, 0), (52, .iaload, 0, 0, 0, 0), (53, .ireturn, 0, 0, 0, 0)]
def mC185 : List (Nat × Instr × Nat × Nat × Nat × Nat) := [(0, .aload_n 0, 0, 0, 0, 0), (1, .iload_n 2, 0, 0, 0, 0), (2, .iconst 0, 0, 0, 0, 0), (3, .aload_n 1, 0, 0, 0, 0), (4, .getfield 131, 0, 12, 1, 1417), (7, .invokevirtual 34, 0, 212, 0, 1102), (10, .iconst 1, 0, 0, 0, 0), (11, .isub, 0, 0, 0, 0), (12, .invokestatic 84, 0, 159, 3, 1007), (15, .ifCond .eq 30, 0, 0, 0, 0), (18, .iload_n 3, 0, 0, 0, 0), (19, .iconst 0, 0, 0, 0, 0), (20, .aload_n 1, 0, 0, 0, 0), (21, .getfield 131, 0, 12, 1, 1417), (24, .iload_n 2, 0, 0, 0, 0), (25, .invokevirtual 38, 0, 216, 1, 1309), (28, .checkcast 42, 0, 0, 0, 0), (31, .getfield 168, 0, 11, 0, 1211), (34, .invokevirtual 34, 0, 212, 0, 1102), (37, .iconst 1, 0, 0, 0, 0), (38, .isub, 0, 0, 0, 0), (39, .invokestatic 84, 0, 159, 3, 1007), (42, .ifCond .ne 7, 0, 0, 0, 0), (45, .iconst 1, 0, 0, 0, 0), (46, .goto 4, 0, 0, 0, 0), (49, .iconst 0, 0, 0, 0, 0), (50, .iconst 1, 0, 0, 0, 0), (51, .invokevirtual 106, 0, 161, 2, 1010), (54, .ireturn, 0, 0, 0, 0)]
def mC186 : List (Nat × Instr × Nat × Nat × Nat × Nat) := [(0, .aload_n 0, 0, 0, 0, 0), (1, .invokevirtual 123, 0, 166, 0, 1160), (4, .astore 4, 0, 0, 0, 0), (6, .aload_n 0, 0, 0, 0, 0), (7, .aload 4, 0, 0, 0, 0), (9, .iload_n 1, 0, 0, 0, 0), (10, .iload_n 2, 0, 0, 0, 0), (11, .invokevirtual 171, 0, 185, 3, 1480), (14, .ifCond .ne 25, 0, 0, 0, 0), (17, .aload_n 0, 0, 0, 0, 0), (18, .iload_n 3, 0, 0, 0, 0), (19, .iconst 0, 0, 0, 0, 0), (20, .iconst 4, 0, 0, 0, 0), (21, .invokestatic 84, 0, 159, 3, 1007), (24, .ifCond .ne 7, 0, 0, 0, 0), (27, .iconst 1, 0, 0, 0, 0), (28, .goto 4, 0, 0, 0, 0), (31, .iconst 0, 0, 0, 0, 0), (32, .iconst 2, 0, 0, 0, 0), (33, .invokevirtual 30, 0, 160, 2, 1014), (36, .ifCond .eq 7, 0, 0, 0, 0), (39, .iconst 0, 0, 0, 0, 0), (40, .goto 34, 0, 0, 0, 0), (43, .aload 4, 0, 0, 0, 0), (45, .getfield 131, 0, 12, 1, 1417), (48, .iload_n 1, 0, 0, 0, 0), (49, .invokevirtual 38, 0, 216, 1, 1309), (52, .checkcast 42, 0, 0, 0, 0), (55, .getfield 168, 0, 11, 0, 1211), (58, .iload_n 2, 0, 0, 0, 0), (59, .invokevirtual 38, 0, 216, 1, 1309), (62, .checkcast 152, 0, 0, 0, 0), (65, .iload_n 3, 0, 0, 0, 0), (66, .aload 4, 0, 0, 0, 0), (68, .getfield 116, 0, 12, 4, 1422), (71, .invokestatic 175, 0, 184, 3, 1485), (74, .ireturn, 0, 0, 0, 0)]
def mC187 : List (Nat × Instr × Nat × Nat × Nat × Nat) := [(0, .aload_n 0, 0, 0, 0, 0), (1, .invokevirtual 123, 0, 166, 0, 1160), (4, .astore 4, 0, 0, 0, 0), (6, .aload_n 0, 0, 0, 0, 0), (7, .aload 4, 0, 0, 0, 0), (9, .iload_n 1, 0, 0, 0, 0), (10, .iload_n 2, 0, 0, 0, 0), (11, .invokevirtual 171, 0, 185, 3, 1480), (14, .ifCond .eq 5, 0, 0, 0, 0), (17, .iconst 0, 0, 0, 0, 0), (18, .ireturn, 0, 0, 0, 0), (19, .aload 4, 0, 0, 0, 0), (21, .getfield 131, 0, 12, 1, 1417), (24, .iload_n 1, 0, 0, 0, 0), (25, .invokevirtual 38, 0, 216, 1, 1309), (28, .checkcast 42, 0, 0, 0, 0), (31, .getfield 168, 0, 11, 0, 1211), (34, .iload_n 2, 0, 0, 0, 0), (35, .invokevirtual 38, 0, 216, 1, 1309), (38, .checkcast 152, 0, 0, 0, 0), (41, .getfield 159, 0, 9, 0, 1260), (44, .astore 5, 0, 0, 0, 0), (46, .iload_n 3, 0, 0, 0, 0), (47, .iconst 0, 0, 0, 0, 0), (48, .aload 5, 0, 0, 0, 0), (50, .arraylength, 0, 0, 0, 0), (51, .iconst 1, 0, 0, 0, 0), (52, .isub, 0, 0, 0, 0), (53, .invokestatic 84, 0, 159, 3, 1007), (56, .ifCond .eq 10, 0, 0, 0, 0), (59, .aload 5, 0, 0, 0, 0), (61, .iload_n 3, 0, 0, 0, 0), (62, .iaload, 0, 0, 0, 0), (63, .goto 4, 0, 0, 0, 0), (66, .iconst (-1), 0, 0, 0, 0), (67, .ireturn, 0, 0, 0, 0)]
def mC188 : List (Nat × Instr × Nat × Nat × Nat × Nat) := [(0, .aload_n 0, 0, 0, 0, 0), (1, .iload_n 2, 0, 0, 0, 0), (2, .iconst 0, 0, 0, 0, 0), (3, .aload_n 1, 0, 0, 0, 0), (4, .getfield 133, 0, 12, 3, 1420), (7, .iconst 1, 0, 0, 0, 0), (8, .isub, 0, 0, 0, 0), (9, .invokestatic 84, 0, 159, 3, 1007), (12, .ifCond .ne 7, 0, 0, 0, 0), (15, .iconst 1, 0, 0, 0, 0), (16, .goto 4, 0, 0, 0, 0), (19, .iconst 0, 0, 0, 0, 0), (20, .iconst 1, 0, 0, 0, 0), (21, .invokevirtual 106, 0, 161, 2, 1010), (24, .ireturn, 0, 0, 0, 0)]
def mC189 : List (Nat × Instr × Nat × Nat × Nat × Nat) := [(0, .aload_n 0, 0, 0, 0, 0), (1, .invokevirtual 123, 0, 166, 0, 1160), (4, .astore_n 3, 0, 0, 0, 0), (5, .aload_n 0, 0, 0, 0, 0), (6, .aload_n 3, 0, 0, 0, 0), (7, .iload_n 1, 0, 0, 0, 0), (8, .invokevirtual 178, 0, 188, 2, 1504), (11, .ifCond .ne 25, 0, 0, 0, 0), (14, .aload_n 0, 0, 0, 0, 0), (15, .iload_n 2, 0, 0, 0, 0), (16, .iconst 0, 0, 0, 0, 0), (17, .iconst 4, 0, 0, 0, 0), (18, .invokestatic 84, 0, 159, 3, 1007), (21, .ifCond .ne 7, 0, 0, 0, 0), (24, .iconst 1, 0, 0, 0, 0), (25, .goto 4, 0, 0, 0, 0), (28, .iconst 0, 0, 0, 0, 0), (29, .iconst 2, 0, 0, 0, 0), (30, .invokevirtual 30, 0, 160, 2, 1014), (33, .ifCond .eq 7, 0, 0, 0, 0), (36, .iconst 0, 0, 0, 0, 0), (37, .goto 9, 0, 0, 0, 0), (40, .aload_n 3, 0, 0, 0, 0), (41, .iload_n 1, 0, 0, 0, 0), (42, .iload_n 2, 0, 0, 0, 0), (43, .invokevirtual 182, 0, 155, 2, 1508), (46, .ireturn, 0, 0, 0, 0)]
def mC190 : List (Nat × Instr × Nat × Nat × Nat × Nat) := [(0, .aload_n 0, 0, 0, 0, 0), (1, .invokevirtual 123, 0, 166, 0, 1160), (4, .astore_n 3, 0, 0, 0, 0), (5, .aload_n 0, 0, 0, 0, 0), (6, .aload_n 3, 0, 0, 0, 0), (7, .iload_n 1, 0, 0, 0, 0), (8, .invokevirtual 178, 0, 188, 2, 1504), (11, .ifCond .ne 25, 0, 0, 0, 0), (14, .aload_n 0, 0, 0, 0, 0), (15, .iload_n 2, 0, 0, 0, 0), (16, .iconst 0, 0, 0, 0, 0), (17, .iconst 1, 0, 0, 0, 0), (18, .invokestatic 84, 0, 159, 3, 1007), (21, .ifCond .ne 7, 0, 0, 0, 0), (24, .iconst 1, 0, 0, 0, 0), (25, .goto 4, 0, 0, 0, 0), (28, .iconst 0, 0, 0, 0, 0), (29, .iconst 2, 0, 0, 0, 0), (30, .invokevirtual 30, 0, 160, 2, 1014), (33, .ifCond .eq 7, 0, 0, 0, 0), (36, .iconst 0, 0, 0, 0, 0), (37, .goto 9, 0, 0, 0, 0), (40, .aload_n 3, 0, 0, 0, 0), (41, .iload_n 1, 0, 0, 0, 0), (42, .iload_n 2, 0, 0, 0, 0), (43, .invokevirtual 185, 0, 154, 2, 1517), (46, .ireturn, 0, 0, 0, 0)]
def mC191 : List (Nat × Instr × Nat × Nat × Nat × Nat) := [(0, .aload_n 0, 0, 0, 0, 0), (1, .invokevirtual 123, 0, 166, 0, 1160), (4, .astore_n 2, 0, 0, 0, 0), (5, .aload_n 0, 0, 0, 0, 0), (6, .aload_n 2, 0, 0, 0, 0), (7, .iload_n 1, 0, 0, 0, 0), (8, .invokevirtual 178, 0, 188, 2, 1504), (11, .ifCond .eq 7, 0, 0, 0, 0), (14, .lconst 0, 0, 0, 0, 0), (15, .goto 8, 0, 0, 0, 0), (18, .aload_n 2, 0, 0, 0, 0), (19, .iload_n 1, 0, 0, 0, 0), (20, .invokevirtual 188, 0, 153, 1, 1539), (23, .lreturn, 0, 0, 0, 0)]
def mC192 : List (Nat × Instr × Nat × Nat × Nat × Nat) := [(0, .aload_n 0, 0, 0, 0, 0), (1, .invokevirtual 123, 0, 166, 0, 1160), (4, .astore_n 2, 0, 0, 0, 0), (5, .aload_n 0, 0, 0, 0, 0), (6, .aload_n 2, 0, 0, 0, 0), (7, .iload_n 1, 0, 0, 0, 0), (8, .invokevirtual 178, 0, 188, 2, 1504), (11, .ifCond .ne 11, 0, 0, 0, 0), (14, .aload_n 2, 0, 0, 0, 0), (15, .iload_n 1, 0, 0, 0, 0), (16, .invokevirtual 192, 0, 152, 1, 1547), (19, .ifCond .ne 7, 0, 0, 0, 0), (22, .dconst 0, 0, 0, 0, 0), (23, .goto 16, 0, 0, 0, 0), (26, .aload_n 2, 0, 0, 0, 0), (27, .iload_n 1, 0, 0, 0, 0), (28, .invokevirtual 188, 0, 153, 1, 1539), (31, .l2d, 0, 0, 0, 0), (32, .aload_n 2, 0, 0, 0, 0), (33, .iload_n 1, 0, 0, 0, 0), (34, .invokevirtual 192, 0, 152, 1, 1547), (37, .i2d, 0, 0, 0, 0), (38, .ddiv, 0, 0, 0, 0), (39, .dreturn, 0, 0, 0, 0)]
def mC193 : List (Nat × Instr × Nat × Nat × Nat × Nat) := [(0, .aload_n 0, 0, 0, 0, 0), (1, .invokevirtual 123, 0, 166, 0, 1160), (4, .astore_n 3, 0, 0, 0, 0), (5, .aload_n 0, 0, 0, 0, 0), (6, .iload_n 1, 0, 0, 0, 0), (7, .iconst 0, 0, 0, 0, 0), (8, .aload_n 3, 0, 0, 0, 0), (9, .getfield 139, 0, 12, 7, 1427), (12, .invokevirtual 34, 0, 212, 0, 1102), (15, .iconst 1, 0, 0, 0, 0), (16, .isub, 0, 0, 0, 0), (17, .invokestatic 84, 0, 159, 3, 1007), (20, .ifCond .ne 7, 0, 0, 0, 0), (23, .iconst 1, 0, 0, 0, 0), (24, .goto 4, 0, 0, 0, 0), (27, .iconst 0, 0, 0, 0, 0), (28, .iconst 1, 0, 0, 0, 0), (29, .invokevirtual 106, 0, 161, 2, 1010), (32, .ifCond .ne 25, 0, 0, 0, 0), (35, .aload_n 0, 0, 0, 0, 0), (36, .iload_n 2, 0, 0, 0, 0), (37, .iconst 0, 0, 0, 0, 0), (38, .iconst 2, 0, 0, 0, 0), (39, .invokestatic 84, 0, 159, 3, 1007), (42, .ifCond .ne 7, 0, 0, 0, 0), (45, .iconst 1, 0, 0, 0, 0), (46, .goto 4, 0, 0, 0, 0), (49, .iconst 0, 0, 0, 0, 0), (50, .iconst 2, 0, 0, 0, 0), (51, .invokevirtual 30, 0, 160, 2, 1014), (54, .ifCond .eq 7, 0, 0, 0, 0), (57, .iconst 0, 0, 0, 0, 0), (58, .goto 16, 0, 0, 0, 0), (61, .aload_n 3, 0, 0, 0, 0), (62, .getfield 139, 0, 12, 7, 1427), (65, .iload_n 1, 0, 0, 0, 0), (66, .invokevirtual 38, 0, 216, 1, 1309), (69, .checkcast 195, 0, 0, 0, 0), (72, .iload_n 2, 0, 0, 0, 0), (73, .iaload, 0, 0, 0, 0), (74, .ireturn, 0, 0, 0, 0)]
def mC194 : List (Nat × Instr × Nat × Nat × Nat × Nat) := [(0, .aload_n 0, 0, 0, 0, 0), (1, .invokevirtual 123, 0, 166, 0, 1160), (4, .astore_n 2, 0, 0, 0, 0), (5, .aload_n 0, 0, 0, 0, 0), (6, .iload_n 1, 0, 0, 0, 0), (7, .iconst 0, 0, 0, 0, 0), (8, .aload_n 2, 0, 0, 0, 0), (9, .getfield 142, 0, 12, 8, 1429), (12, .invokevirtual 34, 0, 212, 0, 1102), (15, .iconst 1, 0, 0, 0, 0), (16, .isub, 0, 0, 0, 0), (17, .invokestatic 84, 0, 159, 3, 1007), (20, .ifCond .ne 7, 0, 0, 0, 0), (23, .iconst 1, 0, 0, 0, 0), (24, .goto 4, 0, 0, 0, 0), (27, .iconst 0, 0, 0, 0, 0), (28, .iconst 1, 0, 0, 0, 0), (29, .invokevirtual 106, 0, 161, 2, 1010), (32, .ifCond .eq 7, 0, 0, 0, 0), (35, .iconst 0, 0, 0, 0, 0), (36, .goto 17, 0, 0, 0, 0), (39, .aload_n 2, 0, 0, 0, 0), (40, .getfield 142, 0, 12, 8, 1429), (43, .iload_n 1, 0, 0, 0, 0), (44, .invokevirtual 38, 0, 216, 1, 1309), (47, .checkcast 93, 0, 0, 0, 0), (50, .invokevirtual 196, 0, 203, 0, 1561), (53, .ireturn, 0, 0, 0, 0)]
def mC195 : List (Nat × Instr × Nat × Nat × Nat × Nat) := [(0, .aload_n 0, 0, 0, 0, 0), (1, .invokevirtual 123, 0, 166, 0, 1160), (4, .astore_n 3, 0, 0, 0, 0), (5, .aload_n 0, 0, 0, 0, 0), (6, .iload_n 1, 0, 0, 0, 0), (7, .iconst 0, 0, 0, 0, 0), (8, .aload_n 3, 0, 0, 0, 0), (9, .getfield 142, 0, 12, 8, 1429), (12, .invokevirtual 34, 0, 212, 0, 1102), (15, .iconst 1, 0, 0, 0, 0), (16, .isub, 0, 0, 0, 0), (17, .invokestatic 84, 0, 159, 3, 1007), (20, .ifCond .eq 17, 0, 0, 0, 0), (23, .iload_n 2, 0, 0, 0, 0), (24, .iconst 0, 0, 0, 0, 0), (25, .aload_n 3, 0, 0, 0, 0), (26, .getfield 133, 0, 12, 3, 1420), (29, .iconst 1, 0, 0, 0, 0), (30, .isub, 0, 0, 0, 0), (31, .invokestatic 84, 0, 159, 3, 1007), (34, .ifCond .ne 7, 0, 0, 0, 0), (37, .iconst 1, 0, 0, 0, 0), (38, .goto 4, 0, 0, 0, 0), (41, .iconst 0, 0, 0, 0, 0), (42, .iconst 1, 0, 0, 0, 0), (43, .invokevirtual 106, 0, 161, 2, 1010), (46, .ifCond .eq 7, 0, 0, 0, 0), (49, .iconst 0, 0, 0, 0, 0), (50, .goto 9, 0, 0, 0, 0), (53, .aload_n 3, 0, 0, 0, 0), (54, .iload_n 1, 0, 0, 0, 0), (55, .iload_n 2, 0, 0, 0, 0), (56, .invokevirtual 199, 0, 151, 2, 1566), (59, .ireturn, 0, 0, 0, 0)]
def mC196 : List (Nat × Instr × Nat × Nat × Nat × Nat) := [(0, .aload_n 0, 0, 0, 0, 0), (1, .invokevirtual 123, 0, 166, 0, 1160), (4, .astore_n 3, 0, 0, 0, 0), (5, .aload_n 0, 0, 0, 0, 0), (6, .aload_n 3, 0, 0, 0, 0), (7, .iload_n 1, 0, 0, 0, 0), (8, .invokevirtual 178, 0, 188, 2, 1504), (11, .ifCond .eq 5, 0, 0, 0, 0), (14, .iconst 0, 0, 0, 0, 0), (15, .ireturn, 0, 0, 0, 0), (16, .iconst 0, 0, 0, 0, 0), (17, .istore 4, 0, 0, 0, 0), (19, .iload 4, 0, 0, 0, 0), (21, .aload_n 3, 0, 0, 0, 0), (22, .getfield 142, 0, 12, 8, 1429), (25, .invokevirtual 34, 0, 212, 0, 1102), (28, .if_icmp .ge 37, 0, 0, 0, 0), (31, .aload_n 3, 0, 0, 0, 0), (32, .iload 4, 0, 0, 0, 0), (34, .iload_n 1, 0, 0, 0, 0), (35, .invokevirtual 201, 0, 150, 2, 1571), (38, .getfield 159, 0, 9, 0, 1260), (41, .arraylength, 0, 0, 0, 0), (42, .ifCond .le 17, 0, 0, 0, 0), (45, .aload_n 3, 0, 0, 0, 0), (46, .iload 4, 0, 0, 0, 0), (48, .iload_n 1, 0, 0, 0, 0), (49, .invokevirtual 199, 0, 151, 2, 1566), (52, .iload_n 2, 0, 0, 0, 0), (53, .if_icmp .ne 6, 0, 0, 0, 0), (56, .iload 4, 0, 0, 0, 0), (58, .ireturn, 0, 0, 0, 0), (59, .iinc 4 1, 0, 0, 0, 0), (62, .goto (-43), 0, 0, 0, 0), (65, .iconst (-1), 0, 0, 0, 0), (66, .ireturn, 0, 0, 0, 0)]
def mC197 : List (Nat × Instr × Nat × Nat × Nat × Nat) := [(0, .aload_n 0, 0, 0, 0, 0), (1, .iload_n 1, 0, 0, 0, 0), (2, .iconst 0, 0, 0, 0, 0), (3, .iconst 3, 0, 0, 0, 0), (4, .invokestatic 84, 0, 159, 3, 1007), (7, .ifCond .ne 7, 0, 0, 0, 0), (10, .iconst 1, 0, 0, 0, 0), (11, .goto 4, 0, 0, 0, 0), (14, .iconst 0, 0, 0, 0, 0), (15, .iconst 1, 0, 0, 0, 0), (16, .invokevirtual 106, 0, 161, 2, 1010), (19, .ifCond .eq 7, 0, 0, 0, 0), (22, .iconst 0, 0, 0, 0, 0), (23, .goto 18, 0, 0, 0, 0), (26, .new 74, 0, 12, 0, 1164), (29, .dup, 0, 0, 0, 0), (30, .aload_n 0, 0, 0, 0, 0), (31, .iload_n 1, 0, 0, 0, 0), (32, .invokespecial 79, 0, 142, 2, 1315), (35, .getfield 142, 0, 12, 8, 1429), (38, .invokevirtual 34, 0, 212, 0, 1102), (41, .ireturn, 0, 0, 0, 0)]
def mC198 : List (Nat × Instr × Nat × Nat × Nat × Nat) := [(0, .aload_n 0, 0, 0, 0, 0), (1, .invokevirtual 123, 0, 166, 0, 1160), (4, .astore_n 3, 0, 0, 0, 0), (5, .aload_n 0, 0, 0, 0, 0), (6, .aload_n 3, 0, 0, 0, 0), (7, .iload_n 1, 0, 0, 0, 0), (8, .invokevirtual 178, 0, 188, 2, 1504), (11, .ifCond .ne 26, 0, 0, 0, 0), (14, .aload_n 0, 0, 0, 0, 0), (15, .iload_n 2, 0, 0, 0, 0), (16, .iconst 1, 0, 0, 0, 0), (17, .bipush 100, 0, 0, 0, 0), (19, .invokestatic 84, 0, 159, 3, 1007), (22, .ifCond .ne 7, 0, 0, 0, 0), (25, .iconst 1, 0, 0, 0, 0), (26, .goto 4, 0, 0, 0, 0), (29, .iconst 0, 0, 0, 0, 0), (30, .iconst 2, 0, 0, 0, 0), (31, .invokevirtual 30, 0, 160, 2, 1014), (34, .ifCond .eq 7, 0, 0, 0, 0), (37, .iconst 0, 0, 0, 0, 0), (38, .goto 17, 0, 0, 0, 0), (41, .aload_n 3, 0, 0, 0, 0), (42, .aload_n 3, 0, 0, 0, 0), (43, .iload_n 1, 0, 0, 0, 0), (44, .aload_n 3, 0, 0, 0, 0), (45, .invokevirtual 136, 0, 143, 0, 1467), (48, .invokevirtual 205, 0, 145, 2, 1580), (51, .iload_n 2, 0, 0, 0, 0), (52, .invokevirtual 208, 0, 146, 2, 1581), (55, .ireturn, 0, 0, 0, 0)]
def mC199 : List (Nat × Instr × Nat × Nat × Nat × Nat) := [(0, .lload_n 0, 0, 0, 0, 0), (1, .ldc2_w 211, 0, 31, 0, 1590), (4, .lmul, 0, 0, 0, 0), (5, .lload_n 2, 0, 0, 0, 0), (6, .ladd, 0, 0, 0, 0), (7, .lreturn, 0, 0, 0, 0)]
def mC200 : List (Nat × Instr × Nat × Nat × Nat × Nat) := [(0, .aload_n 0, 0, 0, 0, 0), (1, .iconst 0, 0, 0, 0, 0), (2, .putfield 27, 0, 13, 0, 976), (5, .aload_n 0, 0, 0, 0, 0), (6, .invokevirtual 123, 0, 166, 0, 1160), (9, .astore_n 1, 0, 0, 0, 0), (10, .ldc2_w 213, 0, 58075, 0, 1586), (13, .lstore_n 2, 0, 0, 0, 0), (14, .iconst 0, 0, 0, 0, 0), (15, .istore 4, 0, 0, 0, 0), (17, .iload 4, 0, 0, 0, 0), (19, .iconst 3, 0, 0, 0, 0), (20, .if_icmp .ge 21, 0, 0, 0, 0), (23, .lload_n 2, 0, 0, 0, 0), (24, .aload_n 1, 0, 0, 0, 0), (25, .iload 4, 0, 0, 0, 0), (27, .invokestatic 127, 0, 178, 2, 1452), (30, .i2l, 0, 0, 0, 0), (31, .invokestatic 215, 0, 199, 2, 1587), (34, .lstore_n 2, 0, 0, 0, 0), (35, .iinc 4 1, 0, 0, 0, 0), (38, .goto (-21), 0, 0, 0, 0), (41, .iconst 0, 0, 0, 0, 0), (42, .istore 4, 0, 0, 0, 0), (44, .iload 4, 0, 0, 0, 0), (46, .iconst 4, 0, 0, 0, 0), (47, .if_icmp .ge 21, 0, 0, 0, 0), (50, .lload_n 2, 0, 0, 0, 0), (51, .aload_n 0, 0, 0, 0, 0), (52, .iload 4, 0, 0, 0, 0), (54, .invokevirtual 70, 0, 164, 1, 1170), (57, .i2l, 0, 0, 0, 0), (58, .invokestatic 215, 0, 199, 2, 1587), (61, .lstore_n 2, 0, 0, 0, 0), (62, .iinc 4 1, 0, 0, 0, 0), (65, .goto (-21), 0, 0, 0, 0), (68, .iconst 0, 0, 0, 0, 0), (69, .istore 4, 0, 0, 0, 0), (71, .iload 4, 0, 0, 0, 0), (73, .bipush 7, 0, 0, 0, 0), (75, .if_icmp .ge 22, 0, 0, 0, 0), (78, .lload_n 2, 0, 0, 0, 0), (79, .aload_n 0, 0, 0, 0, 0), (80, .aload_n 1, 0, 0, 0, 0), (81, .iload 4, 0, 0, 0, 0), (83, .invokevirtual 148, 0, 181, 2, 1463), (86, .i2l, 0, 0, 0, 0), (87, .invokestatic 215, 0, 199, 2, 1587), (90, .lstore_n 2, 0, 0, 0, 0), (91, .iinc 4 1, 0, 0, 0, 0), (94, .goto (-23), 0, 0, 0, 0), (97, .iconst 0, 0, 0, 0, 0), (98, .istore 4, 0, 0, 0, 0), (100, .iload 4, 0, 0, 0, 0), (102, .aload_n 1, 0, 0, 0, 0), (103, .getfield 131, 0, 12, 1, 1417), (106, .invokevirtual 34, 0, 212, 0, 1102), (109, .if_icmp .ge 115, 0, 0, 0, 0), (112, .lload_n 2, 0, 0, 0, 0), (113, .aload_n 1, 0, 0, 0, 0), (114, .getfield 131, 0, 12, 1, 1417), (117, .iload 4, 0, 0, 0, 0), (119, .invokevirtual 38, 0, 216, 1, 1309), (122, .checkcast 42, 0, 0, 0, 0), (125, .getfield 44, 0, 11, 1, 1213), (128, .i2l, 0, 0, 0, 0), (129, .invokestatic 215, 0, 199, 2, 1587), (132, .lstore_n 2, 0, 0, 0, 0), (133, .iconst 0, 0, 0, 0, 0), (134, .istore 5, 0, 0, 0, 0), (136, .iload 5, 0, 0, 0, 0), (138, .aload_n 1, 0, 0, 0, 0), (139, .getfield 131, 0, 12, 1, 1417), (142, .iload 4, 0, 0, 0, 0), (144, .invokevirtual 38, 0, 216, 1, 1309), (147, .checkcast 42, 0, 0, 0, 0), (150, .getfield 168, 0, 11, 0, 1211), (153, .invokevirtual 34, 0, 212, 0, 1102), (156, .if_icmp .ge 62, 0, 0, 0, 0), (159, .iconst 0, 0, 0, 0, 0), (160, .istore 6, 0, 0, 0, 0), (162, .iload 6, 0, 0, 0, 0), (164, .iconst 5, 0, 0, 0, 0), (165, .if_icmp .ge 47, 0, 0, 0, 0), (168, .lload_n 2, 0, 0, 0, 0), (169, .aload_n 1, 0, 0, 0, 0), (170, .getfield 131, 0, 12, 1, 1417), (173, .iload 4, 0, 0, 0, 0), (175, .invokevirtual 38, 0, 216, 1, 1309), (178, .checkcast 42, 0, 0, 0, 0), (181, .getfield 168, 0, 11, 0, 1211), (184, .iload 5, 0, 0, 0, 0), (186, .invokevirtual 38, 0, 216, 1, 1309), (189, .checkcast 152, 0, 0, 0, 0), (192, .iload 6, 0, 0, 0, 0), (194, .aload_n 1, 0, 0, 0, 0), (195, .getfield 116, 0, 12, 4, 1422), (198, .invokestatic 175, 0, 184, 3, 1485), (201, .i2l, 0, 0, 0, 0), (202, .invokestatic 215, 0, 199, 2, 1587), (205, .lstore_n 2, 0, 0, 0, 0), (206, .iinc 6 1, 0, 0, 0, 0), (209, .goto (-47), 0, 0, 0, 0), (212, .iinc 5 1, 0, 0, 0, 0), (215, .goto (-79), 0, 0, 0, 0), (218, .iinc 4 1, 0, 0, 0, 0), (221, .goto (-121), 0, 0, 0, 0), (224, .iconst 0, 0, 0, 0, 0), (225, .istore 4, 0, 0, 0, 0), (227, .iload 4, 0, 0, 0, 0), (229, .aload_n 1, 0, 0, 0, 0), (230, .getfield 133, 0, 12, 3, 1420), (233, .if_icmp .ge 71, 0, 0, 0, 0), (236, .iconst 0, 0, 0, 0, 0), (237, .istore 5, 0, 0, 0, 0), (239, .iload 5, 0, 0, 0, 0), (241, .iconst 5, 0, 0, 0, 0), (242, .if_icmp .ge 23, 0, 0, 0, 0), (245, .lload_n 2, 0, 0, 0, 0), (246, .aload_n 1, 0, 0, 0, 0), (247, .iload 4, 0, 0, 0, 0), (249, .iload 5, 0, 0, 0, 0), (251, .invokevirtual 182, 0, 155, 2, 1508), (254, .i2l, 0, 0, 0, 0), (255, .invokestatic 215, 0, 199, 2, 1587), (258, .lstore_n 2, 0, 0, 0, 0), (259, .iinc 5 1, 0, 0, 0, 0), (262, .goto (-23), 0, 0, 0, 0), (265, .lload_n 2, 0, 0, 0, 0), (266, .aload_n 1, 0, 0, 0, 0), (267, .iload 4, 0, 0, 0, 0), (269, .iconst 0, 0, 0, 0, 0), (270, .invokevirtual 185, 0, 154, 2, 1517), (273, .i2l, 0, 0, 0, 0), (274, .invokestatic 215, 0, 199, 2, 1587), (277, .aload_n 1, 0, 0, 0, 0), (278, .iload 4, 0, 0, 0, 0), (280, .iconst 1, 0, 0, 0, 0), (281, .invokevirtual 185, 0, 154, 2, 1517), (284, .i2l, 0, 0, 0, 0), (285, .invokestatic 215, 0, 199, 2, 1587), (288, .aload_n 1, 0, 0, 0, 0), (289, .iload 4, 0, 0, 0, 0), (291, .invokevirtual 188, 0, 153, 1, 1539), (294, .invokestatic 215, 0, 199, 2, 1587), (297, .lstore_n 2, 0, 0, 0, 0), (298, .iinc 4 1, 0, 0, 0, 0), (301, .goto (-74), 0, 0, 0, 0), (304, .iconst 0, 0, 0, 0, 0), (305, .istore 4, 0, 0, 0, 0), (307, .iload 4, 0, 0, 0, 0), (309, .aload_n 1, 0, 0, 0, 0), (310, .getfield 139, 0, 12, 7, 1427), (313, .invokevirtual 34, 0, 212, 0, 1102), (316, .if_icmp .ge 45, 0, 0, 0, 0), (319, .iconst 0, 0, 0, 0, 0), (320, .istore 5, 0, 0, 0, 0), (322, .iload 5, 0, 0, 0, 0), (324, .iconst 3, 0, 0, 0, 0), (325, .if_icmp .ge 30, 0, 0, 0, 0), (328, .lload_n 2, 0, 0, 0, 0), (329, .aload_n 1, 0, 0, 0, 0), (330, .getfield 139, 0, 12, 7, 1427), (333, .iload 4, 0, 0, 0, 0), (335, .invokevirtual 38, 0, 216, 1, 1309), (338, .checkcast 195, 0, 0, 0, 0), (341, .iload 5, 0, 0, 0, 0), (343, .iaload, 0, 0, 0, 0), (344, .i2l, 0, 0, 0, 0), (345, .invokestatic 215, 0, 199, 2, 1587), (348, .lstore_n 2, 0, 0, 0, 0), (349, .iinc 5 1, 0, 0, 0, 0), (352, .goto (-30), 0, 0, 0, 0), (355, .iinc 4 1, 0, 0, 0, 0), (358, .goto (-51), 0, 0, 0, 0), (361, .iconst 0, 0, 0, 0, 0), (362, .istore 4, 0, 0, 0, 0), (364, .iload 4, 0, 0, 0, 0), (366, .aload_n 1, 0, 0, 0, 0), (367, .getfield 142, 0, 12, 8, 1429), (370, .invokevirtual 34, 0, 212, 0, 1102), (373, .if_icmp .ge 30, 0, 0, 0, 0), (376, .lload_n 2, 0, 0, 0, 0), (377, .aload_n 1, 0, 0, 0, 0), (378, .getfield 142, 0, 12, 8, 1429), (381, .iload 4, 0, 0, 0, 0), (383, .invokevirtual 38, 0, 216, 1, 1309), (386, .checkcast 93, 0, 0, 0, 0), (389, .invokevirtual 196, 0, 203, 0, 1561), (392, .i2l, 0, 0, 0, 0), (393, .invokestatic 215, 0, 199, 2, 1587), (396, .lstore_n 2, 0, 0, 0, 0), (397, .iinc 4 1, 0, 0, 0, 0), (400, .goto (-36), 0, 0, 0, 0), (403, .iconst 0, 0, 0, 0, 0), (404, .istore 4, 0, 0, 0, 0), (406, .iload 4, 0, 0, 0, 0), (408, .iconst 4, 0, 0, 0, 0), (409, .if_icmp .ge 31, 0, 0, 0, 0), (412, .lload_n 2, 0, 0, 0, 0), (413, .new 74, 0, 12, 0, 1164), (416, .dup, 0, 0, 0, 0), (417, .aload_n 0, 0, 0, 0, 0), (418, .iload 4, 0, 0, 0, 0), (420, .invokespecial 79, 0, 142, 2, 1315), (423, .getfield 142, 0, 12, 8, 1429), (426, .invokevirtual 34, 0, 212, 0, 1102), (429, .i2l, 0, 0, 0, 0), (430, .invokestatic 215, 0, 199, 2, 1587), (433, .lstore_n 2, 0, 0, 0, 0), (434, .iinc 4 1, 0, 0, 0, 0), (437, .goto (-31), 0, 0, 0, 0), (440, .lload_n 2, 0, 0, 0, 0), (441, .lreturn, 0, 0, 0, 0)]
def mC201 : List (Nat × Instr × Nat × Nat × Nat × Nat) := [(0, .iload_n 0, 0, 0, 0, 0), (1, .bipush (-128), 0, 0, 0, 0), (3, .if_icmp .lt 20, 0, 0, 0, 0), (6, .iload_n 0, 0, 0, 0, 0), (7, .getstatic 191, 0, 999, 0, 0), (10, .if_icmp .gt 13, 0, 0, 0, 0), (13, .getstatic 195, 0, 999, 0, 0), (16, .iload_n 0, 0, 0, 0, 0), (17, .sipush 128, 0, 0, 0, 0), (20, .iadd, 0, 0, 0, 0), (21, .aaload, 0, 0, 0, 0), (22, .areturn, 0, 0, 0, 0), (23, .new 1, 0, 0, 0, 1025), (26, .dup, 0, 0, 0, 0), (27, .iload_n 0, 0, 0, 0, 0), (28, .invokespecial 199, 0, 202, 1, 1027), (31, .areturn, 0, 0, 0, 0)]
def mC202 : List (Nat × Instr × Nat × Nat × Nat × Nat) := [(0, .aload_n 0, 0, 0, 0, 0), (1, .invokespecial 202, 0, 206, 0, 1030), (4, .aload_n 0, 0, 0, 0, 0), (5, .iload_n 1, 0, 0, 0, 0), (6, .putfield 205, 0, 0, 0, 1034), (9, .return_, 0, 0, 0, 0)]
def mC203 : List (Nat × Instr × Nat × Nat × Nat × Nat) := [(0, .aload_n 0, 0, 0, 0, 0), (1, .getfield 205, 0, 0, 0, 1034), (4, .ireturn, 0, 0, 0, 0)]
def mC204 : List (Nat × Instr × Nat × Nat × Nat × Nat) := [(0, .iload_n 0, 0, 0, 0, 0), (1, .iload_n 1, 0, 0, 0, 0), (2, .if_icmp .lt 7, 0, 0, 0, 0), (5, .iload_n 0, 0, 0, 0, 0), (6, .goto 4, 0, 0, 0, 0), (9, .iload_n 1, 0, 0, 0, 0), (10, .ireturn, 0, 0, 0, 0)]
def mC205 : List (Nat × Instr × Nat × Nat × Nat × Nat) := [(0, .iload_n 0, 0, 0, 0, 0), (1, .iload_n 1, 0, 0, 0, 0), (2, .if_icmp .gt 7, 0, 0, 0, 0), (5, .iload_n 0, 0, 0, 0, 0), (6, .goto 4, 0, 0, 0, 0), (9, .iload_n 1, 0, 0, 0, 0), (10, .ireturn, 0, 0, 0, 0)]
def mC206 : List (Nat × Instr × Nat × Nat × Nat × Nat) := [(0, .aload_n 0, 0, 0, 0, 0), (1, .invokespecial 1, 0, 998, 0, 1033), (4, .return_, 0, 0, 0, 0)]
def mC207 : List (Nat × Instr × Nat × Nat × Nat × Nat) := [(0, .aload_n 0, 0, 0, 0, 0), (1, .invokespecial 1, 0, 998, 0, 961), (4, .return_, 0, 0, 0, 0)]
def mC208 : List (Nat × Instr × Nat × Nat × Nat × Nat) := [(0, .aload_n 0, 0, 0, 0, 0), (1, .invokespecial 1, 0, 207, 0, 958), (4, .aload_n 0, 0, 0, 0, 0), (5, .iconst 0, 0, 0, 0, 0), (6, .putfield 7, 0, 1, 0, 966), (9, .return_, 0, 0, 0, 0)]
def mC209 : List (Nat × Instr × Nat × Nat × Nat × Nat) := [(0, .aload_n 0, 0, 0, 0, 0), (1, .invokespecial 1, 0, 208, 0, 955), (4, .aload_n 0, 0, 0, 0, 0), (5, .getstatic 39, 0, 999, 0, 0), (8, .putfield 9, 0, 1, 1, 964), (11, .return_, 0, 0, 0, 0)]
def mC210 : List (Nat × Instr × Nat × Nat × Nat × Nat) := [(0, .aload_n 0, 0, 0, 0, 0), (1, .getfield 9, 0, 1, 1, 964), (4, .arraylength, 0, 0, 0, 0), (5, .istore_n 2, 0, 0, 0, 0), (6, .iload_n 2, 0, 0, 0, 0), (7, .ifCond .gt 13, 0, 0, 0, 0), (10, .aload_n 0, 0, 0, 0, 0), (11, .getfield 9, 0, 1, 1, 964), (14, .getstatic 39, 0, 999, 0, 0), (17, .if_acmp .eq 28, 0, 0, 0, 0), (20, .iload_n 2, 0, 0, 0, 0), (21, .iload_n 1, 0, 0, 0, 0), (22, .iload_n 2, 0, 0, 0, 0), (23, .isub, 0, 0, 0, 0), (24, .iload_n 2, 0, 0, 0, 0), (25, .iconst 1, 0, 0, 0, 0), (26, .ishr, 0, 0, 0, 0), (27, .invokestatic 73, 0, 226, 3, 1054), (30, .istore_n 3, 0, 0, 0, 0), (31, .aload_n 0, 0, 0, 0, 0), (32, .aload_n 0, 0, 0, 0, 0), (33, .getfield 9, 0, 1, 1, 964), (36, .iload_n 3, 0, 0, 0, 0), (37, .invokestatic 66, 0, 223, 2, 1062), (40, .dup_x1, 0, 0, 0, 0), (41, .putfield 9, 0, 1, 1, 964), (44, .areturn, 0, 0, 0, 0), (45, .aload_n 0, 0, 0, 0, 0), (46, .bipush 10, 0, 0, 0, 0), (48, .iload_n 1, 0, 0, 0, 0), (49, .invokestatic 79, 0, 204, 2, 1096), (52, .anewarray 7, 0, 0, 0, 0), (55, .dup_x1, 0, 0, 0, 0), (56, .putfield 9, 0, 1, 1, 964), (59, .areturn, 0, 0, 0, 0)]
def mC211 : List (Nat × Instr × Nat × Nat × Nat × Nat) := [(0, .aload_n 0, 0, 0, 0, 0), (1, .aload_n 0, 0, 0, 0, 0), (2, .getfield 48, 0, 1, 2, 965), (5, .iconst 1, 0, 0, 0, 0), (6, .iadd, 0, 0, 0, 0), (7, .invokevirtual 69, 0, 210, 1, 1050), (10, .areturn, 0, 0, 0, 0)]
def mC212 : List (Nat × Instr × Nat × Nat × Nat × Nat) := [(0, .aload_n 0, 0, 0, 0, 0), (1, .getfield 48, 0, 1, 2, 965), (4, .ireturn, 0, 0, 0, 0)]
def mC213 : List (Nat × Instr × Nat × Nat × Nat × Nat) := [(0, .aload_n 0, 0, 0, 0, 0), (1, .getfield 48, 0, 1, 2, 965), (4, .ifCond .ne 7, 0, 0, 0, 0), (7, .iconst 1, 0, 0, 0, 0), (8, .goto 4, 0, 0, 0, 0), (11, .iconst 0, 0, 0, 0, 0), (12, .ireturn, 0, 0, 0, 0)]
def mC214 : List (Nat × Instr × Nat × Nat × Nat × Nat) := [(0, .aload_n 0, 0, 0, 0, 0), (1, .getfield 9, 0, 1, 1, 964), (4, .aload_n 0, 0, 0, 0, 0), (5, .getfield 48, 0, 1, 2, 965), (8, .invokestatic 66, 0, 223, 2, 1062), (11, .areturn, 0, 0, 0, 0)]
def mC215 : List (Nat × Instr × Nat × Nat × Nat × Nat) := [(0, .aload_n 0, 0, 0, 0, 0), (1, .getfield 9, 0, 1, 1, 964), (4, .iload_n 1, 0, 0, 0, 0), (5, .aaload, 0, 0, 0, 0), (6, .areturn, 0, 0, 0, 0)]
def mC216 : List (Nat × Instr × Nat × Nat × Nat × Nat) := [(0, .iload_n 1, 0, 0, 0, 0), (1, .aload_n 0, 0, 0, 0, 0), (2, .getfield 48, 0, 1, 2, 965), (5, .invokestatic 118, 0, 225, 2, 1228), (8, .pop, 0, 0, 0, 0), (9, .aload_n 0, 0, 0, 0, 0), (10, .iload_n 1, 0, 0, 0, 0), (11, .invokevirtual 123, 0, 215, 1, 1234), (14, .areturn, 0, 0, 0, 0)]
def mC217 : List (Nat × Instr × Nat × Nat × Nat × Nat) := [(0, .iload_n 3, 0, 0, 0, 0), (1, .aload_n 2, 0, 0, 0, 0), (2, .arraylength, 0, 0, 0, 0), (3, .if_icmp .ne 8, 0, 0, 0, 0), (6, .aload_n 0, 0, 0, 0, 0), (7, .invokevirtual 129, 0, 211, 0, 1046), (10, .astore_n 2, 0, 0, 0, 0), (11, .aload_n 2, 0, 0, 0, 0), (12, .iload_n 3, 0, 0, 0, 0), (13, .aload_n 1, 0, 0, 0, 0), (14, .aastore, 0, 0, 0, 0), (15, .aload_n 0, 0, 0, 0, 0), (16, .iload_n 3, 0, 0, 0, 0), (17, .iconst 1, 0, 0, 0, 0), (18, .iadd, 0, 0, 0, 0), (19, .putfield 48, 0, 1, 2, 965), (22, .return_, 0, 0, 0, 0)]
def mC218 : List (Nat × Instr × Nat × Nat × Nat × Nat) := [(0, .aload_n 0, 0, 0, 0, 0), (1, .dup, 0, 0, 0, 0), (2, .getfield 63, 0, 999, 0, 0), (5, .iconst 1, 0, 0, 0, 0), (6, .iadd, 0, 0, 0, 0), (7, .putfield 63, 0, 999, 0, 0), (10, .aload_n 0, 0, 0, 0, 0), (11, .aload_n 1, 0, 0, 0, 0), (12, .aload_n 0, 0, 0, 0, 0), (13, .getfield 9, 0, 1, 1, 964), (16, .aload_n 0, 0, 0, 0, 0), (17, .getfield 48, 0, 1, 2, 965), (20, .invokevirtual 131, 0, 217, 3, 1042), (23, .iconst 1, 0, 0, 0, 0), (24, .ireturn, 0, 0, 0, 0)]
def mC219 : List (Nat × Instr × Nat × Nat × Nat × Nat) := [(0, .iload_n 1, 0, 0, 0, 0), (1, .aload_n 0, 0, 0, 0, 0), (2, .getfield 48, 0, 1, 2, 965), (5, .invokestatic 118, 0, 225, 2, 1228), (8, .pop, 0, 0, 0, 0), (9, .aload_n 0, 0, 0, 0, 0), (10, .getfield 9, 0, 1, 1, 964), (13, .astore_n 2, 0, 0, 0, 0), (14, .aload_n 2, 0, 0, 0, 0), (15, .iload_n 1, 0, 0, 0, 0), (16, .aaload, 0, 0, 0, 0), (17, .astore_n 3, 0, 0, 0, 0), (18, .aload_n 0, 0, 0, 0, 0), (19, .aload_n 2, 0, 0, 0, 0), (20, .iload_n 1, 0, 0, 0, 0), (21, .invokevirtual 144, 0, 220, 2, 1289), (24, .aload_n 3, 0, 0, 0, 0), (25, .areturn, 0, 0, 0, 0)]
def mC220 : List (Nat × Instr × Nat × Nat × Nat × Nat) := [(0, .aload_n 0, 0, 0, 0, 0), (1, .dup, 0, 0, 0, 0), (2, .getfield 63, 0, 999, 0, 0), (5, .iconst 1, 0, 0, 0, 0), (6, .iadd, 0, 0, 0, 0), (7, .putfield 63, 0, 999, 0, 0), (10, .aload_n 0, 0, 0, 0, 0), (11, .getfield 48, 0, 1, 2, 965), (14, .iconst 1, 0, 0, 0, 0), (15, .isub, 0, 0, 0, 0), (16, .dup, 0, 0, 0, 0), (17, .istore_n 3, 0, 0, 0, 0), (18, .iload_n 2, 0, 0, 0, 0), (19, .if_icmp .le 15, 0, 0, 0, 0), (22, .aload_n 1, 0, 0, 0, 0), (23, .iload_n 2, 0, 0, 0, 0), (24, .iconst 1, 0, 0, 0, 0), (25, .iadd, 0, 0, 0, 0), (26, .aload_n 1, 0, 0, 0, 0), (27, .iload_n 2, 0, 0, 0, 0), (28, .iload_n 3, 0, 0, 0, 0), (29, .iload_n 2, 0, 0, 0, 0), (30, .isub, 0, 0, 0, 0), (31, .invokestatic 112, 0, 999, 0, 0), (34, .aload_n 1, 0, 0, 0, 0), (35, .aload_n 0, 0, 0, 0, 0), (36, .iload_n 3, 0, 0, 0, 0), (37, .dup_x1, 0, 0, 0, 0), (38, .putfield 48, 0, 1, 2, 965), (41, .aconst_null, 0, 0, 0, 0), (42, .aastore, 0, 0, 0, 0), (43, .return_, 0, 0, 0, 0)]
def mC221 : List (Nat × Instr × Nat × Nat × Nat × Nat) := [(0, .aload_n 0, 0, 0, 0, 0), (1, .dup, 0, 0, 0, 0), (2, .getfield 63, 0, 999, 0, 0), (5, .iconst 1, 0, 0, 0, 0), (6, .iadd, 0, 0, 0, 0), (7, .putfield 63, 0, 999, 0, 0), (10, .aload_n 0, 0, 0, 0, 0), (11, .getfield 9, 0, 1, 1, 964), (14, .astore_n 1, 0, 0, 0, 0), (15, .aload_n 0, 0, 0, 0, 0), (16, .getfield 48, 0, 1, 2, 965), (19, .istore_n 2, 0, 0, 0, 0), (20, .aload_n 0, 0, 0, 0, 0), (21, .iconst 0, 0, 0, 0, 0), (22, .dup_x1, 0, 0, 0, 0), (23, .putfield 48, 0, 1, 2, 965), (26, .istore_n 3, 0, 0, 0, 0), (27, .iload_n 3, 0, 0, 0, 0), (28, .iload_n 2, 0, 0, 0, 0), (29, .if_icmp .ge 13, 0, 0, 0, 0), (32, .aload_n 1, 0, 0, 0, 0), (33, .iload_n 3, 0, 0, 0, 0), (34, .aconst_null, 0, 0, 0, 0), (35, .aastore, 0, 0, 0, 0), (36, .iinc 3 1, 0, 0, 0, 0), (39, .goto (-12), 0, 0, 0, 0), (42, .return_, 0, 0, 0, 0)]
def mC222 : List (Nat × Instr × Nat × Nat × Nat × Nat) := [(0, .aload_n 1, 0, 0, 0, 0), (1, .invokeinterface 42 1, 0, 999, 0, 0), (6, .astore_n 2, 0, 0, 0, 0), (7, .aload_n 0, 0, 0, 0, 0), (8, .dup, 0, 0, 0, 0), (9, .getfield 63, 0, 999, 0, 0), (12, .iconst 1, 0, 0, 0, 0), (13, .iadd, 0, 0, 0, 0), (14, .putfield 63, 0, 999, 0, 0), (17, .aload_n 2, 0, 0, 0, 0), (18, .arraylength, 0, 0, 0, 0), (19, .istore_n 3, 0, 0, 0, 0), (20, .iload_n 3, 0, 0, 0, 0), (21, .ifCond .ne 5, 0, 0, 0, 0), (24, .iconst 0, 0, 0, 0, 0), (25, .ireturn, 0, 0, 0, 0), (26, .iload_n 3, 0, 0, 0, 0), (27, .aload_n 0, 0, 0, 0, 0), (28, .getfield 9, 0, 1, 1, 964), (31, .dup, 0, 0, 0, 0), (32, .astore 4, 0, 0, 0, 0), (34, .arraylength, 0, 0, 0, 0), (35, .aload_n 0, 0, 0, 0, 0), (36, .getfield 48, 0, 1, 2, 965), (39, .dup, 0, 0, 0, 0), (40, .istore 5, 0, 0, 0, 0), (42, .isub, 0, 0, 0, 0), (43, .if_icmp .le 13, 0, 0, 0, 0), (46, .aload_n 0, 0, 0, 0, 0), (47, .iload 5, 0, 0, 0, 0), (49, .iload_n 3, 0, 0, 0, 0), (50, .iadd, 0, 0, 0, 0), (51, .invokevirtual 69, 0, 210, 1, 1050), (54, .astore 4, 0, 0, 0, 0), (56, .aload_n 2, 0, 0, 0, 0), (57, .iconst 0, 0, 0, 0, 0), (58, .aload 4, 0, 0, 0, 0), (60, .iload 5, 0, 0, 0, 0), (62, .iload_n 3, 0, 0, 0, 0), (63, .invokestatic 112, 0, 999, 0, 0), (66, .aload_n 0, 0, 0, 0, 0), (67, .iload 5, 0, 0, 0, 0), (69, .iload_n 3, 0, 0, 0, 0), (70, .iadd, 0, 0, 0, 0), (71, .putfield 48, 0, 1, 2, 965), (74, .iconst 1, 0, 0, 0, 0), (75, .ireturn, 0, 0, 0, 0)]
def mC223 : List (Nat × Instr × Nat × Nat × Nat × Nat) := [(0, .aload_n 0, 0, 0, 0, 0), (1, .iload_n 1, 0, 0, 0, 0), (2, .aload_n 0, 0, 0, 0, 0), (3, .invokevirtual 86, 0, 999, 0, 0), (6, .invokestatic 300, 0, 224, 3, 1086), (9, .areturn, 0, 0, 0, 0)]
def mC224 : List (Nat × Instr × Nat × Nat × Nat × Nat) := [(0, .aload_n 2, 0, 0, 0, 0), (1, .ldc 110, 999, 0, 0, 0), (3, .if_acmp .ne 10, 0, 0, 0, 0), (6, .iload_n 1, 0, 0, 0, 0), (7, .anewarray 2, 0, 0, 0, 0), (10, .goto 14, 0, 0, 0, 0), (13, .aload_n 2, 0, 0, 0, 0), (14, .invokevirtual 90, 0, 999, 0, 0), (17, .iload_n 1, 0, 0, 0, 0), (18, .invokestatic 95, 0, 999, 0, 0), (21, .checkcast 110, 0, 0, 0, 0), (24, .astore_n 3, 0, 0, 0, 0), (25, .aload_n 0, 0, 0, 0, 0), (26, .iconst 0, 0, 0, 0, 0), (27, .aload_n 3, 0, 0, 0, 0), (28, .iconst 0, 0, 0, 0, 0), (29, .aload_n 0, 0, 0, 0, 0), (30, .arraylength, 0, 0, 0, 0), (31, .iload_n 1, 0, 0, 0, 0), (32, .invokestatic 304, 0, 205, 2, 1092), (35, .invokestatic 150, 0, 999, 0, 0), (38, .aload_n 3, 0, 0, 0, 0), (39, .areturn, 0, 0, 0, 0)]
def mC225 : List (Nat × Instr × Nat × Nat × Nat × Nat) := [(0, .iload_n 0, 0, 0, 0, 0), (1, .iload_n 1, 0, 0, 0, 0), (2, .aconst_null, 0, 0, 0, 0), (3, .invokestatic 105, 0, 228, 3, 1231), (6, .ireturn, 0, 0, 0, 0)]
def mC226 : List (Nat × Instr × Nat × Nat × Nat × Nat) := [(0, .iload_n 0, 0, 0, 0, 0), (1, .iload_n 1, 0, 0, 0, 0), (2, .iload_n 2, 0, 0, 0, 0), (3, .invokestatic 194, 0, 204, 2, 1057), (6, .iadd, 0, 0, 0, 0), (7, .istore_n 3, 0, 0, 0, 0), (8, .iconst 0, 0, 0, 0, 0), (9, .iload_n 3, 0, 0, 0, 0), (10, .if_icmp .ge 11, 0, 0, 0, 0), (13, .iload_n 3, 0, 0, 0, 0), (14, .ldc 200, 0, 2147483639, 0, 1058), (16, .if_icmp .gt 5, 0, 0, 0, 0), (19, .iload_n 3, 0, 0, 0, 0), (20, .ireturn, 0, 0, 0, 0), (21, .iload_n 0, 0, 0, 0, 0), (22, .iload_n 1, 0, 0, 0, 0), (23, .invokestatic 201, 0, 227, 2, 1059), (26, .ireturn, 0, 0, 0, 0)]
def mC227 : List (Nat × Instr × Nat × Nat × Nat × Nat) := [(0, .iload_n 0, 0, 0, 0, 0), (1, .iload_n 1, 0, 0, 0, 0), (2, .iadd, 0, 0, 0, 0), (3, .istore_n 2, 0, 0, 0, 0), (4, .iload_n 2, 0, 0, 0, 0), (5, .ifCond .ge 44, 0, 0, 0, 0), (8, .new 204, 0, 999, 0, 0), (11, .dup, 0, 0, 0, 0), (12, .new 89, 0, 999, 0, 0), (15, .dup, 0, 0, 0, 0), (16, .invokespecial 91, 0, 999, 0, 0), (19, .ldc 206, 999, 0, 0, 0), (21, .invokevirtual 94, 0, 999, 0, 0), (24, .iload_n 0, 0, 0, 0, 0), (25, .invokevirtual 98, 0, 999, 0, 0), (28, .ldc 208, 999, 0, 0, 0), (30, .invokevirtual 94, 0, 999, 0, 0), (33, .iload_n 1, 0, 0, 0, 0), (34, .invokevirtual 98, 0, 999, 0, 0), (37, .ldc 210, 999, 0, 0, 0), (39, .invokevirtual 94, 0, 999, 0, 0), (42, .invokevirtual 101, 0, 999, 0, 0), (45, .invokespecial 212, 0, 999, 0, 0), (48, .athrow, 0, 0, 0, 0), (49, .iload_n 2, 0, 0, 0, 0), (50, .ldc 200, 0, 2147483639, 0, 1058), (52, .if_icmp .gt 6, 0, 0, 0, 0), (55, .ldc 200, 0, 2147483639, 0, 1058), (57, .ireturn, 0, 0, 0, 0), (58, .iload_n 2, 0, 0, 0, 0), (59, .ireturn, 0, 0, 0, 0)]
def mC228 : List (Nat × Instr × Nat × Nat × Nat × Nat) := [(0, .iload_n 0, 0, 0, 0, 0), (1, .ifCond .lt 8, 0, 0, 0, 0), (4, .iload_n 0, 0, 0, 0, 0), (5, .iload_n 1, 0, 0, 0, 0), (6, .if_icmp .lt 10, 0, 0, 0, 0), (9, .aload_n 2, 0, 0, 0, 0), (10, .iload_n 0, 0, 0, 0, 0), (11, .iload_n 1, 0, 0, 0, 0), (12, .invokestatic 95, 0, 999, 0, 0), (15, .athrow, 0, 0, 0, 0), (16, .iload_n 0, 0, 0, 0, 0), (17, .ireturn, 0, 0, 0, 0)]
def mC229 : List (Nat × Instr × Nat × Nat × Nat × Nat) := [(0, .aload_n 2, 0, 0, 0, 0), (1, .iconst 0, 0, 0, 0, 0), (2, .aload_n 0, 0, 0, 0, 0), (3, .iload_n 1, 0, 0, 0, 0), (4, .invokevirtual 7, 0, 77, 1, 618), (7, .i2l, 0, 0, 0, 0), (8, .lastore, 0, 0, 0, 0), (9, .goto 9, 0, 0, 0, 0), (12, .astore_n 3, 0, 0, 0, 0), (13, .iconst 1, 0, 0, 0, 0), (14, .ireturn, 0, 0, 0, 0), (15, .astore_n 3, 0, 0, 0, 0), (16, .iconst 2, 0, 0, 0, 0), (17, .ireturn, 0, 0, 0, 0), (18, .iconst 0, 0, 0, 0, 0), (19, .ireturn, 0, 0, 0, 0)]
def mC230 : List (Nat × Instr × Nat × Nat × Nat × Nat) := [(0, .aload_n 2, 0, 0, 0, 0), (1, .iconst 0, 0, 0, 0, 0), (2, .aload_n 0, 0, 0, 0, 0), (3, .iload_n 1, 0, 0, 0, 0), (4, .invokevirtual 17, 0, 78, 1, 722), (7, .i2l, 0, 0, 0, 0), (8, .lastore, 0, 0, 0, 0), (9, .goto 9, 0, 0, 0, 0), (12, .astore_n 3, 0, 0, 0, 0), (13, .iconst 1, 0, 0, 0, 0), (14, .ireturn, 0, 0, 0, 0), (15, .astore_n 3, 0, 0, 0, 0), (16, .iconst 2, 0, 0, 0, 0), (17, .ireturn, 0, 0, 0, 0), (18, .iconst 0, 0, 0, 0, 0), (19, .ireturn, 0, 0, 0, 0)]
def mC231 : List (Nat × Instr × Nat × Nat × Nat × Nat) := [(0, .aload_n 3, 0, 0, 0, 0), (1, .iconst 0, 0, 0, 0, 0), (2, .aload_n 0, 0, 0, 0, 0), (3, .iload_n 1, 0, 0, 0, 0), (4, .iload_n 2, 0, 0, 0, 0), (5, .invokevirtual 20, 0, 79, 2, 738), (8, .i2l, 0, 0, 0, 0), (9, .lastore, 0, 0, 0, 0), (10, .goto 11, 0, 0, 0, 0), (13, .astore 4, 0, 0, 0, 0), (15, .iconst 1, 0, 0, 0, 0), (16, .ireturn, 0, 0, 0, 0), (17, .astore 4, 0, 0, 0, 0), (19, .iconst 2, 0, 0, 0, 0), (20, .ireturn, 0, 0, 0, 0), (21, .iconst 0, 0, 0, 0, 0), (22, .ireturn, 0, 0, 0, 0)]
def mC232 : List (Nat × Instr × Nat × Nat × Nat × Nat) := [(0, .aload 5, 0, 0, 0, 0), (2, .iconst 0, 0, 0, 0, 0), (3, .aload_n 0, 0, 0, 0, 0), (4, .iload_n 1, 0, 0, 0, 0), (5, .iload_n 2, 0, 0, 0, 0), (6, .iload_n 3, 0, 0, 0, 0), (7, .iload 4, 0, 0, 0, 0), (9, .invokevirtual 24, 0, 80, 4, 746), (12, .i2l, 0, 0, 0, 0), (13, .lastore, 0, 0, 0, 0), (14, .goto 11, 0, 0, 0, 0), (17, .astore 6, 0, 0, 0, 0), (19, .iconst 1, 0, 0, 0, 0), (20, .ireturn, 0, 0, 0, 0), (21, .astore 6, 0, 0, 0, 0), (23, .iconst 2, 0, 0, 0, 0), (24, .ireturn, 0, 0, 0, 0), (25, .iconst 0, 0, 0, 0, 0), (26, .ireturn, 0, 0, 0, 0)]
def mC233 : List (Nat × Instr × Nat × Nat × Nat × Nat) := [(0, .aload_n 3, 0, 0, 0, 0), (1, .iconst 0, 0, 0, 0, 0), (2, .aload_n 0, 0, 0, 0, 0), (3, .iload_n 1, 0, 0, 0, 0), (4, .iload_n 2, 0, 0, 0, 0), (5, .invokevirtual 28, 0, 82, 2, 754), (8, .i2l, 0, 0, 0, 0), (9, .lastore, 0, 0, 0, 0), (10, .goto 7, 0, 0, 0, 0), (13, .astore 4, 0, 0, 0, 0), (15, .iconst 1, 0, 0, 0, 0), (16, .ireturn, 0, 0, 0, 0), (17, .iconst 0, 0, 0, 0, 0), (18, .ireturn, 0, 0, 0, 0)]
def mC234 : List (Nat × Instr × Nat × Nat × Nat × Nat) := [(0, .aload_n 2, 0, 0, 0, 0), (1, .iconst 0, 0, 0, 0, 0), (2, .aload_n 0, 0, 0, 0, 0), (3, .iload_n 1, 0, 0, 0, 0), (4, .invokevirtual 31, 0, 83, 1, 764), (7, .i2l, 0, 0, 0, 0), (8, .lastore, 0, 0, 0, 0), (9, .goto 6, 0, 0, 0, 0), (12, .astore_n 3, 0, 0, 0, 0), (13, .iconst 1, 0, 0, 0, 0), (14, .ireturn, 0, 0, 0, 0), (15, .iconst 0, 0, 0, 0, 0), (16, .ireturn, 0, 0, 0, 0)]
def mC235 : List (Nat × Instr × Nat × Nat × Nat × Nat) := [(0, .aload_n 3, 0, 0, 0, 0), (1, .iconst 0, 0, 0, 0, 0), (2, .aload_n 0, 0, 0, 0, 0), (3, .iload_n 1, 0, 0, 0, 0), (4, .iload_n 2, 0, 0, 0, 0), (5, .invokevirtual 34, 0, 84, 2, 776), (8, .i2l, 0, 0, 0, 0), (9, .lastore, 0, 0, 0, 0), (10, .goto 11, 0, 0, 0, 0), (13, .astore 4, 0, 0, 0, 0), (15, .iconst 1, 0, 0, 0, 0), (16, .ireturn, 0, 0, 0, 0), (17, .astore 4, 0, 0, 0, 0), (19, .iconst 2, 0, 0, 0, 0), (20, .ireturn, 0, 0, 0, 0), (21, .iconst 0, 0, 0, 0, 0), (22, .ireturn, 0, 0, 0, 0)]
def mC236 : List (Nat × Instr × Nat × Nat × Nat × Nat) := [(0, .aload_n 2, 0, 0, 0, 0), (1, .iconst 0, 0, 0, 0, 0), (2, .aload_n 0, 0, 0, 0, 0), (3, .iload_n 1, 0, 0, 0, 0), (4, .invokevirtual 39, 0, 85, 1, 800), (7, .i2l, 0, 0, 0, 0), (8, .lastore, 0, 0, 0, 0), (9, .goto 6, 0, 0, 0, 0), (12, .astore_n 3, 0, 0, 0, 0), (13, .iconst 1, 0, 0, 0, 0), (14, .ireturn, 0, 0, 0, 0), (15, .iconst 0, 0, 0, 0, 0), (16, .ireturn, 0, 0, 0, 0)]
def mC237 : List (Nat × Instr × Nat × Nat × Nat × Nat) := [(0, .aload_n 2, 0, 0, 0, 0), (1, .iconst 0, 0, 0, 0, 0), (2, .aload_n 0, 0, 0, 0, 0), (3, .iload_n 1, 0, 0, 0, 0), (4, .invokevirtual 42, 0, 86, 1, 808), (7, .i2l, 0, 0, 0, 0), (8, .lastore, 0, 0, 0, 0), (9, .goto 6, 0, 0, 0, 0), (12, .astore_n 3, 0, 0, 0, 0), (13, .iconst 1, 0, 0, 0, 0), (14, .ireturn, 0, 0, 0, 0), (15, .iconst 0, 0, 0, 0, 0), (16, .ireturn, 0, 0, 0, 0)]
def mC238 : List (Nat × Instr × Nat × Nat × Nat × Nat) := [(0, .aload_n 2, 0, 0, 0, 0), (1, .iconst 0, 0, 0, 0, 0), (2, .aload_n 0, 0, 0, 0, 0), (3, .iload_n 1, 0, 0, 0, 0), (4, .invokevirtual 45, 0, 87, 1, 819), (7, .i2l, 0, 0, 0, 0), (8, .lastore, 0, 0, 0, 0), (9, .goto 6, 0, 0, 0, 0), (12, .astore_n 3, 0, 0, 0, 0), (13, .iconst 1, 0, 0, 0, 0), (14, .ireturn, 0, 0, 0, 0), (15, .iconst 0, 0, 0, 0, 0), (16, .ireturn, 0, 0, 0, 0)]
def mC239 : List (Nat × Instr × Nat × Nat × Nat × Nat) := [(0, .aload_n 2, 0, 0, 0, 0), (1, .iconst 0, 0, 0, 0, 0), (2, .aload_n 0, 0, 0, 0, 0), (3, .iload_n 1, 0, 0, 0, 0), (4, .invokevirtual 48, 0, 88, 1, 827), (7, .i2l, 0, 0, 0, 0), (8, .lastore, 0, 0, 0, 0), (9, .goto 6, 0, 0, 0, 0), (12, .astore_n 3, 0, 0, 0, 0), (13, .iconst 1, 0, 0, 0, 0), (14, .ireturn, 0, 0, 0, 0), (15, .iconst 0, 0, 0, 0, 0), (16, .ireturn, 0, 0, 0, 0)]
def mC240 : List (Nat × Instr × Nat × Nat × Nat × Nat) := [(0, .aload 4, 0, 0, 0, 0), (2, .iconst 0, 0, 0, 0, 0), (3, .aload_n 0, 0, 0, 0, 0), (4, .iload_n 1, 0, 0, 0, 0), (5, .iload_n 2, 0, 0, 0, 0), (6, .iload_n 3, 0, 0, 0, 0), (7, .invokevirtual 51, 0, 89, 3, 835), (10, .i2l, 0, 0, 0, 0), (11, .lastore, 0, 0, 0, 0), (12, .goto 11, 0, 0, 0, 0), (15, .astore 5, 0, 0, 0, 0), (17, .iconst 1, 0, 0, 0, 0), (18, .ireturn, 0, 0, 0, 0), (19, .astore 5, 0, 0, 0, 0), (21, .iconst 2, 0, 0, 0, 0), (22, .ireturn, 0, 0, 0, 0), (23, .iconst 0, 0, 0, 0, 0), (24, .ireturn, 0, 0, 0, 0)]
def mC241 : List (Nat × Instr × Nat × Nat × Nat × Nat) := [(0, .aload 4, 0, 0, 0, 0), (2, .iconst 0, 0, 0, 0, 0), (3, .aload_n 0, 0, 0, 0, 0), (4, .iload_n 1, 0, 0, 0, 0), (5, .iload_n 2, 0, 0, 0, 0), (6, .iload_n 3, 0, 0, 0, 0), (7, .invokevirtual 55, 0, 90, 3, 844), (10, .i2l, 0, 0, 0, 0), (11, .lastore, 0, 0, 0, 0), (12, .goto 7, 0, 0, 0, 0), (15, .astore 5, 0, 0, 0, 0), (17, .iconst 1, 0, 0, 0, 0), (18, .ireturn, 0, 0, 0, 0), (19, .iconst 0, 0, 0, 0, 0), (20, .ireturn, 0, 0, 0, 0)]
def mC242 : List (Nat × Instr × Nat × Nat × Nat × Nat) := [(0, .aload_n 3, 0, 0, 0, 0), (1, .iconst 0, 0, 0, 0, 0), (2, .aload_n 0, 0, 0, 0, 0), (3, .iload_n 1, 0, 0, 0, 0), (4, .iload_n 2, 0, 0, 0, 0), (5, .invokevirtual 58, 0, 91, 2, 851), (8, .i2l, 0, 0, 0, 0), (9, .lastore, 0, 0, 0, 0), (10, .goto 11, 0, 0, 0, 0), (13, .astore 4, 0, 0, 0, 0), (15, .iconst 1, 0, 0, 0, 0), (16, .ireturn, 0, 0, 0, 0), (17, .astore 4, 0, 0, 0, 0), (19, .iconst 2, 0, 0, 0, 0), (20, .ireturn, 0, 0, 0, 0), (21, .iconst 0, 0, 0, 0, 0), (22, .ireturn, 0, 0, 0, 0)]
def mC243 : List (Nat × Instr × Nat × Nat × Nat × Nat) := [(0, .aload_n 3, 0, 0, 0, 0), (1, .iconst 0, 0, 0, 0, 0), (2, .aload_n 0, 0, 0, 0, 0), (3, .iload_n 1, 0, 0, 0, 0), (4, .iload_n 2, 0, 0, 0, 0), (5, .invokevirtual 61, 0, 92, 2, 864), (8, .i2l, 0, 0, 0, 0), (9, .lastore, 0, 0, 0, 0), (10, .goto 11, 0, 0, 0, 0), (13, .astore 4, 0, 0, 0, 0), (15, .iconst 1, 0, 0, 0, 0), (16, .ireturn, 0, 0, 0, 0), (17, .astore 4, 0, 0, 0, 0), (19, .iconst 2, 0, 0, 0, 0), (20, .ireturn, 0, 0, 0, 0), (21, .iconst 0, 0, 0, 0, 0), (22, .ireturn, 0, 0, 0, 0)]
def mC244 : List (Nat × Instr × Nat × Nat × Nat × Nat) := [(0, .aload_n 2, 0, 0, 0, 0), (1, .iconst 0, 0, 0, 0, 0), (2, .aload_n 0, 0, 0, 0, 0), (3, .iload_n 1, 0, 0, 0, 0), (4, .invokevirtual 64, 0, 93, 1, 872), (7, .lastore, 0, 0, 0, 0), (8, .goto 6, 0, 0, 0, 0), (11, .astore_n 3, 0, 0, 0, 0), (12, .iconst 1, 0, 0, 0, 0), (13, .ireturn, 0, 0, 0, 0), (14, .iconst 0, 0, 0, 0, 0), (15, .ireturn, 0, 0, 0, 0)]
def mC245 : List (Nat × Instr × Nat × Nat × Nat × Nat) := [(0, .aload_n 2, 0, 0, 0, 0), (1, .iconst 0, 0, 0, 0, 0), (2, .aload_n 0, 0, 0, 0, 0), (3, .iload_n 1, 0, 0, 0, 0), (4, .invokevirtual 68, 0, 94, 1, 879), (7, .dastore, 0, 0, 0, 0), (8, .goto 6, 0, 0, 0, 0), (11, .astore_n 3, 0, 0, 0, 0), (12, .iconst 1, 0, 0, 0, 0), (13, .ireturn, 0, 0, 0, 0), (14, .iconst 0, 0, 0, 0, 0), (15, .ireturn, 0, 0, 0, 0)]
def mC246 : List (Nat × Instr × Nat × Nat × Nat × Nat) := [(0, .aload_n 3, 0, 0, 0, 0), (1, .iconst 0, 0, 0, 0, 0), (2, .aload_n 0, 0, 0, 0, 0), (3, .iload_n 1, 0, 0, 0, 0), (4, .iload_n 2, 0, 0, 0, 0), (5, .invokevirtual 72, 0, 95, 2, 890), (8, .i2l, 0, 0, 0, 0), (9, .lastore, 0, 0, 0, 0), (10, .goto 11, 0, 0, 0, 0), (13, .astore 4, 0, 0, 0, 0), (15, .iconst 1, 0, 0, 0, 0), (16, .ireturn, 0, 0, 0, 0), (17, .astore 4, 0, 0, 0, 0), (19, .iconst 2, 0, 0, 0, 0), (20, .ireturn, 0, 0, 0, 0), (21, .iconst 0, 0, 0, 0, 0), (22, .ireturn, 0, 0, 0, 0)]
def mC247 : List (Nat × Instr × Nat × Nat × Nat × Nat) := [(0, .aload_n 2, 0, 0, 0, 0), (1, .iconst 0, 0, 0, 0, 0), (2, .aload_n 0, 0, 0, 0, 0), (3, .iload_n 1, 0, 0, 0, 0), (4, .invokevirtual 75, 0, 96, 1, 899), (7, .i2l, 0, 0, 0, 0), (8, .lastore, 0, 0, 0, 0), (9, .goto 6, 0, 0, 0, 0), (12, .astore_n 3, 0, 0, 0, 0), (13, .iconst 1, 0, 0, 0, 0), (14, .ireturn, 0, 0, 0, 0), (15, .iconst 0, 0, 0, 0, 0), (16, .ireturn, 0, 0, 0, 0)]
def mC248 : List (Nat × Instr × Nat × Nat × Nat × Nat) := [(0, .aload_n 3, 0, 0, 0, 0), (1, .iconst 0, 0, 0, 0, 0), (2, .aload_n 0, 0, 0, 0, 0), (3, .iload_n 1, 0, 0, 0, 0), (4, .iload_n 2, 0, 0, 0, 0), (5, .invokevirtual 78, 0, 97, 2, 911), (8, .i2l, 0, 0, 0, 0), (9, .lastore, 0, 0, 0, 0), (10, .goto 7, 0, 0, 0, 0), (13, .astore 4, 0, 0, 0, 0), (15, .iconst 1, 0, 0, 0, 0), (16, .ireturn, 0, 0, 0, 0), (17, .iconst 0, 0, 0, 0, 0), (18, .ireturn, 0, 0, 0, 0)]
def mC249 : List (Nat × Instr × Nat × Nat × Nat × Nat) := [(0, .aload_n 3, 0, 0, 0, 0), (1, .iconst 0, 0, 0, 0, 0), (2, .aload_n 0, 0, 0, 0, 0), (3, .iload_n 1, 0, 0, 0, 0), (4, .iload_n 2, 0, 0, 0, 0), (5, .invokevirtual 81, 0, 98, 2, 920), (8, .i2l, 0, 0, 0, 0), (9, .lastore, 0, 0, 0, 0), (10, .goto 7, 0, 0, 0, 0), (13, .astore 4, 0, 0, 0, 0), (15, .iconst 1, 0, 0, 0, 0), (16, .ireturn, 0, 0, 0, 0), (17, .iconst 0, 0, 0, 0, 0), (18, .ireturn, 0, 0, 0, 0)]
def mC250 : List (Nat × Instr × Nat × Nat × Nat × Nat) := [(0, .aload_n 2, 0, 0, 0, 0), (1, .iconst 0, 0, 0, 0, 0), (2, .aload_n 0, 0, 0, 0, 0), (3, .iload_n 1, 0, 0, 0, 0), (4, .invokevirtual 84, 0, 99, 1, 931), (7, .i2l, 0, 0, 0, 0), (8, .lastore, 0, 0, 0, 0), (9, .goto 6, 0, 0, 0, 0), (12, .astore_n 3, 0, 0, 0, 0), (13, .iconst 1, 0, 0, 0, 0), (14, .ireturn, 0, 0, 0, 0), (15, .iconst 0, 0, 0, 0, 0), (16, .ireturn, 0, 0, 0, 0)]
def mC251 : List (Nat × Instr × Nat × Nat × Nat × Nat) := [(0, .aload_n 3, 0, 0, 0, 0), (1, .iconst 0, 0, 0, 0, 0), (2, .aload_n 0, 0, 0, 0, 0), (3, .iload_n 1, 0, 0, 0, 0), (4, .iload_n 2, 0, 0, 0, 0), (5, .invokevirtual 87, 0, 100, 2, 938), (8, .i2l, 0, 0, 0, 0), (9, .lastore, 0, 0, 0, 0), (10, .goto 11, 0, 0, 0, 0), (13, .astore 4, 0, 0, 0, 0), (15, .iconst 1, 0, 0, 0, 0), (16, .ireturn, 0, 0, 0, 0), (17, .astore 4, 0, 0, 0, 0), (19, .iconst 2, 0, 0, 0, 0), (20, .ireturn, 0, 0, 0, 0), (21, .iconst 0, 0, 0, 0, 0), (22, .ireturn, 0, 0, 0, 0)]
def mC252 : List (Nat × Instr × Nat × Nat × Nat × Nat) := [(0, .new 8, 0, 8, 0, 91), (3, .dup, 0, 0, 0, 0), (4, .invokespecial 90, 0, 76, 0, 93), (7, .astore_n 1, 0, 0, 0, 0), (8, .new 91, 0, 13, 0, 944), (11, .dup, 0, 0, 0, 0), (12, .invokespecial 93, 0, 157, 0, 946), (15, .astore_n 2, 0, 0, 0, 0), (16, .iconst 1, 0, 0, 0, 0), (17, .newarray .long, 0, 1, 0, 0), (19, .astore_n 3, 0, 0, 0, 0), (20, .iconst 1, 0, 0, 0, 0), (21, .newarray .double, 0, 2, 0, 0), (23, .astore 4, 0, 0, 0, 0), (25, .iconst 0, 0, 0, 0, 0), (26, .istore 5, 0, 0, 0, 0), (28, .iload 5, 0, 0, 0, 0), (30, .aload_n 0, 0, 0, 0, 0), (31, .arraylength, 0, 0, 0, 0), (32, .iconst 5, 0, 0, 0, 0), (33, .isub, 0, 0, 0, 0), (34, .if_icmp .gt 1659, 0, 0, 0, 0), (37, .aload_n 0, 0, 0, 0, 0), (38, .iload 5, 0, 0, 0, 0), (40, .iaload, 0, 0, 0, 0), (41, .bipush 31, 0, 0, 0, 0), (43, .iand, 0, 0, 0, 0), (44, .tableswitch 1643 0 24 #[116, 172, 228, 296, 388, 401, 469, 525, 593, 649, 705, 761, 817, 897, 977, 1045, 1113, 1168, 1245, 1313, 1369, 1437, 1505, 1561, 1629], 116, 0, 0, 0), (160, .aload_n 1, 0, 0, 0, 0), (161, .aload_n 0, 0, 0, 0, 0), (162, .iload 5, 0, 0, 0, 0), (164, .iconst 1, 0, 0, 0, 0), (165, .iadd, 0, 0, 0, 0), (166, .iaload, 0, 0, 0, 0), (167, .aload_n 3, 0, 0, 0, 0), (168, .invokestatic 94, 0, 229, 3, 613), (171, .istore 6, 0, 0, 0, 0), (173, .aload_n 2, 0, 0, 0, 0), (174, .aload_n 0, 0, 0, 0, 0), (175, .iload 5, 0, 0, 0, 0), (177, .iconst 1, 0, 0, 0, 0), (178, .iadd, 0, 0, 0, 0), (179, .iaload, 0, 0, 0, 0), (180, .invokevirtual 99, 0, 170, 1, 1000), (183, .istore 7, 0, 0, 0, 0), (185, .aload_n 2, 0, 0, 0, 0), (186, .invokevirtual 100, 0, 158, 0, 996), (189, .iload 6, 0, 0, 0, 0), (191, .if_icmp .eq 5, 0, 0, 0, 0), (194, .iconst 0, 0, 0, 0, 0), (195, .ireturn, 0, 0, 0, 0), (196, .iload 6, 0, 0, 0, 0), (198, .ifCond .ne 15, 0, 0, 0, 0), (201, .aload_n 3, 0, 0, 0, 0), (202, .iconst 0, 0, 0, 0, 0), (203, .laload, 0, 0, 0, 0), (204, .iload 7, 0, 0, 0, 0), (206, .i2l, 0, 0, 0, 0), (207, .lcmp, 0, 0, 0, 0), (208, .ifCond .eq 5, 0, 0, 0, 0), (211, .iconst 0, 0, 0, 0, 0), (212, .ireturn, 0, 0, 0, 0), (213, .goto 1474, 0, 0, 0, 0), (216, .aload_n 1, 0, 0, 0, 0), (217, .aload_n 0, 0, 0, 0, 0), (218, .iload 5, 0, 0, 0, 0), (220, .iconst 1, 0, 0, 0, 0), (221, .iadd, 0, 0, 0, 0), (222, .iaload, 0, 0, 0, 0), (223, .aload_n 3, 0, 0, 0, 0), (224, .invokestatic 104, 0, 230, 3, 719), (227, .istore 6, 0, 0, 0, 0), (229, .aload_n 2, 0, 0, 0, 0), (230, .aload_n 0, 0, 0, 0, 0), (231, .iload 5, 0, 0, 0, 0), (233, .iconst 1, 0, 0, 0, 0), (234, .iadd, 0, 0, 0, 0), (235, .iaload, 0, 0, 0, 0), (236, .invokevirtual 106, 0, 171, 1, 1121), (239, .istore 7, 0, 0, 0, 0), (241, .aload_n 2, 0, 0, 0, 0), (242, .invokevirtual 100, 0, 158, 0, 996), (245, .iload 6, 0, 0, 0, 0), (247, .if_icmp .eq 5, 0, 0, 0, 0), (250, .iconst 0, 0, 0, 0, 0), (251, .ireturn, 0, 0, 0, 0), (252, .iload 6, 0, 0, 0, 0), (254, .ifCond .ne 15, 0, 0, 0, 0), (257, .aload_n 3, 0, 0, 0, 0), (258, .iconst 0, 0, 0, 0, 0), (259, .laload, 0, 0, 0, 0), (260, .iload 7, 0, 0, 0, 0), (262, .i2l, 0, 0, 0, 0), (263, .lcmp, 0, 0, 0, 0), (264, .ifCond .eq 5, 0, 0, 0, 0), (267, .iconst 0, 0, 0, 0, 0), (268, .ireturn, 0, 0, 0, 0), (269, .goto 1418, 0, 0, 0, 0), (272, .aload_n 1, 0, 0, 0, 0), (273, .aload_n 0, 0, 0, 0, 0), (274, .iload 5, 0, 0, 0, 0), (276, .iconst 1, 0, 0, 0, 0), (277, .iadd, 0, 0, 0, 0), (278, .iaload, 0, 0, 0, 0), (279, .aload_n 0, 0, 0, 0, 0), (280, .iload 5, 0, 0, 0, 0), (282, .iconst 2, 0, 0, 0, 0), (283, .iadd, 0, 0, 0, 0), (284, .iaload, 0, 0, 0, 0), (285, .aload_n 3, 0, 0, 0, 0), (286, .invokestatic 107, 0, 231, 4, 735), (289, .istore 6, 0, 0, 0, 0), (291, .aload_n 2, 0, 0, 0, 0), (292, .aload_n 0, 0, 0, 0, 0), (293, .iload 5, 0, 0, 0, 0), (295, .iconst 1, 0, 0, 0, 0), (296, .iadd, 0, 0, 0, 0), (297, .iaload, 0, 0, 0, 0), (298, .aload_n 0, 0, 0, 0, 0), (299, .iload 5, 0, 0, 0, 0), (301, .iconst 2, 0, 0, 0, 0), (302, .iadd, 0, 0, 0, 0), (303, .iaload, 0, 0, 0, 0), (304, .invokevirtual 110, 0, 172, 2, 1128), (307, .istore 7, 0, 0, 0, 0), (309, .aload_n 2, 0, 0, 0, 0), (310, .invokevirtual 100, 0, 158, 0, 996), (313, .iload 6, 0, 0, 0, 0), (315, .if_icmp .eq 5, 0, 0, 0, 0), (318, .iconst 0, 0, 0, 0, 0), (319, .ireturn, 0, 0, 0, 0), (320, .iload 6, 0, 0, 0, 0), (322, .ifCond .ne 15, 0, 0, 0, 0), (325, .aload_n 3, 0, 0, 0, 0), (326, .iconst 0, 0, 0, 0, 0), (327, .laload, 0, 0, 0, 0), (328, .iload 7, 0, 0, 0, 0), (330, .i2l, 0, 0, 0, 0), (331, .lcmp, 0, 0, 0, 0), (332, .ifCond .eq 5, 0, 0, 0, 0), (335, .iconst 0, 0, 0, 0, 0), (336, .ireturn, 0, 0, 0, 0), (337, .goto 1350, 0, 0, 0, 0), (340, .aload_n 1, 0, 0, 0, 0), (341, .aload_n 0, 0, 0, 0, 0), (342, .iload 5, 0, 0, 0, 0), (344, .iconst 1, 0, 0, 0, 0), (345, .iadd, 0, 0, 0, 0), (346, .iaload, 0, 0, 0, 0), (347, .aload_n 0, 0, 0, 0, 0), (348, .iload 5, 0, 0, 0, 0), (350, .iconst 2, 0, 0, 0, 0), (351, .iadd, 0, 0, 0, 0), (352, .iaload, 0, 0, 0, 0), (353, .aload_n 0, 0, 0, 0, 0), (354, .iload 5, 0, 0, 0, 0), (356, .iconst 3, 0, 0, 0, 0), (357, .iadd, 0, 0, 0, 0), (358, .iaload, 0, 0, 0, 0), (359, .aload_n 0, 0, 0, 0, 0), (360, .iload 5, 0, 0, 0, 0), (362, .iconst 4, 0, 0, 0, 0), (363, .iadd, 0, 0, 0, 0), (364, .iaload, 0, 0, 0, 0), (365, .aload_n 3, 0, 0, 0, 0), (366, .invokestatic 111, 0, 232, 6, 743), (369, .istore 6, 0, 0, 0, 0), (371, .aload_n 2, 0, 0, 0, 0), (372, .aload_n 0, 0, 0, 0, 0), (373, .iload 5, 0, 0, 0, 0), (375, .iconst 1, 0, 0, 0, 0), (376, .iadd, 0, 0, 0, 0), (377, .iaload, 0, 0, 0, 0), (378, .aload_n 0, 0, 0, 0, 0), (379, .iload 5, 0, 0, 0, 0), (381, .iconst 2, 0, 0, 0, 0), (382, .iadd, 0, 0, 0, 0), (383, .iaload, 0, 0, 0, 0), (384, .aload_n 0, 0, 0, 0, 0), (385, .iload 5, 0, 0, 0, 0), (387, .iconst 3, 0, 0, 0, 0), (388, .iadd, 0, 0, 0, 0), (389, .iaload, 0, 0, 0, 0), (390, .aload_n 0, 0, 0, 0, 0), (391, .iload 5, 0, 0, 0, 0), (393, .iconst 4, 0, 0, 0, 0), (394, .iadd, 0, 0, 0, 0), (395, .iaload, 0, 0, 0, 0), (396, .invokevirtual 114, 0, 173, 4, 1132), (399, .istore 7, 0, 0, 0, 0), (401, .aload_n 2, 0, 0, 0, 0), (402, .invokevirtual 100, 0, 158, 0, 996), (405, .iload 6, 0, 0, 0, 0), (407, .if_icmp .eq 5, 0, 0, 0, 0), (410, .iconst 0, 0, 0, 0, 0), (411, .ireturn, 0, 0, 0, 0), (412, .iload 6, 0, 0, 0, 0), (414, .ifCond .ne 15, 0, 0, 0, 0), (417, .aload_n 3, 0, 0, 0, 0), (418, .iconst 0, 0, 0, 0, 0), (419, .laload, 0, 0, 0, 0), (420, .iload 7, 0, 0, 0, 0), (422, .i2l, 0, 0, 0, 0), (423, .lcmp, 0, 0, 0, 0), (424, .ifCond .eq 5, 0, 0, 0, 0), (427, .iconst 0, 0, 0, 0, 0), (428, .ireturn, 0, 0, 0, 0), (429, .goto 1258, 0, 0, 0, 0), (432, .aload_n 1, 0, 0, 0, 0), (433, .invokevirtual 115, 0, 81, 0, 317), (436, .aload_n 2, 0, 0, 0, 0), (437, .invokevirtual 118, 0, 174, 0, 1136), (440, .if_icmp .eq 1247, 0, 0, 0, 0), (443, .iconst 0, 0, 0, 0, 0), (444, .ireturn, 0, 0, 0, 0), (445, .aload_n 1, 0, 0, 0, 0), (446, .aload_n 0, 0, 0, 0, 0), (447, .iload 5, 0, 0, 0, 0), (449, .iconst 1, 0, 0, 0, 0), (450, .iadd, 0, 0, 0, 0), (451, .iaload, 0, 0, 0, 0), (452, .aload_n 0, 0, 0, 0, 0), (453, .iload 5, 0, 0, 0, 0), (455, .iconst 2, 0, 0, 0, 0), (456, .iadd, 0, 0, 0, 0), (457, .iaload, 0, 0, 0, 0), (458, .aload_n 3, 0, 0, 0, 0), (459, .invokestatic 119, 0, 233, 4, 751), (462, .istore 6, 0, 0, 0, 0), (464, .aload_n 2, 0, 0, 0, 0), (465, .aload_n 0, 0, 0, 0, 0), (466, .iload 5, 0, 0, 0, 0), (468, .iconst 1, 0, 0, 0, 0), (469, .iadd, 0, 0, 0, 0), (470, .iaload, 0, 0, 0, 0), (471, .aload_n 0, 0, 0, 0, 0), (472, .iload 5, 0, 0, 0, 0), (474, .iconst 2, 0, 0, 0, 0), (475, .iadd, 0, 0, 0, 0), (476, .iaload, 0, 0, 0, 0), (477, .invokevirtual 121, 0, 175, 2, 1144), (480, .istore 7, 0, 0, 0, 0), (482, .aload_n 2, 0, 0, 0, 0), (483, .invokevirtual 100, 0, 158, 0, 996), (486, .iload 6, 0, 0, 0, 0), (488, .if_icmp .eq 5, 0, 0, 0, 0), (491, .iconst 0, 0, 0, 0, 0), (492, .ireturn, 0, 0, 0, 0), (493, .iload 6, 0, 0, 0, 0), (495, .ifCond .ne 15, 0, 0, 0, 0), (498, .aload_n 3, 0, 0, 0, 0), (499, .iconst 0, 0, 0, 0, 0), (500, .laload, 0, 0, 0, 0), (501, .iload 7, 0, 0, 0, 0), (503, .i2l, 0, 0, 0, 0), (504, .lcmp, 0, 0, 0, 0), (505, .ifCond .eq 5, 0, 0, 0, 0), (508, .iconst 0, 0, 0, 0, 0), (509, .ireturn, 0, 0, 0, 0), (510, .goto 1177, 0, 0, 0, 0), (513, .aload_n 1, 0, 0, 0, 0), (514, .aload_n 0, 0, 0, 0, 0), (515, .iload 5, 0, 0, 0, 0), (517, .iconst 1, 0, 0, 0, 0), (518, .iadd, 0, 0, 0, 0), (519, .iaload, 0, 0, 0, 0), (520, .aload_n 3, 0, 0, 0, 0), (521, .invokestatic 122, 0, 234, 3, 761), (524, .istore 6, 0, 0, 0, 0), (526, .aload_n 2, 0, 0, 0, 0), (527, .aload_n 0, 0, 0, 0, 0), (528, .iload 5, 0, 0, 0, 0), (530, .iconst 1, 0, 0, 0, 0), (531, .iadd, 0, 0, 0, 0), (532, .iaload, 0, 0, 0, 0), (533, .invokevirtual 124, 0, 176, 1, 1148), (536, .istore 7, 0, 0, 0, 0), (538, .aload_n 2, 0, 0, 0, 0), (539, .invokevirtual 100, 0, 158, 0, 996), (542, .iload 6, 0, 0, 0, 0), (544, .if_icmp .eq 5, 0, 0, 0, 0), (547, .iconst 0, 0, 0, 0, 0), (548, .ireturn, 0, 0, 0, 0), (549, .iload 6, 0, 0, 0, 0), (551, .ifCond .ne 15, 0, 0, 0, 0), (554, .aload_n 3, 0, 0, 0, 0), (555, .iconst 0, 0, 0, 0, 0), (556, .laload, 0, 0, 0, 0), (557, .iload 7, 0, 0, 0, 0), (559, .i2l, 0, 0, 0, 0), (560, .lcmp, 0, 0, 0, 0), (561, .ifCond .eq 5, 0, 0, 0, 0), (564, .iconst 0, 0, 0, 0, 0), (565, .ireturn, 0, 0, 0, 0), (566, .goto 1121, 0, 0, 0, 0), (569, .aload_n 1, 0, 0, 0, 0), (570, .aload_n 0, 0, 0, 0, 0), (571, .iload 5, 0, 0, 0, 0), (573, .iconst 1, 0, 0, 0, 0), (574, .iadd, 0, 0, 0, 0), (575, .iaload, 0, 0, 0, 0), (576, .aload_n 0, 0, 0, 0, 0), (577, .iload 5, 0, 0, 0, 0), (579, .iconst 2, 0, 0, 0, 0), (580, .iadd, 0, 0, 0, 0), (581, .iaload, 0, 0, 0, 0), (582, .aload_n 3, 0, 0, 0, 0), (583, .invokestatic 125, 0, 235, 4, 772), (586, .istore 6, 0, 0, 0, 0), (588, .aload_n 2, 0, 0, 0, 0), (589, .aload_n 0, 0, 0, 0, 0), (590, .iload 5, 0, 0, 0, 0), (592, .iconst 1, 0, 0, 0, 0), (593, .iadd, 0, 0, 0, 0), (594, .iaload, 0, 0, 0, 0), (595, .aload_n 0, 0, 0, 0, 0), (596, .iload 5, 0, 0, 0, 0), (598, .iconst 2, 0, 0, 0, 0), (599, .iadd, 0, 0, 0, 0), (600, .iaload, 0, 0, 0, 0), (601, .invokevirtual 127, 0, 177, 2, 1152), (604, .istore 7, 0, 0, 0, 0), (606, .aload_n 2, 0, 0, 0, 0), (607, .invokevirtual 100, 0, 158, 0, 996), (610, .iload 6, 0, 0, 0, 0), (612, .if_icmp .eq 5, 0, 0, 0, 0), (615, .iconst 0, 0, 0, 0, 0), (616, .ireturn, 0, 0, 0, 0), (617, .iload 6, 0, 0, 0, 0), (619, .ifCond .ne 15, 0, 0, 0, 0), (622, .aload_n 3, 0, 0, 0, 0), (623, .iconst 0, 0, 0, 0, 0), (624, .laload, 0, 0, 0, 0), (625, .iload 7, 0, 0, 0, 0), (627, .i2l, 0, 0, 0, 0), (628, .lcmp, 0, 0, 0, 0), (629, .ifCond .eq 5, 0, 0, 0, 0), (632, .iconst 0, 0, 0, 0, 0), (633, .ireturn, 0, 0, 0, 0), (634, .goto 1053, 0, 0, 0, 0), (637, .aload_n 1, 0, 0, 0, 0), (638, .aload_n 0, 0, 0, 0, 0), (639, .iload 5, 0, 0, 0, 0), (641, .iconst 1, 0, 0, 0, 0), (642, .iadd, 0, 0, 0, 0), (643, .iaload, 0, 0, 0, 0), (644, .aload_n 3, 0, 0, 0, 0), (645, .invokestatic 128, 0, 236, 3, 797), (648, .istore 6, 0, 0, 0, 0), (650, .aload_n 2, 0, 0, 0, 0), (651, .aload_n 0, 0, 0, 0, 0), (652, .iload 5, 0, 0, 0, 0), (654, .iconst 1, 0, 0, 0, 0), (655, .iadd, 0, 0, 0, 0), (656, .iaload, 0, 0, 0, 0), (657, .invokevirtual 130, 0, 179, 1, 1156), (660, .istore 7, 0, 0, 0, 0), (662, .aload_n 2, 0, 0, 0, 0), (663, .invokevirtual 100, 0, 158, 0, 996), (666, .iload 6, 0, 0, 0, 0), (668, .if_icmp .eq 5, 0, 0, 0, 0), (671, .iconst 0, 0, 0, 0, 0), (672, .ireturn, 0, 0, 0, 0), (673, .iload 6, 0, 0, 0, 0), (675, .ifCond .ne 15, 0, 0, 0, 0), (678, .aload_n 3, 0, 0, 0, 0), (679, .iconst 0, 0, 0, 0, 0), (680, .laload, 0, 0, 0, 0), (681, .iload 7, 0, 0, 0, 0), (683, .i2l, 0, 0, 0, 0), (684, .lcmp, 0, 0, 0, 0), (685, .ifCond .eq 5, 0, 0, 0, 0), (688, .iconst 0, 0, 0, 0, 0), (689, .ireturn, 0, 0, 0, 0), (690, .goto 997, 0, 0, 0, 0), (693, .aload_n 1, 0, 0, 0, 0), (694, .aload_n 0, 0, 0, 0, 0), (695, .iload 5, 0, 0, 0, 0), (697, .iconst 1, 0, 0, 0, 0), (698, .iadd, 0, 0, 0, 0), (699, .iaload, 0, 0, 0, 0), (700, .aload_n 3, 0, 0, 0, 0), (701, .invokestatic 131, 0, 237, 3, 805), (704, .istore 6, 0, 0, 0, 0), (706, .aload_n 2, 0, 0, 0, 0), (707, .aload_n 0, 0, 0, 0, 0), (708, .iload 5, 0, 0, 0, 0), (710, .iconst 1, 0, 0, 0, 0), (711, .iadd, 0, 0, 0, 0), (712, .iaload, 0, 0, 0, 0), (713, .invokevirtual 133, 0, 180, 1, 1455), (716, .istore 7, 0, 0, 0, 0), (718, .aload_n 2, 0, 0, 0, 0), (719, .invokevirtual 100, 0, 158, 0, 996), (722, .iload 6, 0, 0, 0, 0), (724, .if_icmp .eq 5, 0, 0, 0, 0), (727, .iconst 0, 0, 0, 0, 0), (728, .ireturn, 0, 0, 0, 0), (729, .iload 6, 0, 0, 0, 0), (731, .ifCond .ne 15, 0, 0, 0, 0), (734, .aload_n 3, 0, 0, 0, 0), (735, .iconst 0, 0, 0, 0, 0), (736, .laload, 0, 0, 0, 0), (737, .iload 7, 0, 0, 0, 0), (739, .i2l, 0, 0, 0, 0), (740, .lcmp, 0, 0, 0, 0), (741, .ifCond .eq 5, 0, 0, 0, 0), (744, .iconst 0, 0, 0, 0, 0), (745, .ireturn, 0, 0, 0, 0), (746, .goto 941, 0, 0, 0, 0), (749, .aload_n 1, 0, 0, 0, 0), (750, .aload_n 0, 0, 0, 0, 0), (751, .iload 5, 0, 0, 0, 0), (753, .iconst 1, 0, 0, 0, 0), (754, .iadd, 0, 0, 0, 0), (755, .iaload, 0, 0, 0, 0), (756, .aload_n 3, 0, 0, 0, 0), (757, .invokestatic 134, 0, 238, 3, 816), (760, .istore 6, 0, 0, 0, 0), (762, .aload_n 2, 0, 0, 0, 0), (763, .aload_n 0, 0, 0, 0, 0), (764, .iload 5, 0, 0, 0, 0), (766, .iconst 1, 0, 0, 0, 0), (767, .iadd, 0, 0, 0, 0), (768, .iaload, 0, 0, 0, 0), (769, .invokevirtual 136, 0, 182, 1, 1459), (772, .istore 7, 0, 0, 0, 0), (774, .aload_n 2, 0, 0, 0, 0), (775, .invokevirtual 100, 0, 158, 0, 996), (778, .iload 6, 0, 0, 0, 0), (780, .if_icmp .eq 5, 0, 0, 0, 0), (783, .iconst 0, 0, 0, 0, 0), (784, .ireturn, 0, 0, 0, 0), (785, .iload 6, 0, 0, 0, 0), (787, .ifCond .ne 15, 0, 0, 0, 0), (790, .aload_n 3, 0, 0, 0, 0), (791, .iconst 0, 0, 0, 0, 0), (792, .laload, 0, 0, 0, 0), (793, .iload 7, 0, 0, 0, 0), (795, .i2l, 0, 0, 0, 0), (796, .lcmp, 0, 0, 0, 0), (797, .ifCond .eq 5, 0, 0, 0, 0), (800, .iconst 0, 0, 0, 0, 0), (801, .ireturn, 0, 0, 0, 0), (802, .goto 885, 0, 0, 0, 0), (805, .aload_n 1, 0, 0, 0, 0), (806, .aload_n 0, 0, 0, 0, 0), (807, .iload 5, 0, 0, 0, 0), (809, .iconst 1, 0, 0, 0, 0), (810, .iadd, 0, 0, 0, 0), (811, .iaload, 0, 0, 0, 0), (812, .aload_n 3, 0, 0, 0, 0), (813, .invokestatic 137, 0, 239, 3, 824), (816, .istore 6, 0, 0, 0, 0), (818, .aload_n 2, 0, 0, 0, 0), (819, .aload_n 0, 0, 0, 0, 0), (820, .iload 5, 0, 0, 0, 0), (822, .iconst 1, 0, 0, 0, 0), (823, .iadd, 0, 0, 0, 0), (824, .iaload, 0, 0, 0, 0), (825, .invokevirtual 139, 0, 183, 1, 1472), (828, .istore 7, 0, 0, 0, 0), (830, .aload_n 2, 0, 0, 0, 0), (831, .invokevirtual 100, 0, 158, 0, 996), (834, .iload 6, 0, 0, 0, 0), (836, .if_icmp .eq 5, 0, 0, 0, 0), (839, .iconst 0, 0, 0, 0, 0), (840, .ireturn, 0, 0, 0, 0), (841, .iload 6, 0, 0, 0, 0), (843, .ifCond .ne 15, 0, 0, 0, 0), (846, .aload_n 3, 0, 0, 0, 0), (847, .iconst 0, 0, 0, 0, 0), (848, .laload, 0, 0, 0, 0), (849, .iload 7, 0, 0, 0, 0), (851, .i2l, 0, 0, 0, 0), (852, .lcmp, 0, 0, 0, 0), (853, .ifCond .eq 5, 0, 0, 0, 0), (856, .iconst 0, 0, 0, 0, 0), (857, .ireturn, 0, 0, 0, 0), (858, .goto 829, 0, 0, 0, 0), (861, .aload_n 1, 0, 0, 0, 0), (862, .aload_n 0, 0, 0, 0, 0), (863, .iload 5, 0, 0, 0, 0), (865, .iconst 1, 0, 0, 0, 0), (866, .iadd, 0, 0, 0, 0), (867, .iaload, 0, 0, 0, 0), (868, .aload_n 0, 0, 0, 0, 0), (869, .iload 5, 0, 0, 0, 0), (871, .iconst 2, 0, 0, 0, 0), (872, .iadd, 0, 0, 0, 0), (873, .iaload, 0, 0, 0, 0), (874, .aload_n 0, 0, 0, 0, 0), (875, .iload 5, 0, 0, 0, 0), (877, .iconst 3, 0, 0, 0, 0), (878, .iadd, 0, 0, 0, 0), (879, .iaload, 0, 0, 0, 0), (880, .aload_n 3, 0, 0, 0, 0), (881, .invokestatic 140, 0, 240, 5, 832), (884, .istore 6, 0, 0, 0, 0), (886, .aload_n 2, 0, 0, 0, 0), (887, .aload_n 0, 0, 0, 0, 0), (888, .iload 5, 0, 0, 0, 0), (890, .iconst 1, 0, 0, 0, 0), (891, .iadd, 0, 0, 0, 0), (892, .iaload, 0, 0, 0, 0), (893, .aload_n 0, 0, 0, 0, 0), (894, .iload 5, 0, 0, 0, 0), (896, .iconst 2, 0, 0, 0, 0), (897, .iadd, 0, 0, 0, 0), (898, .iaload, 0, 0, 0, 0), (899, .aload_n 0, 0, 0, 0, 0), (900, .iload 5, 0, 0, 0, 0), (902, .iconst 3, 0, 0, 0, 0), (903, .iadd, 0, 0, 0, 0), (904, .iaload, 0, 0, 0, 0), (905, .invokevirtual 143, 0, 186, 3, 1476), (908, .istore 7, 0, 0, 0, 0), (910, .aload_n 2, 0, 0, 0, 0), (911, .invokevirtual 100, 0, 158, 0, 996), (914, .iload 6, 0, 0, 0, 0), (916, .if_icmp .eq 5, 0, 0, 0, 0), (919, .iconst 0, 0, 0, 0, 0), (920, .ireturn, 0, 0, 0, 0), (921, .iload 6, 0, 0, 0, 0), (923, .ifCond .ne 15, 0, 0, 0, 0), (926, .aload_n 3, 0, 0, 0, 0), (927, .iconst 0, 0, 0, 0, 0), (928, .laload, 0, 0, 0, 0), (929, .iload 7, 0, 0, 0, 0), (931, .i2l, 0, 0, 0, 0), (932, .lcmp, 0, 0, 0, 0), (933, .ifCond .eq 5, 0, 0, 0, 0), (936, .iconst 0, 0, 0, 0, 0), (937, .ireturn, 0, 0, 0, 0), (938, .goto 749, 0, 0, 0, 0), (941, .aload_n 1, 0, 0, 0, 0), (942, .aload_n 0, 0, 0, 0, 0), (943, .iload 5, 0, 0, 0, 0), (945, .iconst 1, 0, 0, 0, 0), (946, .iadd, 0, 0, 0, 0), (947, .iaload, 0, 0, 0, 0), (948, .aload_n 0, 0, 0, 0, 0), (949, .iload 5, 0, 0, 0, 0), (951, .iconst 2, 0, 0, 0, 0), (952, .iadd, 0, 0, 0, 0), (953, .iaload, 0, 0, 0, 0), (954, .aload_n 0, 0, 0, 0, 0), (955, .iload 5, 0, 0, 0, 0), (957, .iconst 3, 0, 0, 0, 0), (958, .iadd, 0, 0, 0, 0), (959, .iaload, 0, 0, 0, 0), (960, .aload_n 3, 0, 0, 0, 0), (961, .invokestatic 144, 0, 241, 5, 841), (964, .istore 6, 0, 0, 0, 0), (966, .aload_n 2, 0, 0, 0, 0), (967, .aload_n 0, 0, 0, 0, 0), (968, .iload 5, 0, 0, 0, 0), (970, .iconst 1, 0, 0, 0, 0), (971, .iadd, 0, 0, 0, 0), (972, .iaload, 0, 0, 0, 0), (973, .aload_n 0, 0, 0, 0, 0), (974, .iload 5, 0, 0, 0, 0), (976, .iconst 2, 0, 0, 0, 0), (977, .iadd, 0, 0, 0, 0), (978, .iaload, 0, 0, 0, 0), (979, .aload_n 0, 0, 0, 0, 0), (980, .iload 5, 0, 0, 0, 0), (982, .iconst 3, 0, 0, 0, 0), (983, .iadd, 0, 0, 0, 0), (984, .iaload, 0, 0, 0, 0), (985, .invokevirtual 146, 0, 187, 3, 1496), (988, .istore 7, 0, 0, 0, 0), (990, .aload_n 2, 0, 0, 0, 0), (991, .invokevirtual 100, 0, 158, 0, 996), (994, .iload 6, 0, 0, 0, 0), (996, .if_icmp .eq 5, 0, 0, 0, 0), (999, .iconst 0, 0, 0, 0, 0), (1000, .ireturn, 0, 0, 0, 0), (1001, .iload 6, 0, 0, 0, 0), (1003, .ifCond .ne 15, 0, 0, 0, 0), (1006, .aload_n 3, 0, 0, 0, 0), (1007, .iconst 0, 0, 0, 0, 0), (1008, .laload, 0, 0, 0, 0), (1009, .iload 7, 0, 0, 0, 0), (1011, .i2l, 0, 0, 0, 0), (1012, .lcmp, 0, 0, 0, 0), (1013, .ifCond .eq 5, 0, 0, 0, 0), (1016, .iconst 0, 0, 0, 0, 0), (1017, .ireturn, 0, 0, 0, 0), (1018, .goto 669, 0, 0, 0, 0), (1021, .aload_n 1, 0, 0, 0, 0), (1022, .aload_n 0, 0, 0, 0, 0), (1023, .iload 5, 0, 0, 0, 0), (1025, .iconst 1, 0, 0, 0, 0), (1026, .iadd, 0, 0, 0, 0), (1027, .iaload, 0, 0, 0, 0), (1028, .aload_n 0, 0, 0, 0, 0), (1029, .iload 5, 0, 0, 0, 0), (1031, .iconst 2, 0, 0, 0, 0), (1032, .iadd, 0, 0, 0, 0), (1033, .iaload, 0, 0, 0, 0), (1034, .aload_n 3, 0, 0, 0, 0), (1035, .invokestatic 147, 0, 242, 4, 848), (1038, .istore 6, 0, 0, 0, 0), (1040, .aload_n 2, 0, 0, 0, 0), (1041, .aload_n 0, 0, 0, 0, 0), (1042, .iload 5, 0, 0, 0, 0), (1044, .iconst 1, 0, 0, 0, 0), (1045, .iadd, 0, 0, 0, 0), (1046, .iaload, 0, 0, 0, 0), (1047, .aload_n 0, 0, 0, 0, 0), (1048, .iload 5, 0, 0, 0, 0), (1050, .iconst 2, 0, 0, 0, 0), (1051, .iadd, 0, 0, 0, 0), (1052, .iaload, 0, 0, 0, 0), (1053, .invokevirtual 149, 0, 189, 2, 1500), (1056, .istore 7, 0, 0, 0, 0), (1058, .aload_n 2, 0, 0, 0, 0), (1059, .invokevirtual 100, 0, 158, 0, 996), (1062, .iload 6, 0, 0, 0, 0), (1064, .if_icmp .eq 5, 0, 0, 0, 0), (1067, .iconst 0, 0, 0, 0, 0), (1068, .ireturn, 0, 0, 0, 0), (1069, .iload 6, 0, 0, 0, 0), (1071, .ifCond .ne 15, 0, 0, 0, 0), (1074, .aload_n 3, 0, 0, 0, 0), (1075, .iconst 0, 0, 0, 0, 0), (1076, .laload, 0, 0, 0, 0), (1077, .iload 7, 0, 0, 0, 0), (1079, .i2l, 0, 0, 0, 0), (1080, .lcmp, 0, 0, 0, 0), (1081, .ifCond .eq 5, 0, 0, 0, 0), (1084, .iconst 0, 0, 0, 0, 0), (1085, .ireturn, 0, 0, 0, 0), (1086, .goto 601, 0, 0, 0, 0), (1089, .aload_n 1, 0, 0, 0, 0), (1090, .aload_n 0, 0, 0, 0, 0), (1091, .iload 5, 0, 0, 0, 0), (1093, .iconst 1, 0, 0, 0, 0), (1094, .iadd, 0, 0, 0, 0), (1095, .iaload, 0, 0, 0, 0), (1096, .aload_n 0, 0, 0, 0, 0), (1097, .iload 5, 0, 0, 0, 0), (1099, .iconst 2, 0, 0, 0, 0), (1100, .iadd, 0, 0, 0, 0), (1101, .iaload, 0, 0, 0, 0), (1102, .aload_n 3, 0, 0, 0, 0), (1103, .invokestatic 150, 0, 243, 4, 861), (1106, .istore 6, 0, 0, 0, 0), (1108, .aload_n 2, 0, 0, 0, 0), (1109, .aload_n 0, 0, 0, 0, 0), (1110, .iload 5, 0, 0, 0, 0), (1112, .iconst 1, 0, 0, 0, 0), (1113, .iadd, 0, 0, 0, 0), (1114, .iaload, 0, 0, 0, 0), (1115, .aload_n 0, 0, 0, 0, 0), (1116, .iload 5, 0, 0, 0, 0), (1118, .iconst 2, 0, 0, 0, 0), (1119, .iadd, 0, 0, 0, 0), (1120, .iaload, 0, 0, 0, 0), (1121, .invokevirtual 152, 0, 190, 2, 1513), (1124, .istore 7, 0, 0, 0, 0), (1126, .aload_n 2, 0, 0, 0, 0), (1127, .invokevirtual 100, 0, 158, 0, 996), (1130, .iload 6, 0, 0, 0, 0), (1132, .if_icmp .eq 5, 0, 0, 0, 0), (1135, .iconst 0, 0, 0, 0, 0), (1136, .ireturn, 0, 0, 0, 0), (1137, .iload 6, 0, 0, 0, 0), (1139, .ifCond .ne 15, 0, 0, 0, 0), (1142, .aload_n 3, 0, 0, 0, 0), (1143, .iconst 0, 0, 0, 0, 0), (1144, .laload, 0, 0, 0, 0), (1145, .iload 7, 0, 0, 0, 0), (1147, .i2l, 0, 0, 0, 0), (1148, .lcmp, 0, 0, 0, 0), (1149, .ifCond .eq 5, 0, 0, 0, 0), (1152, .iconst 0, 0, 0, 0, 0), (1153, .ireturn, 0, 0, 0, 0), (1154, .goto 533, 0, 0, 0, 0), (1157, .aload_n 1, 0, 0, 0, 0), (1158, .aload_n 0, 0, 0, 0, 0), (1159, .iload 5, 0, 0, 0, 0), (1161, .iconst 1, 0, 0, 0, 0), (1162, .iadd, 0, 0, 0, 0), (1163, .iaload, 0, 0, 0, 0), (1164, .aload_n 3, 0, 0, 0, 0), (1165, .invokestatic 153, 0, 244, 3, 869), (1168, .istore 6, 0, 0, 0, 0), (1170, .aload_n 2, 0, 0, 0, 0), (1171, .aload_n 0, 0, 0, 0, 0), (1172, .iload 5, 0, 0, 0, 0), (1174, .iconst 1, 0, 0, 0, 0), (1175, .iadd, 0, 0, 0, 0), (1176, .iaload, 0, 0, 0, 0), (1177, .invokevirtual 155, 0, 191, 1, 1535), (1180, .lstore 7, 0, 0, 0, 0), (1182, .aload_n 2, 0, 0, 0, 0), (1183, .invokevirtual 100, 0, 158, 0, 996), (1186, .iload 6, 0, 0, 0, 0), (1188, .if_icmp .eq 5, 0, 0, 0, 0), (1191, .iconst 0, 0, 0, 0, 0), (1192, .ireturn, 0, 0, 0, 0), (1193, .iload 6, 0, 0, 0, 0), (1195, .ifCond .ne 14, 0, 0, 0, 0), (1198, .aload_n 3, 0, 0, 0, 0), (1199, .iconst 0, 0, 0, 0, 0), (1200, .laload, 0, 0, 0, 0), (1201, .lload 7, 0, 0, 0, 0), (1203, .lcmp, 0, 0, 0, 0), (1204, .ifCond .eq 5, 0, 0, 0, 0), (1207, .iconst 0, 0, 0, 0, 0), (1208, .ireturn, 0, 0, 0, 0), (1209, .goto 478, 0, 0, 0, 0), (1212, .aload_n 1, 0, 0, 0, 0), (1213, .aload_n 0, 0, 0, 0, 0), (1214, .iload 5, 0, 0, 0, 0), (1216, .iconst 1, 0, 0, 0, 0), (1217, .iadd, 0, 0, 0, 0), (1218, .iaload, 0, 0, 0, 0), (1219, .aload 4, 0, 0, 0, 0), (1221, .invokestatic 156, 0, 245, 3, 876), (1224, .istore 6, 0, 0, 0, 0), (1226, .aload_n 2, 0, 0, 0, 0), (1227, .aload_n 0, 0, 0, 0, 0), (1228, .iload 5, 0, 0, 0, 0), (1230, .iconst 1, 0, 0, 0, 0), (1231, .iadd, 0, 0, 0, 0), (1232, .iaload, 0, 0, 0, 0), (1233, .invokevirtual 159, 0, 192, 1, 1543), (1236, .dstore 7, 0, 0, 0, 0), (1238, .aload_n 2, 0, 0, 0, 0), (1239, .invokevirtual 100, 0, 158, 0, 996), (1242, .iload 6, 0, 0, 0, 0), (1244, .if_icmp .eq 5, 0, 0, 0, 0), (1247, .iconst 0, 0, 0, 0, 0), (1248, .ireturn, 0, 0, 0, 0), (1249, .iload 6, 0, 0, 0, 0), (1251, .ifCond .ne 35, 0, 0, 0, 0), (1254, .aload 4, 0, 0, 0, 0), (1256, .iconst 0, 0, 0, 0, 0), (1257, .daload, 0, 0, 0, 0), (1258, .dload 7, 0, 0, 0, 0), (1260, .dcmp .l, 0, 0, 0, 0), (1261, .ifCond .eq 25, 0, 0, 0, 0), (1264, .aload 4, 0, 0, 0, 0), (1266, .iconst 0, 0, 0, 0, 0), (1267, .daload, 0, 0, 0, 0), (1268, .aload 4, 0, 0, 0, 0), (1270, .iconst 0, 0, 0, 0, 0), (1271, .daload, 0, 0, 0, 0), (1272, .dcmp .l, 0, 0, 0, 0), (1273, .ifCond .eq 11, 0, 0, 0, 0), (1276, .dload 7, 0, 0, 0, 0), (1278, .dload 7, 0, 0, 0, 0), (1280, .dcmp .l, 0, 0, 0, 0), (1281, .ifCond .ne 5, 0, 0, 0, 0), (1284, .iconst 0, 0, 0, 0, 0), (1285, .ireturn, 0, 0, 0, 0), (1286, .goto 401, 0, 0, 0, 0), (1289, .aload_n 1, 0, 0, 0, 0), (1290, .aload_n 0, 0, 0, 0, 0), (1291, .iload 5, 0, 0, 0, 0), (1293, .iconst 1, 0, 0, 0, 0), (1294, .iadd, 0, 0, 0, 0), (1295, .iaload, 0, 0, 0, 0), (1296, .aload_n 0, 0, 0, 0, 0), (1297, .iload 5, 0, 0, 0, 0), (1299, .iconst 2, 0, 0, 0, 0), (1300, .iadd, 0, 0, 0, 0), (1301, .iaload, 0, 0, 0, 0), (1302, .aload_n 3, 0, 0, 0, 0), (1303, .invokestatic 160, 0, 246, 4, 887), (1306, .istore 6, 0, 0, 0, 0), (1308, .aload_n 2, 0, 0, 0, 0), (1309, .aload_n 0, 0, 0, 0, 0), (1310, .iload 5, 0, 0, 0, 0), (1312, .iconst 1, 0, 0, 0, 0), (1313, .iadd, 0, 0, 0, 0), (1314, .iaload, 0, 0, 0, 0), (1315, .aload_n 0, 0, 0, 0, 0), (1316, .iload 5, 0, 0, 0, 0), (1318, .iconst 2, 0, 0, 0, 0), (1319, .iadd, 0, 0, 0, 0), (1320, .iaload, 0, 0, 0, 0), (1321, .invokevirtual 162, 0, 193, 2, 1551), (1324, .istore 7, 0, 0, 0, 0), (1326, .aload_n 2, 0, 0, 0, 0), (1327, .invokevirtual 100, 0, 158, 0, 996), (1330, .iload 6, 0, 0, 0, 0), (1332, .if_icmp .eq 5, 0, 0, 0, 0), (1335, .iconst 0, 0, 0, 0, 0), (1336, .ireturn, 0, 0, 0, 0), (1337, .iload 6, 0, 0, 0, 0), (1339, .ifCond .ne 15, 0, 0, 0, 0), (1342, .aload_n 3, 0, 0, 0, 0), (1343, .iconst 0, 0, 0, 0, 0), (1344, .laload, 0, 0, 0, 0), (1345, .iload 7, 0, 0, 0, 0), (1347, .i2l, 0, 0, 0, 0), (1348, .lcmp, 0, 0, 0, 0), (1349, .ifCond .eq 5, 0, 0, 0, 0), (1352, .iconst 0, 0, 0, 0, 0), (1353, .ireturn, 0, 0, 0, 0), (1354, .goto 333, 0, 0, 0, 0), (1357, .aload_n 1, 0, 0, 0, 0), (1358, .aload_n 0, 0, 0, 0, 0), (1359, .iload 5, 0, 0, 0, 0), (1361, .iconst 1, 0, 0, 0, 0), (1362, .iadd, 0, 0, 0, 0), (1363, .iaload, 0, 0, 0, 0), (1364, .aload_n 3, 0, 0, 0, 0), (1365, .invokestatic 163, 0, 247, 3, 896), (1368, .istore 6, 0, 0, 0, 0), (1370, .aload_n 2, 0, 0, 0, 0), (1371, .aload_n 0, 0, 0, 0, 0), (1372, .iload 5, 0, 0, 0, 0), (1374, .iconst 1, 0, 0, 0, 0), (1375, .iadd, 0, 0, 0, 0), (1376, .iaload, 0, 0, 0, 0), (1377, .invokevirtual 165, 0, 194, 1, 1556), (1380, .istore 7, 0, 0, 0, 0), (1382, .aload_n 2, 0, 0, 0, 0), (1383, .invokevirtual 100, 0, 158, 0, 996), (1386, .iload 6, 0, 0, 0, 0), (1388, .if_icmp .eq 5, 0, 0, 0, 0), (1391, .iconst 0, 0, 0, 0, 0), (1392, .ireturn, 0, 0, 0, 0), (1393, .iload 6, 0, 0, 0, 0), (1395, .ifCond .ne 15, 0, 0, 0, 0), (1398, .aload_n 3, 0, 0, 0, 0), (1399, .iconst 0, 0, 0, 0, 0), (1400, .laload, 0, 0, 0, 0), (1401, .iload 7, 0, 0, 0, 0), (1403, .i2l, 0, 0, 0, 0), (1404, .lcmp, 0, 0, 0, 0), (1405, .ifCond .eq 5, 0, 0, 0, 0), (1408, .iconst 0, 0, 0, 0, 0), (1409, .ireturn, 0, 0, 0, 0), (1410, .goto 277, 0, 0, 0, 0), (1413, .aload_n 1, 0, 0, 0, 0), (1414, .aload_n 0, 0, 0, 0, 0), (1415, .iload 5, 0, 0, 0, 0), (1417, .iconst 1, 0, 0, 0, 0), (1418, .iadd, 0, 0, 0, 0), (1419, .iaload, 0, 0, 0, 0), (1420, .aload_n 0, 0, 0, 0, 0), (1421, .iload 5, 0, 0, 0, 0), (1423, .iconst 2, 0, 0, 0, 0), (1424, .iadd, 0, 0, 0, 0), (1425, .iaload, 0, 0, 0, 0), (1426, .aload_n 3, 0, 0, 0, 0), (1427, .invokestatic 166, 0, 248, 4, 908), (1430, .istore 6, 0, 0, 0, 0), (1432, .aload_n 2, 0, 0, 0, 0), (1433, .aload_n 0, 0, 0, 0, 0), (1434, .iload 5, 0, 0, 0, 0), (1436, .iconst 1, 0, 0, 0, 0), (1437, .iadd, 0, 0, 0, 0), (1438, .iaload, 0, 0, 0, 0), (1439, .aload_n 0, 0, 0, 0, 0), (1440, .iload 5, 0, 0, 0, 0), (1442, .iconst 2, 0, 0, 0, 0), (1443, .iadd, 0, 0, 0, 0), (1444, .iaload, 0, 0, 0, 0), (1445, .invokevirtual 168, 0, 195, 2, 1562), (1448, .istore 7, 0, 0, 0, 0), (1450, .aload_n 2, 0, 0, 0, 0), (1451, .invokevirtual 100, 0, 158, 0, 996), (1454, .iload 6, 0, 0, 0, 0), (1456, .if_icmp .eq 5, 0, 0, 0, 0), (1459, .iconst 0, 0, 0, 0, 0), (1460, .ireturn, 0, 0, 0, 0), (1461, .iload 6, 0, 0, 0, 0), (1463, .ifCond .ne 15, 0, 0, 0, 0), (1466, .aload_n 3, 0, 0, 0, 0), (1467, .iconst 0, 0, 0, 0, 0), (1468, .laload, 0, 0, 0, 0), (1469, .iload 7, 0, 0, 0, 0), (1471, .i2l, 0, 0, 0, 0), (1472, .lcmp, 0, 0, 0, 0), (1473, .ifCond .eq 5, 0, 0, 0, 0), (1476, .iconst 0, 0, 0, 0, 0), (1477, .ireturn, 0, 0, 0, 0), (1478, .goto 209, 0, 0, 0, 0), (1481, .aload_n 1, 0, 0, 0, 0), (1482, .aload_n 0, 0, 0, 0, 0), (1483, .iload 5, 0, 0, 0, 0), (1485, .iconst 1, 0, 0, 0, 0), (1486, .iadd, 0, 0, 0, 0), (1487, .iaload, 0, 0, 0, 0), (1488, .aload_n 0, 0, 0, 0, 0), (1489, .iload 5, 0, 0, 0, 0), (1491, .iconst 2, 0, 0, 0, 0), (1492, .iadd, 0, 0, 0, 0), (1493, .iaload, 0, 0, 0, 0), (1494, .aload_n 3, 0, 0, 0, 0), (1495, .invokestatic 169, 0, 249, 4, 917), (1498, .istore 6, 0, 0, 0, 0), (1500, .aload_n 2, 0, 0, 0, 0), (1501, .aload_n 0, 0, 0, 0, 0), (1502, .iload 5, 0, 0, 0, 0), (1504, .iconst 1, 0, 0, 0, 0), (1505, .iadd, 0, 0, 0, 0), (1506, .iaload, 0, 0, 0, 0), (1507, .aload_n 0, 0, 0, 0, 0), (1508, .iload 5, 0, 0, 0, 0), (1510, .iconst 2, 0, 0, 0, 0), (1511, .iadd, 0, 0, 0, 0), (1512, .iaload, 0, 0, 0, 0), (1513, .invokevirtual 171, 0, 196, 2, 1567), (1516, .istore 7, 0, 0, 0, 0), (1518, .aload_n 2, 0, 0, 0, 0), (1519, .invokevirtual 100, 0, 158, 0, 996), (1522, .iload 6, 0, 0, 0, 0), (1524, .if_icmp .eq 5, 0, 0, 0, 0), (1527, .iconst 0, 0, 0, 0, 0), (1528, .ireturn, 0, 0, 0, 0), (1529, .iload 6, 0, 0, 0, 0), (1531, .ifCond .ne 15, 0, 0, 0, 0), (1534, .aload_n 3, 0, 0, 0, 0), (1535, .iconst 0, 0, 0, 0, 0), (1536, .laload, 0, 0, 0, 0), (1537, .iload 7, 0, 0, 0, 0), (1539, .i2l, 0, 0, 0, 0), (1540, .lcmp, 0, 0, 0, 0), (1541, .ifCond .eq 5, 0, 0, 0, 0), (1544, .iconst 0, 0, 0, 0, 0), (1545, .ireturn, 0, 0, 0, 0), (1546, .goto 141, 0, 0, 0, 0), (1549, .aload_n 1, 0, 0, 0, 0), (1550, .aload_n 0, 0, 0, 0, 0), (1551, .iload 5, 0, 0, 0, 0), (1553, .iconst 1, 0, 0, 0, 0), (1554, .iadd, 0, 0, 0, 0), (1555, .iaload, 0, 0, 0, 0), (1556, .aload_n 3, 0, 0, 0, 0), (1557, .invokestatic 172, 0, 250, 3, 928), (1560, .istore 6, 0, 0, 0, 0), (1562, .aload_n 2, 0, 0, 0, 0), (1563, .aload_n 0, 0, 0, 0, 0), (1564, .iload 5, 0, 0, 0, 0), (1566, .iconst 1, 0, 0, 0, 0), (1567, .iadd, 0, 0, 0, 0), (1568, .iaload, 0, 0, 0, 0), (1569, .invokevirtual 174, 0, 197, 1, 1572), (1572, .istore 7, 0, 0, 0, 0), (1574, .aload_n 2, 0, 0, 0, 0), (1575, .invokevirtual 100, 0, 158, 0, 996), (1578, .iload 6, 0, 0, 0, 0), (1580, .if_icmp .eq 5, 0, 0, 0, 0), (1583, .iconst 0, 0, 0, 0, 0), (1584, .ireturn, 0, 0, 0, 0), (1585, .iload 6, 0, 0, 0, 0), (1587, .ifCond .ne 15, 0, 0, 0, 0), (1590, .aload_n 3, 0, 0, 0, 0), (1591, .iconst 0, 0, 0, 0, 0), (1592, .laload, 0, 0, 0, 0), (1593, .iload 7, 0, 0, 0, 0), (1595, .i2l, 0, 0, 0, 0), (1596, .lcmp, 0, 0, 0, 0), (1597, .ifCond .eq 5, 0, 0, 0, 0), (1600, .iconst 0, 0, 0, 0, 0), (1601, .ireturn, 0, 0, 0, 0), (1602, .goto 85, 0, 0, 0, 0), (1605, .aload_n 1, 0, 0, 0, 0), (1606, .aload_n 0, 0, 0, 0, 0), (1607, .iload 5, 0, 0, 0, 0), (1609, .iconst 1, 0, 0, 0, 0), (1610, .iadd, 0, 0, 0, 0), (1611, .iaload, 0, 0, 0, 0), (1612, .aload_n 0, 0, 0, 0, 0), (1613, .iload 5, 0, 0, 0, 0), (1615, .iconst 2, 0, 0, 0, 0), (1616, .iadd, 0, 0, 0, 0), (1617, .iaload, 0, 0, 0, 0), (1618, .aload_n 3, 0, 0, 0, 0), (1619, .invokestatic 175, 0, 251, 4, 935), (1622, .istore 6, 0, 0, 0, 0), (1624, .aload_n 2, 0, 0, 0, 0), (1625, .aload_n 0, 0, 0, 0, 0), (1626, .iload 5, 0, 0, 0, 0), (1628, .iconst 1, 0, 0, 0, 0), (1629, .iadd, 0, 0, 0, 0), (1630, .iaload, 0, 0, 0, 0), (1631, .aload_n 0, 0, 0, 0, 0), (1632, .iload 5, 0, 0, 0, 0), (1634, .iconst 2, 0, 0, 0, 0), (1635, .iadd, 0, 0, 0, 0), (1636, .iaload, 0, 0, 0, 0), (1637, .invokevirtual 177, 0, 198, 2, 1576), (1640, .istore 7, 0, 0, 0, 0), (1642, .aload_n 2, 0, 0, 0, 0), (1643, .invokevirtual 100, 0, 158, 0, 996), (1646, .iload 6, 0, 0, 0, 0), (1648, .if_icmp .eq 5, 0, 0, 0, 0), (1651, .iconst 0, 0, 0, 0, 0), (1652, .ireturn, 0, 0, 0, 0), (1653, .iload 6, 0, 0, 0, 0), (1655, .ifCond .ne 15, 0, 0, 0, 0), (1658, .aload_n 3, 0, 0, 0, 0), (1659, .iconst 0, 0, 0, 0, 0), (1660, .laload, 0, 0, 0, 0), (1661, .iload 7, 0, 0, 0, 0), (1663, .i2l, 0, 0, 0, 0), (1664, .lcmp, 0, 0, 0, 0), (1665, .ifCond .eq 5, 0, 0, 0, 0), (1668, .iconst 0, 0, 0, 0, 0), (1669, .ireturn, 0, 0, 0, 0), (1670, .goto 17, 0, 0, 0, 0), (1673, .aload_n 1, 0, 0, 0, 0), (1674, .invokevirtual 178, 0, 101, 0, 321), (1677, .aload_n 2, 0, 0, 0, 0), (1678, .invokevirtual 182, 0, 200, 0, 1582), (1681, .lcmp, 0, 0, 0, 0), (1682, .ifCond .eq 5, 0, 0, 0, 0), (1685, .iconst 0, 0, 0, 0, 0), (1686, .ireturn, 0, 0, 0, 0), (1687, .iinc 5 5, 0, 0, 0, 0), (1690, .goto (-1662), 0, 0, 0, 0), (1693, .iconst 1, 0, 0, 0, 0), (1694, .ireturn, 0, 0, 0, 0)]
def mCodes : List (List (Nat × Instr × Nat × Nat × Nat × Nat)) := [mC0, mC1, mC2, mC3, mC4, mC5, mC6, mC7, mC8, mC9, mC10, mC11, mC12, mC13, mC14, mC15, mC16, mC17, mC18, mC19, mC20, mC21, mC22, mC23, mC24, mC25, mC26, mC27, mC28, mC29, mC30, mC31, mC32, mC33, mC34, mC35, mC36, mC37, mC38, mC39, mC40, mC41, mC42, mC43, mC44, mC45, mC46, mC47, mC48, mC49, mC50, mC51, mC52, mC53, mC54, mC55, mC56, mC57, mC58, mC59, mC60, mC61, mC62, mC63, mC64, mC65, mC66, mC67, mC68, mC69, mC70, mC71, mC72, mC73, mC74, mC75, mC76, mC77, mC78, mC79, mC80, mC81, mC82, mC83, mC84, mC85, mC86, mC87, mC88, mC89, mC90, mC91, mC92, mC93, mC94, mC95, mC96, mC97, mC98, mC99, mC100, mC101, mC102, mC103, mC104, mC105, mC106, mC107, mC108, mC109, mC110, mC111, mC112, mC113, mC114, mC115, mC116, mC117, mC118, mC119, mC120, mC121, mC122, mC123, mC124, mC125, mC126, mC127, mC128, mC129, mC130, mC131, mC132, mC133, mC134, mC135, mC136, mC137, mC138, mC139, mC140, mC141, mC142, mC143, mC144, mC145, mC146, mC147, mC148, mC149, mC150, mC151, mC152, mC153, mC154, mC155, mC156, mC157, mC158, mC159, mC160, mC161, mC162, mC163, mC164, mC165, mC166, mC167, mC168, mC169, mC170, mC171, mC172, mC173, mC174, mC175, mC176, mC177, mC178, mC179, mC180, mC181, mC182, mC183, mC184, mC185, mC186, mC187, mC188, mC189, mC190, mC191, mC192, mC193, mC194, mC195, mC196, mC197, mC198, mC199, mC200, mC201, mC202, mC203, mC204, mC205, mC206, mC207, mC208, mC209, mC210, mC211, mC212, mC213, mC214, mC215, mC216, mC217, mC218, mC219, mC220, mC221, mC222, mC223, mC224, mC225, mC226, mC227, mC228, mC229, mC230, mC231, mC232, mC233, mC234, mC235, mC236, mC237, mC238, mC239, mC240, mC241, mC242, mC243, mC244, mC245, mC246, mC247, mC248, mC249, mC250, mC251, mC252]
/-- name, code, locals, what it returns, its class, the frames and the words that it nests -/
def mMeths : List (MethodName × ByteArray × Nat × Option FieldType × String × Nat × Nat) := [(yX0_init, cX0_init, 1, (none), RX0, 2, 41),
  (yX0_add, cX0_add, 4, (none), RX0, 1, 22),
  (yX0_fact, cX0_fact, 3, (some .int), RX0, 1, 21),
  (yX0_inColumn, cX0_inColumn, 4, (some .int), RX0, 1, 21),
  (yX1_isWhole, cX1_isWhole, 5, (some .boolean), RX1, 2, 44),
  (yX1_isDecimal, cX1_isDecimal, 8, (some .boolean), RX1, 2, 44),
  (yX1_isFlag, cX1_isFlag, 3, (some .boolean), RX1, 1, 21),
  (yX1_wholeNumber, cX1_wholeNumber, 4, (some .int), RX1, 2, 45),
  (yX1_thousandths, cX1_thousandths, 8, (some .int), RX1, 2, 45),
  (yX1_dayNumber, cX1_dayNumber, 10, (some .int), RX1, 2, 45),
  (yX1_isOneOrTwo, cX1_isOneOrTwo, 1, (some .boolean), RX1, 0, 0),
  (yX1_behindMinus, cX1_behindMinus, 3, (some .int), RX1, 1, 21),
  (yX1_digitsFrom, cX1_digitsFrom, 4, (some .int), RX1, 1, 21),
  (yX1_number, cX1_number, 5, (some .int), RX1, 1, 21),
  (yX1_daysIn, cX1_daysIn, 3, (some .int), RX1, 1, 20),
  (yX1_daysAheadOfMonth, cX1_daysAheadOfMonth, 3, (some .int), RX1, 1, 20),
  (yX1_daysAheadOfYear, cX1_daysAheadOfYear, 1, (some .int), RX1, 1, 20),
  (yX1_leapYearsTo, cX1_leapYearsTo, 1, (some .int), RX1, 0, 0),
  (yX1_isLeap, cX1_isLeap, 1, (some .boolean), RX1, 0, 0),
  (yX2_init, cX2_init, 2, (none), RX2, 1, 20),
  (yX2_at, cX2_at, 2, (some .int), RX2, 0, 0),
  (yX2_put, cX2_put, 3, (none), RX2, 0, 0),
  (yX3_init, cX3_init, 1, (none), RX3, 2, 41),
  (yX3_read, cX3_read, 7, (none), RX3, 3, 73),
  (yX3_isMoreToRead, cX3_isMoreToRead, 3, (some .boolean), RX3, 0, 0),
  (yX3_readPlain, cX3_readPlain, 7, (some .int), RX3, 2, 46),
  (yX3_readQuoted, cX3_readQuoted, 8, (some .int), RX3, 2, 46),
  (yX3_endOfCell, cX3_endOfCell, 5, (some .int), RX3, 1, 21),
  (yX3_takeSigns, cX3_takeSigns, 5, (none), RX3, 1, 22),
  (yX3_closeCell, cX3_closeCell, 3, (none), RX3, 1, 22),
  (yX3_closeRow, cX3_closeRow, 3, (none), RX3, 1, 22),
  (yX3_findUsualWidth, cX3_findUsualWidth, 4, (none), RX3, 2, 44),
  (yX3_rowsOfWidth, cX3_rowsOfWidth, 4, (some .int), RX3, 1, 21),
  (yX3_columnCount, cX3_columnCount, 1, (some .int), RX3, 1, 21),
  (yX3_points, cX3_points, 1, (some .int), RX3, 2, 41),
  (yX3_cellsIn, cX3_cellsIn, 2, (some .int), RX3, 1, 21),
  (yX3_cellAt, cX3_cellAt, 3, (some .int), RX3, 2, 42),
  (yX3_haveSameSigns, cX3_haveSameSigns, 7, (some .boolean), RX3, 1, 21),
  (yX3_quotedCells, cX3_quotedCells, 3, (some .int), RX3, 1, 21),
  (yX4_init, cX4_init, 2, (none), RX4, 3, 61),
  (yX4_settle, cX4_settle, 4, (none), RX4, 5, 112),
  (yX4_guessedMark, cX4_guessedMark, 6, (some .int), RX4, 3, 71),
  (yX4_nameCell, cX4_nameCell, 8, (none), RX4, 3, 74),
  (yX4_guessedHeading, cX4_guessedHeading, 4, (some .int), RX4, 4, 89),
  (yX4_tallyKinds, cX4_tallyKinds, 6, (none), RX4, 3, 64),
  (yX4_talliedFilled, cX4_talliedFilled, 3, (some .int), RX4, 1, 21),
  (yX4_talliedKind, cX4_talliedKind, 7, (some .int), RX4, 2, 43),
  (yX4_markRepeats, cX4_markRepeats, 4, (none), RX4, 4, 89),
  (yX4_isAhead, cX4_isAhead, 6, (some .boolean), RX4, 3, 64),
  (yX4_findFaults, cX4_findFaults, 7, (none), RX4, 3, 67),
  (yX4_faultOfCell, cX4_faultOfCell, 4, (some .int), RX4, 2, 44),
  (yX4_isOfKind, cX4_isOfKind, 4, (some .boolean), RX4, 1, 21),
  (yX4_keepOnce, cX4_keepOnce, 3, (none), RX4, 4, 87),
  (yX4_isSameRow, cX4_isSameRow, 4, (some .boolean), RX4, 3, 64),
  (yX4_hasColumn, cX4_hasColumn, 2, (some .boolean), RX4, 2, 41),
  (yX4_hasKept, cX4_hasKept, 2, (some .boolean), RX4, 0, 0),
  (yX4_choice, cX4_choice, 2, (some .int), RX4, 0, 0),
  (yX4_howMany, cX4_howMany, 2, (some .int), RX4, 2, 43),
  (yX4_factOfCell, cX4_factOfCell, 3, (some .int), RX4, 1, 21),
  (yX4_factOfColumn, cX4_factOfColumn, 3, (some .int), RX4, 4, 89),
  (yX4_repeatsIn, cX4_repeatsIn, 5, (some .int), RX4, 3, 64),
  (yX4_cellOfKept, cX4_cellOfKept, 3, (some .int), RX4, 3, 64),
  (yX4_valueIn, cX4_valueIn, 6, (some .int), RX4, 4, 86),
  (yX4_isFilledIn, cX4_isFilledIn, 3, (some .boolean), RX4, 4, 86),
  (yX4_extremeOf, cX4_extremeOf, 8, (some .int), RX4, 5, 111),
  (yX4_total, cX4_total, 5, (some .long), RX4, 5, 111),
  (yX4_filledInKept, cX4_filledInKept, 4, (some .int), RX4, 5, 108),
  (yX4_placeOf, cX4_placeOf, 4, (some .int), RX4, 5, 111),
  (yX5_init, cX5_init, 1, (none), RX5, 2, 41),
  (yX5_hasRoomFor, cX5_hasRoomFor, 2, (some .boolean), RX5, 0, 0),
  (yX5_write, cX5_write, 2, (none), RX5, 1, 22),
  (yX5_writeNumber, cX5_writeNumber, 5, (none), RX5, 1, 22),
  (yX5_digitsOf, cX5_digitsOf, 3, (some .int), RX5, 0, 0),
  (yX6_init, cX6_init, 1, (none), RX6, 2, 41),
  (yX6_mustBeFilled, cX6_mustBeFilled, 3, (some .boolean), RX6, 1, 21),
  (yX6_mustDiffer, cX6_mustDiffer, 3, (some .boolean), RX6, 1, 21),
  (yX7_init, cX7_init, 1, (none), RX7, 4, 82),
  (yX7_sign, cX7_sign, 2, (some .int), RX7, 2, 43),
  (yX7_digits, cX7_digits, 2, (some .int), RX7, 2, 46),
  (yX7_letters, cX7_letters, 4, (some .int), RX7, 2, 43),
  (yX7_three, cX7_three, 5, (some .int), RX7, 2, 46),
  (yX7_clear, cX7_clear, 2, (some .int), RX7, 0, 0),
  (yX7_tell, cX7_tell, 4, (some .int), RX7, 1, 22),
  (yX7_setShare, cX7_setShare, 3, (some .int), RX7, 1, 20),
  (yX7_setRule, cX7_setRule, 4, (some .int), RX7, 1, 22),
  (yX7_used, cX7_used, 2, (some .int), RX7, 7, 157),
  (yX7_score, cX7_score, 2, (some .int), RX7, 5, 119),
  (yX7_many, cX7_many, 2, (some .int), RX7, 7, 157),
  (yX7_width, cX7_width, 3, (some .int), RX7, 7, 157),
  (yX7_cell, cX7_cell, 6, (some .int), RX7, 7, 157),
  (yX7_signAt, cX7_signAt, 6, (some .int), RX7, 7, 157),
  (yX7_column, cX7_column, 4, (some .int), RX7, 7, 157),
  (yX7_extreme, cX7_extreme, 4, (some .int), RX7, 7, 157),
  (yX7_sum, cX7_sum, 3, (some .long), RX7, 7, 157),
  (yX7_mean, cX7_mean, 4, (some .double), RX7, 7, 157),
  (yX7_fault, cX7_fault, 4, (some .int), RX7, 7, 157),
  (yX7_kept, cX7_kept, 3, (some .int), RX7, 7, 157),
  (yX7_value, cX7_value, 4, (some .int), RX7, 7, 157),
  (yX7_find, cX7_find, 4, (some .int), RX7, 7, 157),
  (yX7_keptWith, cX7_keptWith, 2, (some .int), RX7, 7, 157),
  (yX7_kindWith, cX7_kindWith, 4, (some .int), RX7, 7, 157),
  (yX7_digest, cX7_digest, 5, (some .long), RX7, 7, 164),
  (yX7_withRows, cX7_withRows, 9, (some .long), RX7, 3, 64),
  (yX7_withColumns, cX7_withColumns, 7, (some .long), RX7, 6, 138),
  (yX7_withFaultsAndKept, cX7_withFaultsAndKept, 7, (some .long), RX7, 2, 43),
  (yX7_mixed, cX7_mixed, 4, (some .long), RX7, 0, 0),
  (yX7_isSign, cX7_isSign, 1, (some .boolean), RX7, 0, 0),
  (yX7_isParter, cX7_isParter, 1, (some .boolean), RX7, 0, 0),
  (yX7_isShare, cX7_isShare, 1, (some .boolean), RX7, 0, 0),
  (yX7_tableNow, cX7_tableNow, 3, (some (.object "Tallow$Table")), RX7, 6, 135),
  (yX7_settledWith, cX7_settledWith, 3, (some (.object "Tallow$Table")), RX7, 6, 135),
  (yX7_tableWith, cX7_tableWith, 2, (some (.object "Tallow$Table")), RX7, 0, 0),
  (yX7_readText, cX7_readText, 1, (none), RX7, 4, 99),
  (yX7_unsettleAll, cX7_unsettleAll, 1, (none), RX7, 0, 0),
  (yX7_guessedParter, cX7_guessedParter, 5, (some .int), RX7, 3, 61),
  (yX8_init, cX8_init, 4, (none), RX8, 1, 20),
  (yX8_isSame, cX8_isSame, 3, (some .boolean), RX8, 0, 0),
  (yX8_isDigit, cX8_isDigit, 2, (some .boolean), RX8, 0, 0),
  (yX8_digits, cX8_digits, 3, (some .int), RX8, 1, 21),
  (yX8_number, cX8_number, 5, (some .int), RX8, 0, 0),
  (yX8_begin, cX8_begin, 1, (some .int), RX8, 0, 0),
  (yX8_isAt, cX8_isAt, 3, (some .boolean), RX8, 0, 0),
  (yX8_decimals, cX8_decimals, 5, (some .int), RX8, 2, 43),
  (yX8_isLeap, cX8_isLeap, 1, (some .boolean), RX8, 0, 0),
  (yX8_daysOf, cX8_daysOf, 3, (some .int), RX8, 1, 20),
  (yX8_date, cX8_date, 6, (some (.array .int)), RX8, 2, 43),
  (yX8_kind, cX8_kind, 3, (some .int), RX8, 3, 68),
  (yX8_value, cX8_value, 6, (some .int), RX8, 4, 90),
  (yX8_days, cX8_days, 3, (some .int), RX8, 2, 42),
  (yX8_isOf, cX8_isOf, 4, (some .boolean), RX8, 4, 90),
  (yX8_valueAs, cX8_valueAs, 3, (some .int), RX8, 5, 115),
  (yX9_init, cX9_init, 3, (none), RX9, 1, 20),
  (yX9_isOver, cX9_isOver, 1, (some .boolean), RX9, 1, 20),
  (yX9_isEnd, cX9_isEnd, 1, (some .boolean), RX9, 3, 64),
  (yX9_signs, cX9_signs, 4, (some (.array .int)), RX9, 3, 64),
  (yX9_cell, cX9_cell, 2, (some (.object "TallowModel$Cell")), RX9, 8, 174),
  (yX9_quoted, cX9_quoted, 3, (some (.object "TallowModel$Cell")), RX9, 7, 152),
  (yX9_rows, cX9_rows, 3, (some (.object "java/util/ArrayList")), RX9, 9, 195),
  (yX10_init, cX10_init, 1, (none), RX10, 4, 80),
  (yX10_add, cX10_add, 2, (none), RX10, 7, 152),
  (yX10_isNone, cX10_isNone, 1, (some .boolean), RX10, 3, 64),
  (yX10_isSame, cX10_isSame, 3, (some .boolean), RX10, 3, 64),
  (yX11_init, cX11_init, 4, (none), RX11, 10, 217),
  (yX11_first, cX11_first, 1, (some .int), RX11, 1, 21),
  (yX11_decimals, cX11_decimals, 5, (some .int), RX11, 4, 90),
  (yX11_cells, cX11_cells, 5, (some (.object "java/util/ArrayList")), RX11, 7, 152),
  (yX11_together, cX11_together, 7, (some .int), RX11, 4, 90),
  (yX11_seemsHeading, cX11_seemsHeading, 3, (some .boolean), RX11, 8, 176),
  (yX11_faultOf, cX11_faultOf, 6, (some .int), RX11, 5, 113),
  (yX11_look, cX11_look, 6, (none), RX11, 7, 152),
  (yX11_keptCell, cX11_keptCell, 3, (some (.object "TallowModel$Cell")), RX11, 3, 64),
  (yX11_valueOf, cX11_valueOf, 3, (some .int), RX11, 6, 137),
  (yX11_full, cX11_full, 4, (some .int), RX11, 4, 86),
  (yX11_sum, cX11_sum, 5, (some .long), RX11, 7, 159),
  (yX11_extreme, cX11_extreme, 7, (some .int), RX11, 7, 159),
  (yX11_column, cX11_column, 9, (some .int), RX11, 8, 176),
  (yX11_quoted, cX11_quoted, 4, (some .int), RX11, 3, 64),
  (yX12_init, cX12_init, 1, (none), RX12, 4, 80),
  (yX12_thrown, cX12_thrown, 1, (some .int), RX12, 0, 0),
  (yX12_isIn, cX12_isIn, 3, (some .boolean), RX12, 0, 0),
  (yX12_refuse, cX12_refuse, 3, (some .boolean), RX12, 0, 0),
  (yX12_start, cX12_start, 3, (some .boolean), RX12, 1, 22),
  (yX12_usual, cX12_usual, 6, (some .int), RX12, 4, 87),
  (yX12_withWidth, cX12_withWidth, 4, (some .int), RX12, 3, 64),
  (yX12_scoreOf, cX12_scoreOf, 4, (some .int), RX12, 10, 217),
  (yX12_parter, cX12_parter, 3, (some .int), RX12, 11, 240),
  (yX12_sheet, cX12_sheet, 1, (some (.object "TallowModel$Sheet")), RX12, 12, 262),
  (yX12_add, cX12_add, 2, (some .int), RX12, 5, 113),
  (yX12_isNoSign, cX12_isNoSign, 1, (some .boolean), RX12, 1, 22),
  (yX12_digits, cX12_digits, 2, (none), RX12, 7, 152),
  (yX12_sign, cX12_sign, 3, (some .int), RX12, 7, 152),
  (yX12_digits_, cX12_digits_, 3, (some .int), RX12, 8, 173),
  (yX12_letters, cX12_letters, 5, (some .int), RX12, 7, 152),
  (yX12_three, cX12_three, 6, (some .int), RX12, 8, 173),
  (yX12_clear, cX12_clear, 2, (some .int), RX12, 1, 23),
  (yX12_tell, cX12_tell, 4, (some .int), RX12, 2, 44),
  (yX12_setShare, cX12_setShare, 3, (some .int), RX12, 2, 44),
  (yX12_setRule, cX12_setRule, 4, (some .int), RX12, 2, 44),
  (yX12_usedBy, cX12_usedBy, 2, (some .int), RX12, 0, 0),
  (yX12_used, cX12_used, 2, (some .int), RX12, 13, 282),
  (yX12_score, cX12_score, 2, (some .int), RX12, 11, 240),
  (yX12_count, cX12_count, 4, (some .int), RX12, 4, 87),
  (yX12_many, cX12_many, 2, (some .int), RX12, 13, 282),
  (yX12_width, cX12_width, 3, (some .int), RX12, 13, 282),
  (yX12_told, cX12_told, 4, (some .int), RX12, 5, 115),
  (yX12_isNoCell, cX12_isNoCell, 4, (some .boolean), RX12, 3, 64),
  (yX12_cell, cX12_cell, 5, (some .int), RX12, 13, 282),
  (yX12_signAt, cX12_signAt, 6, (some .int), RX12, 13, 282),
  (yX12_isNoColumn, cX12_isNoColumn, 3, (some .boolean), RX12, 2, 44),
  (yX12_column, cX12_column, 4, (some .int), RX12, 13, 282),
  (yX12_extreme, cX12_extreme, 4, (some .int), RX12, 13, 282),
  (yX12_sum, cX12_sum, 3, (some .long), RX12, 13, 282),
  (yX12_mean, cX12_mean, 3, (some .double), RX12, 13, 282),
  (yX12_fault, cX12_fault, 4, (some .int), RX12, 13, 282),
  (yX12_kept, cX12_kept, 3, (some .int), RX12, 13, 282),
  (yX12_value, cX12_value, 4, (some .int), RX12, 13, 282),
  (yX12_find, cX12_find, 5, (some .int), RX12, 13, 282),
  (yX12_keptWith, cX12_keptWith, 2, (some .int), RX12, 11, 240),
  (yX12_kindWith, cX12_kindWith, 4, (some .int), RX12, 13, 282),
  (yX12_add_, cX12_add_, 4, (some .long), RX12, 0, 0),
  (yX12_digest, cX12_digest, 7, (some .long), RX12, 13, 282),
  (yJ6_valueOf_2dffe, cJ6_valueOf_2dffe, 1, (some (.object "java/lang/Integer")), RJ6, 3, 61),
  (yJ6_init_d00df, cJ6_init_d00df, 2, (none), RJ6, 2, 40),
  (yJ6_intValue_8abf5, cJ6_intValue_8abf5, 1, (some .int), RJ6, 0, 0),
  (yJ9_max_7cf53, cJ9_max_7cf53, 2, (some .int), RJ9, 0, 0),
  (yJ9_min_7cf53, cJ9_min_7cf53, 2, (some .int), RJ9, 0, 0),
  (yJxd2413_init_da8c8, cJxd2413_init_da8c8, 1, (none), RJxd2413, 1, 20),
  (yJxa1e45_init_da8c8, cJxa1e45_init_da8c8, 1, (none), RJxa1e45, 1, 20),
  (yJxc12de_init_da8c8, cJxc12de_init_da8c8, 1, (none), RJxc12de, 2, 40),
  (yJx4a65c_init_da8c8, cJx4a65c_init_da8c8, 1, (none), RJx4a65c, 3, 60),
  (yJx4a65c_grow_92f84, cJx4a65c_grow_92f84, 4, (some (.array (.object "java/lang/Object"))), RJx4a65c, 3, 65),
  (yJx4a65c_grow_d5877, cJx4a65c_grow_d5877, 1, (some (.array (.object "java/lang/Object"))), RJx4a65c, 4, 88),
  (yJx4a65c_size_8abf5, cJx4a65c_size_8abf5, 1, (some .int), RJx4a65c, 0, 0),
  (yJx4a65c_isEmpty_aae02, cJx4a65c_isEmpty_aae02, 1, (some .boolean), RJx4a65c, 0, 0),
  (yJx4a65c_toArray_d5877, cJx4a65c_toArray_d5877, 1, (some (.array (.object "java/lang/Object"))), RJx4a65c, 3, 65),
  (yJx4a65c_elementData_915e3, cJx4a65c_elementData_915e3, 2, (some (.object "java/lang/Object")), RJx4a65c, 0, 0),
  (yJx4a65c_get_915e3, cJx4a65c_get_915e3, 2, (some (.object "java/lang/Object")), RJx4a65c, 2, 43),
  (yJx4a65c_add_72be8, cJx4a65c_add_72be8, 4, (none), RJx4a65c, 5, 108),
  (yJx4a65c_add_9ea2d, cJx4a65c_add_9ea2d, 2, (some .boolean), RJx4a65c, 6, 131),
  (yJx4a65c_remove_915e3, cJx4a65c_remove_915e3, 4, (some (.object "java/lang/Object")), RJx4a65c, 2, 43),
  (yJx4a65c_fastRemove_b59b0, cJx4a65c_fastRemove_b59b0, 4, (none), RJx4a65c, 0, 0),
  (yJx4a65c_clear_da8c8, cJx4a65c_clear_da8c8, 4, (none), RJx4a65c, 0, 0),
  (yJx4a65c_addAll_f0b43, cJx4a65c_addAll_f0b43, 6, (some .boolean), RJx4a65c, 4, 88),
  (yJ7_copyOf_1904c, cJ7_copyOf_1904c, 2, (some (.array (.object "java/lang/Object"))), RJ7, 2, 44),
  (yJ7_copyOf_6403c, cJ7_copyOf_6403c, 4, (some (.array (.object "java/lang/Object"))), RJ7, 1, 21),
  (yJ15_checkIndex_7cf53, cJ15_checkIndex_7cf53, 2, (some .int), RJ15, 1, 22),
  (yJ8_newLength_cabcc, cJ8_newLength_cabcc, 4, (some .int), RJ8, 1, 22),
  (yJ8_hugeLength_7cf53, cJ8_hugeLength_7cf53, 3, (some .int), RJ8, 0, 0),
  (yJ3_checkIndex_8e157, cJ3_checkIndex_8e157, 3, (some .int), RJ3, 0, 0),
  (yL_sign, cL_sign, 4, (some .int), RL, 3, 64),
  (yL_digits, cL_digits, 4, (some .int), RL, 3, 67),
  (yL_letters, cL_letters, 5, (some .int), RL, 3, 66),
  (yL_three, cL_three, 7, (some .int), RL, 3, 70),
  (yL_tell, cL_tell, 5, (some .int), RL, 2, 45),
  (yL_setShare, cL_setShare, 4, (some .int), RL, 2, 42),
  (yL_setRule, cL_setRule, 5, (some .int), RL, 2, 45),
  (yL_used, cL_used, 4, (some .int), RL, 8, 178),
  (yL_score, cL_score, 4, (some .int), RL, 6, 140),
  (yL_many, cL_many, 4, (some .int), RL, 8, 178),
  (yL_width, cL_width, 4, (some .int), RL, 8, 179),
  (yL_cell, cL_cell, 6, (some .int), RL, 8, 182),
  (yL_signAt, cL_signAt, 6, (some .int), RL, 8, 182),
  (yL_column, cL_column, 5, (some .int), RL, 8, 180),
  (yL_extreme, cL_extreme, 5, (some .int), RL, 8, 180),
  (yL_sum, cL_sum, 4, (some .int), RL, 8, 179),
  (yL_mean, cL_mean, 4, (some .int), RL, 8, 180),
  (yL_fault, cL_fault, 5, (some .int), RL, 8, 180),
  (yL_kept, cL_kept, 4, (some .int), RL, 8, 179),
  (yL_value, cL_value, 5, (some .int), RL, 8, 180),
  (yL_find, cL_find, 5, (some .int), RL, 8, 180),
  (yL_keptWith, cL_keptWith, 4, (some .int), RL, 8, 178),
  (yL_kindWith, cL_kindWith, 5, (some .int), RL, 8, 180),
  (yL_law, cL_law, 9, (some .boolean), RL, 14, 308)]
/-- where in lw_tbl: its code, that it is static or not, what it selects, that its class is initialised; whether it is static -/
def mPos : List (Nat × Nat × Nat × Nat × Bool) := [(228, 227, 99999, 66, false), (509, 507, 508, 66, false), (608, 606, 607, 66, false), (576, 574, 575, 66, false), (453, 452, 99999, 84, true), (413, 412, 99999, 84, true), (462, 461, 99999, 84, true), (456, 455, 99999, 84, true), (459, 458, 99999, 84, true), (427, 426, 99999, 84, true), (430, 429, 99999, 84, true), (416, 415, 99999, 84, true), (420, 419, 99999, 84, true), (433, 432, 99999, 84, true), (436, 435, 99999, 84, true), (450, 449, 99999, 84, true), (444, 443, 99999, 84, true), (447, 446, 99999, 84, true), (441, 440, 99999, 84, true), (109, 108, 99999, 62, false), (344, 342, 343, 62, false), (137, 135, 136, 62, false), (163, 162, 99999, 65, false), (336, 334, 335, 65, false), (340, 339, 2, 65, false), (361, 360, 6, 65, false), (348, 347, 3, 65, false), (357, 356, 5, 65, false), (352, 351, 4, 65, false), (365, 364, 7, 65, false), (369, 368, 8, 65, false), (376, 375, 9, 65, false), (380, 379, 10, 65, false), (397, 395, 396, 65, false), (393, 391, 392, 65, false), (471, 469, 470, 65, false), (475, 473, 474, 65, false), (501, 499, 500, 65, false), (555, 553, 554, 65, false), (157, 156, 99999, 64, false), (405, 403, 404, 64, false), (410, 409, 14, 64, false), (424, 423, 15, 64, false), (467, 466, 16, 64, false), (481, 479, 480, 64, false), (489, 488, 17, 64, false), (485, 483, 484, 64, false), (493, 492, 18, 64, false), (497, 496, 19, 64, false), (505, 504, 20, 64, false), (514, 513, 21, 64, false), (518, 517, 22, 64, false), (531, 530, 23, 64, false), (535, 534, 24, 64, false), (858, 856, 857, 64, false), (906, 904, 905, 64, false), (540, 538, 539, 64, false), (548, 546, 547, 64, false), (564, 562, 563, 64, false), (572, 570, 571, 64, false), (581, 580, 25, 64, false), (593, 592, 27, 64, false), (597, 595, 596, 64, false), (589, 588, 26, 64, false), (585, 583, 584, 64, false), (601, 599, 600, 64, false), (886, 884, 885, 64, false), (927, 925, 926, 64, false), (103, 102, 99999, 61, false), (696, 694, 695, 61, false), (716, 714, 715, 61, false), (733, 731, 732, 61, false), (729, 728, 99999, 61, true), (130, 129, 99999, 63, false), (522, 520, 521, 63, false), (527, 525, 526, 63, false), (95, 94, 99999, 60, false), (621, 619, 620, 60, false), (725, 723, 724, 60, false), (741, 739, 740, 60, false), (749, 747, 748, 60, false), (320, 318, 319, 60, false), (757, 755, 756, 60, false), (767, 765, 766, 60, false), (779, 777, 778, 60, false), (803, 801, 802, 60, false), (811, 809, 810, 60, false), (822, 820, 821, 60, false), (830, 828, 829, 60, false), (838, 836, 837, 60, false), (847, 845, 846, 60, false), (854, 852, 853, 60, false), (867, 865, 866, 60, false), (875, 873, 874, 60, false), (882, 880, 881, 60, false), (893, 891, 892, 60, false), (902, 900, 901, 60, false), (914, 912, 913, 60, false), (923, 921, 922, 60, false), (934, 932, 933, 60, false), (941, 939, 940, 60, false), (324, 322, 323, 60, false), (558, 557, 99999, 60, true), (567, 566, 99999, 60, true), (604, 603, 99999, 60, true), (543, 542, 99999, 60, true), (624, 623, 99999, 60, true), (814, 813, 99999, 60, true), (770, 769, 99999, 60, true), (328, 327, 0, 60, false), (612, 611, 28, 60, false), (401, 400, 13, 60, false), (332, 331, 1, 60, false), (384, 383, 11, 60, false), (389, 388, 12, 60, false), (1255, 1254, 99999, 90, false), (1405, 1403, 1404, 90, false), (1349, 1348, 48, 90, false), (1345, 1344, 47, 90, false), (1365, 1364, 52, 90, false), (1341, 1340, 46, 90, false), (1357, 1356, 50, 90, false), (1353, 1352, 49, 90, false), (1371, 1370, 99999, 90, true), (1368, 1367, 99999, 90, true), (1361, 1360, 51, 90, false), (1337, 1335, 1336, 90, false), (1492, 1490, 1491, 90, false), (1495, 1494, 99999, 90, true), (1400, 1398, 1399, 90, false), (1532, 1530, 1531, 90, false), (1178, 1177, 99999, 86, false), (1199, 1198, 39, 86, false), (1280, 1279, 43, 86, false), (1252, 1251, 42, 86, false), (1223, 1222, 40, 86, false), (1246, 1245, 41, 86, false), (1193, 1191, 1192, 86, false), (1205, 1204, 99999, 87, false), (1296, 1294, 1295, 87, false), (1303, 1301, 1302, 87, false), (1411, 1409, 1410, 87, false), (1317, 1316, 99999, 85, false), (1388, 1386, 1387, 85, false), (1329, 1328, 45, 85, false), (1379, 1377, 1378, 85, false), (1384, 1382, 1383, 85, false), (1375, 1374, 53, 85, false), (1396, 1395, 55, 85, false), (1392, 1391, 54, 85, false), (1524, 1522, 1523, 85, false), (1528, 1526, 1527, 85, false), (1550, 1548, 1549, 85, false), (1542, 1540, 1541, 85, false), (1520, 1518, 1519, 85, false), (1511, 1509, 1510, 85, false), (1471, 1469, 1470, 85, false), (948, 947, 99999, 67, false), (999, 997, 998, 67, false), (1009, 1008, 99999, 67, true), (1017, 1016, 31, 67, false), (1013, 1012, 30, 67, false), (1308, 1307, 99999, 67, true), (1313, 1312, 99999, 67, true), (1173, 1172, 38, 67, false), (1169, 1168, 37, 67, false), (1163, 1162, 36, 67, false), (1101, 1100, 35, 67, false), (1006, 1005, 99999, 67, true), (1127, 1126, 99999, 67, true), (1003, 1001, 1002, 67, false), (1124, 1122, 1123, 67, false), (1131, 1129, 1130, 67, false), (1135, 1133, 1134, 67, false), (1139, 1137, 1138, 67, false), (1147, 1145, 1146, 67, false), (1151, 1149, 1150, 67, false), (1155, 1153, 1154, 67, false), (1454, 1453, 99999, 67, true), (1159, 1157, 1158, 67, false), (1458, 1456, 1457, 67, false), (1466, 1465, 56, 67, false), (1462, 1460, 1461, 67, false), (1475, 1473, 1474, 67, false), (1487, 1486, 99999, 67, true), (1483, 1482, 57, 67, false), (1479, 1477, 1478, 67, false), (1499, 1497, 1498, 67, false), (1507, 1506, 58, 67, false), (1503, 1501, 1502, 67, false), (1516, 1514, 1515, 67, false), (1538, 1536, 1537, 67, false), (1546, 1544, 1545, 67, false), (1554, 1552, 1553, 67, false), (1559, 1557, 1558, 67, false), (1565, 1563, 1564, 67, false), (1570, 1568, 1569, 67, false), (1575, 1573, 1574, 67, false), (1579, 1577, 1578, 67, false), (1589, 1588, 99999, 67, true), (1585, 1583, 1584, 67, false), (1020, 1019, 99999, 77, true), (1029, 1028, 99999, 77, false), (1242, 1240, 1241, 77, false), (551, 550, 99999, 80, true), (372, 371, 99999, 80, true), (1032, 1031, 99999, 76, false), (960, 959, 99999, 68, false), (957, 956, 99999, 69, false), (954, 953, 99999, 70, false), (1053, 1052, 34, 70, false), (1049, 1048, 33, 70, false), (1105, 1103, 1104, 70, false), (1284, 1282, 1283, 70, false), (1119, 1117, 99999, 70, false), (1237, 1235, 1236, 70, false), (1227, 1225, 1226, 70, false), (1045, 1044, 32, 70, false), (1041, 1039, 1040, 70, false), (1288, 1286, 1287, 70, false), (1292, 1291, 44, 70, false), (1143, 1141, 1142, 70, false), (1109, 1107, 1108, 70, false), (1064, 1063, 99999, 81, true), (1088, 1087, 99999, 81, true), (1230, 1229, 99999, 88, true), (1056, 1055, 99999, 79, true), (1061, 1060, 99999, 79, true), (1233, 1232, 99999, 89, true), (99999, 614, 99999, 59, true), (99999, 720, 99999, 59, true), (99999, 736, 99999, 59, true), (99999, 744, 99999, 59, true), (99999, 752, 99999, 59, true), (99999, 762, 99999, 59, true), (99999, 773, 99999, 59, true), (99999, 798, 99999, 59, true), (99999, 806, 99999, 59, true), (99999, 817, 99999, 59, true), (99999, 825, 99999, 59, true), (99999, 833, 99999, 59, true), (99999, 842, 99999, 59, true), (99999, 849, 99999, 59, true), (99999, 862, 99999, 59, true), (99999, 870, 99999, 59, true), (99999, 877, 99999, 59, true), (99999, 888, 99999, 59, true), (99999, 897, 99999, 59, true), (99999, 909, 99999, 59, true), (99999, 918, 99999, 59, true), (99999, 929, 99999, 59, true), (99999, 936, 99999, 59, true), (99999, 99999, 99999, 59, false)]
/-- where in lw_tbl: that a class can be made, is initialised -/
def mClPos : List (Nat × Nat) := [(1026, 77), (951, 70), (225, 66), (106, 62), (160, 65), (154, 64), (100, 61), (127, 63), (92, 60), (1248, 90), (1175, 86), (1202, 87), (1165, 85), (945, 67)]
def mObjPos : Nat × Nat := (97, 98)
def mNest : List Cond := [(Jvm.Cond.methodLinkNest "Tallow" (11 : Nat) ({ cls := "Tallow$Text", name := "<init>", desc := "()V" } : Jvm.MethodName) "Tallow"), (Jvm.Cond.methodLinkNest "Tallow$Table" (11 : Nat) ({ cls := "Tallow$Reading", name := "<init>", desc := "()V" } : Jvm.MethodName) "Tallow"), (Jvm.Cond.methodLinkNest "Tallow$Table" (20 : Nat) ({ cls := "Tallow$Faults", name := "<init>", desc := "()V" } : Jvm.MethodName) "Tallow"), (Jvm.Cond.methodLinkNest "TallowModel$Reader" (78 : Nat) ({ cls := "TallowModel$Row", name := "<init>", desc := "()V" } : Jvm.MethodName) "TallowModel"), (Jvm.Cond.methodLinkNest "TallowModel$Sheet" (40 : Nat) ({ cls := "TallowModel", name := "usual", desc := "(Ljava/util/ArrayList;)I" } : Jvm.MethodName) "TallowModel")]
end
section
/-! A SMALL MACHINE over lists: what a method's instructions do, as a function of a heap that is a list of objects; later it is shown that the true machine goes the same way. A reference is the place of an object, counted from the outer things (rows that are only read: the first of them) on. -/
abbrev mO : Type := (Nat × vp_A) ⊕ (Nat × List Value)
abbrev mE : Type := List (Nat × (Nat → Int32))
abbrev mIns : Type := Nat × Instr × Nat × Nat × Nat × Nat
abbrev mMth : Type := MethodName × ByteArray × Nat × Option FieldType × String × Nat × Nat
abbrev mLv : Type := List (Nat × Value)
/-- heap, cells and slots made in this call -/
abbrev mH : Type := List mO × Nat × Nat
/-- method, place, locals, stack -/
abbrev mF : Type := Nat × Nat × mLv × List Value
abbrev mS : Type := mF × mH
def mTys : List FieldType := [.int, .long, .double]
def mlook (l : List mIns) (pc : Nat) : Option mIns := match l with
  | [] => none
  | e :: r => if e.1 = pc then some e else mlook r pc
def mcode (j : Nat) : List mIns := mCodes.getD j []
def mmeth (j : Nat) : Option mMth := mMeths[j]?
def mlv (l : mLv) (i : Nat) : Option Value := match l with
  | [] => none
  | q :: r => if q.1 = i then some q.2 else mlv r i
def mset1 (l : mLv) (i : Nat) (v : Value) : mLv := (i, v) :: l.filter (fun q => !(q.1 == i) && !(q.1 + 1 == i && q.2.category == 2))
def mset2 (l : mLv) (i : Nat) (v : Value) : mLv := (i, v) :: l.filter (fun q => !(q.1 == i) && (!(q.1 == i + 1) && !(q.1 + 1 == i && q.2.category == 2)))
def mget (X : Nat) (h : List mO) (a : Nat) : Option mO := if a < X then none else h[a - X]?
def mtgt (pc : Nat) (off : Int) : Nat := ((pc : Int) + off).toNat
def mjmp (pc : Nat) (off : Int) : Bool := decide (0 ≤ (pc : Int) + off)
/-- an instruction that stays in the method, and makes, reads or writes nothing of the heap: the next place, the locals, the stack -/
def mpure (nL : Nat) (e : mIns) (lv : mLv) (st : List Value) : Option (Nat × mLv × List Value) := match e.2.1 with
  | .iconst n => some (e.1 + 1, lv, .int (Int32.ofInt n) :: st)
  | .bipush n => some (e.1 + 2, lv, .int (Int8.ofInt n).toInt32 :: st)
  | .sipush n => some (e.1 + 3, lv, .int (Int16.ofInt n).toInt32 :: st)
  | .lconst n => some (e.1 + 1, lv, .long (Int64.ofNat (n : Nat)) :: st)
  | .dconst n => if (n : Nat) = 0 then some (e.1 + 1, lv, .double FP.dconst0 :: st) else none
  | .iload_n k => match mlv lv (k : Nat) with
    | some (.int x) => some (e.1 + 1, lv, .int x :: st)
    | _ => none
  | .iload i => match mlv lv i with
    | some (.int x) => some (e.1 + 2, lv, .int x :: st)
    | _ => none
  | .lload_n k => match mlv lv (k : Nat) with
    | some (.long x) => some (e.1 + 1, lv, .long x :: st)
    | _ => none
  | .lload i => match mlv lv i with
    | some (.long x) => some (e.1 + 2, lv, .long x :: st)
    | _ => none
  | .aload_n k => match mlv lv (k : Nat) with
    | some (.ref x) => some (e.1 + 1, lv, .ref x :: st)
    | _ => none
  | .aload i => match mlv lv i with
    | some (.ref x) => some (e.1 + 2, lv, .ref x :: st)
    | _ => none
  | .istore_n k => match st with
    | .int x :: r => if (k : Nat) < nL then some (e.1 + 1, mset1 lv (k : Nat) (.int x), r) else none
    | _ => none
  | .istore i => match st with
    | .int x :: r => if i < nL then some (e.1 + 2, mset1 lv i (.int x), r) else none
    | _ => none
  | .lstore_n k => match st with
    | .long x :: r => if (k : Nat) + 1 < nL then some (e.1 + 1, mset2 lv (k : Nat) (.long x), r) else none
    | _ => none
  | .lstore i => match st with
    | .long x :: r => if i + 1 < nL then some (e.1 + 2, mset2 lv i (.long x), r) else none
    | _ => none
  | .astore_n k => match st with
    | .ref x :: r => if (k : Nat) < nL then some (e.1 + 1, mset1 lv (k : Nat) (.ref x), r) else none
    | _ => none
  | .astore i => match st with
    | .ref x :: r => if i < nL then some (e.1 + 2, mset1 lv i (.ref x), r) else none
    | _ => none
  | .iinc i n => match mlv lv i with
    | some (.int x) => if i < nL then some (e.1 + 3, mset1 lv i (.int (x + Int32.ofInt n)), st) else none
    | _ => none
  | .iadd => match st with
    | .int y :: .int x :: r => some (e.1 + 1, lv, .int (x + y) :: r)
    | _ => none
  | .isub => match st with
    | .int y :: .int x :: r => some (e.1 + 1, lv, .int (x - y) :: r)
    | _ => none
  | .imul => match st with
    | .int y :: .int x :: r => some (e.1 + 1, lv, .int (x * y) :: r)
    | _ => none
  | .iand => match st with
    | .int y :: .int x :: r => some (e.1 + 1, lv, .int (x &&& y) :: r)
    | _ => none
  | .idiv => match st with
    | .int y :: .int x :: r => if y = 0 then none else some (e.1 + 1, lv, .int (x / y) :: r)
    | _ => none
  | .ineg => match st with
    | .int x :: r => some (e.1 + 1, lv, .int (-x) :: r)
    | _ => none
  | .ladd => match st with
    | .long y :: .long x :: r => some (e.1 + 1, lv, .long (x + y) :: r)
    | _ => none
  | .lmul => match st with
    | .long y :: .long x :: r => some (e.1 + 1, lv, .long (x * y) :: r)
    | _ => none
  | .i2l => match st with
    | .int x :: r => some (e.1 + 1, lv, .long x.toInt64 :: r)
    | _ => none
  | .dup => match st with
    | v :: r => if v.category = 1 then some (e.1 + 1, lv, v :: v :: r) else none
    | _ => none
  | .pop => match st with
    | v :: r => if v.category = 1 then some (e.1 + 1, lv, r) else none
    | _ => none
  | .goto off => if mjmp e.1 off then some (mtgt e.1 off, lv, st) else none
  | .ifCond .eq off => match st with
    | .int x :: r => if mjmp e.1 off then some (if x = 0 then mtgt e.1 off else e.1 + 3, lv, r) else none
    | _ => none
  | .ifCond .ne off => match st with
    | .int x :: r => if mjmp e.1 off then some (if x = 0 then e.1 + 3 else mtgt e.1 off, lv, r) else none
    | _ => none
  | .ifCond .lt off => match st with
    | .int x :: r => if mjmp e.1 off then some (if x < 0 then mtgt e.1 off else e.1 + 3, lv, r) else none
    | _ => none
  | .ifCond .ge off => match st with
    | .int x :: r => if mjmp e.1 off then some (if 0 ≤ x then mtgt e.1 off else e.1 + 3, lv, r) else none
    | _ => none
  | .ifCond .gt off => match st with
    | .int x :: r => if mjmp e.1 off then some (if 0 < x then mtgt e.1 off else e.1 + 3, lv, r) else none
    | _ => none
  | .ifCond .le off => match st with
    | .int x :: r => if mjmp e.1 off then some (if x ≤ 0 then mtgt e.1 off else e.1 + 3, lv, r) else none
    | _ => none
  | .if_icmp .eq off => match st with
    | .int y :: .int x :: r => if mjmp e.1 off then some (if x = y then mtgt e.1 off else e.1 + 3, lv, r) else none
    | _ => none
  | .if_icmp .ne off => match st with
    | .int y :: .int x :: r => if mjmp e.1 off then some (if x = y then e.1 + 3 else mtgt e.1 off, lv, r) else none
    | _ => none
  | .if_icmp .lt off => match st with
    | .int y :: .int x :: r => if mjmp e.1 off then some (if x < y then mtgt e.1 off else e.1 + 3, lv, r) else none
    | _ => none
  | .if_icmp .ge off => match st with
    | .int y :: .int x :: r => if mjmp e.1 off then some (if y ≤ x then mtgt e.1 off else e.1 + 3, lv, r) else none
    | _ => none
  | .if_icmp .gt off => match st with
    | .int y :: .int x :: r => if mjmp e.1 off then some (if y < x then mtgt e.1 off else e.1 + 3, lv, r) else none
    | _ => none
  | .if_icmp .le off => match st with
    | .int y :: .int x :: r => if mjmp e.1 off then some (if x ≤ y then mtgt e.1 off else e.1 + 3, lv, r) else none
    | _ => none
  | .irem => match st with
    | .int y :: .int x :: r => if y = 0 then none else some (e.1 + 1, lv, .int (x - x / y * y) :: r)
    | _ => none
  | .ishr => match st with
    | .int y :: .int x :: r => some (e.1 + 1, lv, .int (x >>> (y &&& 31)) :: r)
    | _ => none
  | .lcmp => match st with
    | .long y :: .long x :: r => some (e.1 + 1, lv, .int (lg_cmp x y) :: r)
    | _ => none
  | .i2d => match st with
    | .int x :: r => some (e.1 + 1, lv, .double (FP.i2d x) :: r)
    | _ => none
  | .l2d => match st with
    | .long x :: r => some (e.1 + 1, lv, .double (FP.l2d x) :: r)
    | _ => none
  | .ddiv => match st with
    | .double y :: .double x :: r => if FP.ddiv x y &&& 0x7fffffffffffffff ≤ 0x7ff0000000000000 then some (e.1 + 1, lv, .double (FP.ddiv x y) :: r) else none
    | _ => none
  | .dcmp op => match st with
    | .double y :: .double x :: r => some (e.1 + 1, lv, .int (Op.cmpValue (FP.dcmp x y) op) :: r)
    | _ => none
  | .dload_n k => match mlv lv (k : Nat) with
    | some (.double x) => some (e.1 + 1, lv, .double x :: st)
    | _ => none
  | .dload i => match mlv lv i with
    | some (.double x) => some (e.1 + 2, lv, .double x :: st)
    | _ => none
  | .dstore_n k => match st with
    | .double x :: r => if (k : Nat) + 1 < nL then some (e.1 + 1, mset2 lv (k : Nat) (.double x), r) else none
    | _ => none
  | .dstore i => match st with
    | .double x :: r => if i + 1 < nL then some (e.1 + 2, mset2 lv i (.double x), r) else none
    | _ => none
  | .tableswitch dflt lo hi offs => match st with
    | .int x :: r => if x.toInt < lo ∨ hi < x.toInt then (if mjmp e.1 dflt then some (mtgt e.1 dflt, lv, r) else none) else (match offs[(x.toInt - lo).toNat]? with
      | some off => if mjmp e.1 off then some (mtgt e.1 off, lv, r) else none
      | none => none)
    | _ => none
  | .lookupswitch dflt ps => match st with
    | .int x :: r => if (ps.toList.zip (ps.toList.drop 1)).all (fun (a, next) => a.1 < next.1) = true then (if mjmp e.1 (Op.lookupswitch.offset ps.toList dflt x.toInt) then some (mtgt e.1 (Op.lookupswitch.offset ps.toList dflt x.toInt), lv, r) else none) else none
    | _ => none
  | _ => none
end
section
/-! ===== the true machine's side: a place of the list is an address ===== -/
def trV (ad : Nat → Nat) (v : Value) : Value := match v with
  | .ref a => .ref (ad a)
  | v => v
def trL (ad : Nat → Nat) (l : mLv) : List (Nat × Value) := l.map (fun q => (q.1, trV ad q.2))
theorem trV_cat (ad : Nat → Nat) (v : Value) : (trV ad v).category = v.category := by cases v <;> rfl
theorem mlv_mem {l : mLv} {i : Nat} {v : Value} (h : mlv l i = some v) : (i, v) ∈ l := by
  induction l with
  | nil => cases h
  | cons q r ih =>
    unfold mlv at h
    split at h
    · rename_i hq
      cases h
      rw [← hq]
      exact List.mem_cons_self
    · exact List.mem_cons_of_mem _ (ih h)
theorem trL_mem {ad : Nat → Nat} {l : mLv} {i : Nat} {v : Value} (h : mlv l i = some v) : (i, trV ad v) ∈ trL ad l := List.mem_map.mpr ⟨(i, v), mlv_mem h, rfl⟩
theorem trL_at {ad : Nat → Nat} {ls : Array Slot} {nL : Nat} {l : mLv} {i : Nat} {v : Value} (h : lv_has ls nL (trL ad l)) (hm : mlv l i = some v) : ls[i]? = some (.val (trV ad v)) := h.2.2 (i, trV ad v) (trL_mem hm)
theorem trL_set1 (ad : Nat → Nat) (l : mLv) (i : Nat) (v : Value) : (i, trV ad v) :: (trL ad l).filter (fun q => !(q.1 == i) && !(q.1 + 1 == i && q.2.category == 2)) = trL ad (mset1 l i v) := by
  simp only [trL, mset1, List.map_cons, List.filter_map]
  congr 2
  apply List.filter_congr
  intro q _
  simp [trV_cat]
theorem trL_set2 (ad : Nat → Nat) (l : mLv) (i : Nat) (v : Value) : (i, trV ad v) :: (trL ad l).filter (fun q => !(q.1 == i) && (!(q.1 == i + 1) && !(q.1 + 1 == i && q.2.category == 2))) = trL ad (mset2 l i v) := by
  simp only [trL, mset2, List.map_cons, List.filter_map]
  congr 2
  apply List.filter_congr
  intro q _
  simp [trV_cat]
theorem mtgt_ok {pc : Nat} {off : Int} (h : mjmp pc off = true) : (pc : Int) + off = ((mtgt pc off : Nat) : Int) := by
  have h1 : 0 ≤ (pc : Int) + off := of_decide_eq_true h
  exact (Int.toNat_of_nonneg h1).symm
def mlen (i : Instr) (n : Nat) : Nat := match i with
  | .bipush _ => 2 | .sipush _ => 3 | .iload _ => 2 | .lload _ => 2 | .aload _ => 2 | .istore _ => 2 | .lstore _ => 2 | .astore _ => 2 | .dload _ => 2 | .dstore _ => 2
  | .iinc _ _ => 3 | .goto _ => 3 | .ifCond _ _ => 3 | .if_icmp _ _ => 3 | .ifnull _ => 3 | .ifnonnull _ => 3 | .if_acmp _ _ => 3
  | .getfield _ => 3 | .putfield _ => 3 | .getstatic _ => 3 | .new _ => 3 | .newarray _ => 2 | .anewarray _ => 3 | .checkcast _ => 3
  | .invokevirtual _ => 3 | .invokespecial _ => 3 | .invokestatic _ => 3 | .ldc _ => 2 | .ldc2_w _ => 3
  | .tableswitch _ _ _ _ => n | .lookupswitch _ _ => n
  | _ => 1
section MP
variable {p : Program} {l : Launch} {e : Env} {R : Room} {s : State} {m : MethodId} {args : Array Value} {below : List Frame} {meth : Method} {c : Code} {H : Heap} {locs : List Loc} {cells slots : Nat} {Q : State → Prop}
set_option maxHeartbeats 4000000 in
theorem sd_pure {cc : ByteArray} (hx : p.tables.exec = Jvm.exec) (hb : c.code = cc) {ad : Nat → Nat} {nL : Nat} {i : mIns} {lv lv' : mLv} {st st' : List Value} {pc' : Nat} {ls : Array Slot} (hp : mpure nL i lv st = some (pc', lv', st')) (hd : decode cc i.1 = .ok (i.2.1, mlen i.2.1 i.2.2.1)) (hl : lv_has ls nL (trL ad lv))
    (kk : ∀ ls' : Array Slot, lv_has ls' nL (trL ad lv') → W p l e R s m args below meth c H locs cells slots Q (F0 m pc' ls' (st'.map (trV ad)))) : W p l e R s m args below meth c H locs cells slots Q (F0 m i.1 ls (st.map (trV ad))) := by
  obtain ⟨pc, i, n, a, b, d⟩ := i
  cases i
  case iconst n =>
    simp only [mpure] at hp; cases hp; exact lv_iconst hx hb hd rfl (kk _ hl)
  case bipush n =>
    simp only [mpure] at hp; cases hp; exact lv_bipush hx hb hd rfl (kk _ hl)
  case sipush n =>
    simp only [mpure] at hp; cases hp; exact lv_sipush hx hb hd rfl (kk _ hl)
  case lconst n =>
    simp only [mpure] at hp; cases hp; exact lv_lconst hx hb hd rfl (kk _ hl)
  case dconst n =>
    simp only [mpure] at hp; split at hp
    · rename_i h0; cases hp
      have h1 : n = 0 := Fin.ext h0
      subst h1
      exact lv_dconst0 hx hb hd (kk _ hl)
    · cases hp
  case iload_n k =>
    simp only [mpure] at hp; split at hp
    · rename_i h0; cases hp; exact lv_iload_n hx hb hd rfl (trL_at hl h0) (kk _ hl)
    · cases hp
  case iload k =>
    simp only [mpure] at hp; split at hp
    · rename_i h0; cases hp; exact lv_iload hx hb hd (trL_at hl h0) (kk _ hl)
    · cases hp
  case lload_n k =>
    simp only [mpure] at hp; split at hp
    · rename_i h0; cases hp; exact lv_lload_n hx hb hd rfl (trL_at hl h0) (kk _ hl)
    · cases hp
  case lload k =>
    simp only [mpure] at hp; split at hp
    · rename_i h0; cases hp; exact lv_lload hx hb hd (trL_at hl h0) (kk _ hl)
    · cases hp
  case aload_n k =>
    simp only [mpure] at hp; split at hp
    · rename_i h0; cases hp; exact lv_aload_n hx hb hd rfl (trL_at hl h0) (kk _ hl)
    · cases hp
  case aload k =>
    simp only [mpure] at hp; split at hp
    · rename_i h0; cases hp; exact lv_aload hx hb hd (trL_at hl h0) (kk _ hl)
    · cases hp
  case istore_n k =>
    simp only [mpure] at hp; split at hp
    · split at hp
      · rename_i h0; cases hp; exact lv_istore_n hx hb hd rfl hl h0 (trL_set1 ad lv _ (.int _)) kk
      · cases hp
    · cases hp
  case istore k =>
    simp only [mpure] at hp; split at hp
    · split at hp
      · rename_i h0; cases hp; exact lv_istore hx hb hd hl h0 (trL_set1 ad lv _ (.int _)) kk
      · cases hp
    · cases hp
  case lstore_n k =>
    simp only [mpure] at hp; split at hp
    · split at hp
      · rename_i h0; cases hp; exact lv_lstore_n hx hb hd rfl hl h0 (trL_set2 ad lv _ (.long _)) kk
      · cases hp
    · cases hp
  case lstore k =>
    simp only [mpure] at hp; split at hp
    · split at hp
      · rename_i h0; cases hp; exact lv_lstore hx hb hd hl h0 (trL_set2 ad lv _ (.long _)) kk
      · cases hp
    · cases hp
  case astore_n k =>
    simp only [mpure] at hp; split at hp
    · split at hp
      · rename_i h0; cases hp; exact lv_astore_n hx hb hd rfl hl h0 (trL_set1 ad lv _ (.ref _)) kk
      · cases hp
    · cases hp
  case astore k =>
    simp only [mpure] at hp; split at hp
    · split at hp
      · rename_i h0; cases hp; exact lv_astore hx hb hd hl h0 (trL_set1 ad lv _ (.ref _)) kk
      · cases hp
    · cases hp
  case iinc k n =>
    simp only [mpure] at hp; split at hp
    · rename_i h0; split at hp
      · rename_i h1; cases hp
        obtain ⟨q, hq⟩ := List.getElem?_of_mem (trL_mem (ad := ad) h0)
        exact lv_iinc hx hb hd hl hq rfl h1 (trL_set1 ad lv _ (.int _)) kk
      · cases hp
    · cases hp
  case iadd =>
    simp only [mpure] at hp; split at hp
    · cases hp; exact lv_iadd hx hb hd (kk _ hl)
    · cases hp
  case isub =>
    simp only [mpure] at hp; split at hp
    · cases hp; exact lv_isub hx hb hd (kk _ hl)
    · cases hp
  case imul =>
    simp only [mpure] at hp; split at hp
    · cases hp; exact lv_imul hx hb hd (kk _ hl)
    · cases hp
  case iand =>
    simp only [mpure] at hp; split at hp
    · cases hp; exact lv_iand hx hb hd (kk _ hl)
    · cases hp
  case ineg =>
    simp only [mpure] at hp; split at hp
    · cases hp; exact lv_ineg hx hb hd (kk _ hl)
    · cases hp
  case ladd =>
    simp only [mpure] at hp; split at hp
    · cases hp; exact lv_ladd hx hb hd (kk _ hl)
    · cases hp
  case lmul =>
    simp only [mpure] at hp; split at hp
    · cases hp; exact lv_lmul hx hb hd (kk _ hl)
    · cases hp
  case ishr =>
    simp only [mpure] at hp; split at hp
    · cases hp; exact lv_ishr hx hb hd (kk _ hl)
    · cases hp
  case i2d =>
    simp only [mpure] at hp; split at hp
    · cases hp; exact lv_i2d hx hb hd (kk _ hl)
    · cases hp
  case l2d =>
    simp only [mpure] at hp; split at hp
    · cases hp; exact lv_l2d hx hb hd (kk _ hl)
    · cases hp
  case dcmp op =>
    simp only [mpure] at hp; split at hp
    · cases hp; exact lv_dcmp hx hb hd (kk _ hl)
    · cases hp
  case idiv =>
    simp only [mpure] at hp; split at hp
    · split at hp
      · cases hp
      · rename_i h0; cases hp; exact lv_idiv hx hb hd h0 (kk _ hl)
    · cases hp
  case irem =>
    simp only [mpure] at hp; split at hp
    · split at hp
      · cases hp
      · rename_i h0; cases hp; exact lv_irem hx hb hd h0 (kk _ hl)
    · cases hp
  case lcmp =>
    simp only [mpure] at hp; split at hp
    · cases hp; exact W.lcmp hx hb hd (kk _ hl)
    · cases hp
  case ddiv =>
    simp only [mpure] at hp; split at hp
    · split at hp
      · rename_i h0; cases hp; exact lv_ddiv hx hb hd h0 (kk _ hl)
      · cases hp
    · cases hp
  case dload_n k =>
    simp only [mpure] at hp; split at hp
    · rename_i h0; cases hp; exact lv_dload_n hx hb hd rfl (trL_at hl h0) (kk _ hl)
    · cases hp
  case dload k =>
    simp only [mpure] at hp; split at hp
    · rename_i h0; cases hp; exact lv_dload hx hb hd (trL_at hl h0) (kk _ hl)
    · cases hp
  case dstore_n k =>
    simp only [mpure] at hp; split at hp
    · split at hp
      · rename_i h0; cases hp; exact lv_dstore_n hx hb hd rfl hl h0 (trL_set2 ad lv _ (.double _)) kk
      · cases hp
    · cases hp
  case dstore k =>
    simp only [mpure] at hp; split at hp
    · split at hp
      · rename_i h0; cases hp; exact lv_dstore hx hb hd hl h0 (trL_set2 ad lv _ (.double _)) kk
      · cases hp
    · cases hp
  case tableswitch dflt lo hi offs =>
    simp only [mpure] at hp; split at hp
    · split at hp
      · rename_i h0; split at hp
        · rename_i h1; cases hp; exact lv_tableOut hx hb hd h0 (mtgt_ok h1) (kk _ hl)
        · cases hp
      · rename_i h0; split at hp
        · rename_i h2; split at hp
          · rename_i h1; cases hp; exact lv_tableIn hx hb hd (fun h => h0 (Or.inl h)) (fun h => h0 (Or.inr h)) h2 (mtgt_ok h1) (kk _ hl)
          · cases hp
        · cases hp
    · cases hp
  case lookupswitch dflt ps =>
    simp only [mpure] at hp; split at hp
    · split at hp
      · rename_i h0; split at hp
        · rename_i h1; cases hp; exact lv_lookup hx hb hd h0 rfl (mtgt_ok h1) (kk _ hl)
        · cases hp
      · cases hp
    · cases hp
  case i2l =>
    simp only [mpure] at hp; split at hp
    · cases hp; exact lv_i2l hx hb hd rfl (kk _ hl)
    · cases hp
  case dup =>
    simp only [mpure] at hp; split at hp
    · split at hp
      · rename_i h0; cases hp; exact lv_dup hx hb hd ((trV_cat ad _).trans h0) (kk _ hl)
      · cases hp
    · cases hp
  case pop =>
    simp only [mpure] at hp; split at hp
    · split at hp
      · rename_i h0; cases hp; exact lv_pop hx hb hd ((trV_cat ad _).trans h0) (kk _ hl)
      · cases hp
    · cases hp
  case goto off =>
    simp only [mpure] at hp; split at hp
    · rename_i h0; cases hp; exact lv_goto hx hb hd (mtgt_ok h0) (kk _ hl)
    · cases hp
  case ifCond cd off =>
    cases cd
    case eq =>
      simp only [mpure] at hp; split at hp
      · split at hp
        · rename_i h0; cases hp; refine lv_if_eq hx hb hd (mtgt_ok h0) (fun h => ?_) (fun h => ?_)
          · have k1 := kk _ hl
            rw [if_pos h] at k1
            exact k1
          · have k1 := kk _ hl
            rw [if_neg h] at k1
            exact k1
        · cases hp
      · cases hp
    case ne =>
      simp only [mpure] at hp; split at hp
      · split at hp
        · rename_i h0; cases hp; refine lv_if_ne hx hb hd (mtgt_ok h0) (fun h => ?_) (fun h => ?_)
          · have k1 := kk _ hl
            rw [if_neg h] at k1
            exact k1
          · have k1 := kk _ hl
            rw [if_pos h] at k1
            exact k1
        · cases hp
      · cases hp
    case lt =>
      simp only [mpure] at hp; split at hp
      · split at hp
        · rename_i h0; cases hp; refine lv_if_lt hx hb hd (mtgt_ok h0) (fun h => ?_) (fun h => ?_)
          · have k1 := kk _ hl
            rw [if_pos h] at k1
            exact k1
          · have k1 := kk _ hl
            rw [if_neg h] at k1
            exact k1
        · cases hp
      · cases hp
    case ge =>
      simp only [mpure] at hp; split at hp
      · split at hp
        · rename_i h0; cases hp; refine lv_if_ge hx hb hd (mtgt_ok h0) (fun h => ?_) (fun h => ?_)
          · have k1 := kk _ hl
            rw [if_pos h] at k1
            exact k1
          · have k1 := kk _ hl
            rw [if_neg h] at k1
            exact k1
        · cases hp
      · cases hp
    case gt =>
      simp only [mpure] at hp; split at hp
      · split at hp
        · rename_i h0; cases hp; refine lv_if_gt hx hb hd (mtgt_ok h0) (fun h => ?_) (fun h => ?_)
          · have k1 := kk _ hl
            rw [if_pos h] at k1
            exact k1
          · have k1 := kk _ hl
            rw [if_neg h] at k1
            exact k1
        · cases hp
      · cases hp
    case le =>
      simp only [mpure] at hp; split at hp
      · split at hp
        · rename_i h0; cases hp; refine lv_if_le hx hb hd (mtgt_ok h0) (fun h => ?_) (fun h => ?_)
          · have k1 := kk _ hl
            rw [if_pos h] at k1
            exact k1
          · have k1 := kk _ hl
            rw [if_neg h] at k1
            exact k1
        · cases hp
      · cases hp
  case if_icmp cd off =>
    cases cd
    case eq =>
      simp only [mpure] at hp; split at hp
      · split at hp
        · rename_i h0; cases hp; refine lv_icmp_eq hx hb hd (mtgt_ok h0) (fun h => ?_) (fun h => ?_)
          · have k1 := kk _ hl
            rw [if_pos h] at k1
            exact k1
          · have k1 := kk _ hl
            rw [if_neg h] at k1
            exact k1
        · cases hp
      · cases hp
    case ne =>
      simp only [mpure] at hp; split at hp
      · split at hp
        · rename_i h0; cases hp; refine lv_icmp_ne hx hb hd (mtgt_ok h0) (fun h => ?_) (fun h => ?_)
          · have k1 := kk _ hl
            rw [if_neg h] at k1
            exact k1
          · have k1 := kk _ hl
            rw [if_pos h] at k1
            exact k1
        · cases hp
      · cases hp
    case lt =>
      simp only [mpure] at hp; split at hp
      · split at hp
        · rename_i h0; cases hp; refine lv_icmp_lt hx hb hd (mtgt_ok h0) (fun h => ?_) (fun h => ?_)
          · have k1 := kk _ hl
            rw [if_pos h] at k1
            exact k1
          · have k1 := kk _ hl
            rw [if_neg h] at k1
            exact k1
        · cases hp
      · cases hp
    case ge =>
      simp only [mpure] at hp; split at hp
      · split at hp
        · rename_i h0; cases hp; refine lv_icmp_ge hx hb hd (mtgt_ok h0) (fun h => ?_) (fun h => ?_)
          · have k1 := kk _ hl
            rw [if_pos h] at k1
            exact k1
          · have k1 := kk _ hl
            rw [if_neg h] at k1
            exact k1
        · cases hp
      · cases hp
    case gt =>
      simp only [mpure] at hp; split at hp
      · split at hp
        · rename_i h0; cases hp; refine lv_icmp_gt hx hb hd (mtgt_ok h0) (fun h => ?_) (fun h => ?_)
          · have k1 := kk _ hl
            rw [if_pos h] at k1
            exact k1
          · have k1 := kk _ hl
            rw [if_neg h] at k1
            exact k1
        · cases hp
      · cases hp
    case le =>
      simp only [mpure] at hp; split at hp
      · split at hp
        · rename_i h0; cases hp; refine lv_icmp_le hx hb hd (mtgt_ok h0) (fun h => ?_) (fun h => ?_)
          · have k1 := kk _ hl
            rw [if_pos h] at k1
            exact k1
          · have k1 := kk _ hl
            rw [if_neg h] at k1
            exact k1
        · cases hp
      · cases hp
  all_goals (simp only [mpure] at hp; cases hp)
end MP
end
section
/-! ===== the heap of the small machine, its instructions ===== -/
def mfty (a b : Nat) : FieldType := match mFT[a]? with
  | some t => t b
  | none => .int
def mdef (a N : Nat) : List Value := (List.range N).map (fun k => defaultValue (mfty a k))
/-- a row of k things, all alike at first, by its type's number -/
def mnewA (t n : Nat) : Option vp_A := match t with
  | 0 => some (n, .inl (fun _ => 0))
  | 1 => some (n, .inr (.inl (fun _ => 0)))
  | 2 => some (n, .inr (.inr (.inr (.inl (fun _ => 0)))))
  | _ => none
/-- statics that hold an outer row: class, name, descriptor, which -/
abbrev mZs : Type := List (String × String × String × Nat)
/-- an instruction that reads, writes or makes something of the heap: the next place, the stack, the heap -/
def mheap (E : mE) (e : mIns) (st : List Value) (h : mH) : Option (Nat × List Value × mH) := match e.2.1 with
  | .getfield _ => match st with
    | .ref q :: r => match mget E.length h.1 q with
      | some (.inr o) => if o.1 = e.2.2.2.1 then (match mCl[e.2.2.2.1]? with
        | some _ => (match o.2[e.2.2.2.2.1]? with
          | some v => some (e.1 + 3, v :: r, h)
          | none => none)
        | none => none) else none
      | _ => none
    | _ => none
  | .putfield _ => match st with
    | v :: .ref q :: r => match mget E.length h.1 q with
      | some (.inr o) => if o.1 = e.2.2.2.1 then (match mCl[e.2.2.2.1]? with
        | some _ => if e.2.2.2.2.1 < o.2.length ∧ narrow (mfty e.2.2.2.1 e.2.2.2.2.1) v = v ∧ fits (mfty e.2.2.2.1 e.2.2.2.2.1) v = true then some (e.1 + 3, r, (h.1.set (q - E.length) (.inr (o.1, o.2.set e.2.2.2.2.1 v)), h.2)) else none
        | none => none) else none
      | _ => none
    | _ => none
  | .iaload => match st with
    | .int i :: .ref q :: r => if q < E.length then (match E[q]? with
        | some x => if i < 0 ∨ x.1 ≤ i.toNatClampNeg then none else some (e.1 + 1, .int (x.2 i.toNatClampNeg) :: r, h)
        | none => none) else (match mget E.length h.1 q with
        | some (.inl (0, n, .inl f)) => if i < 0 ∨ n ≤ i.toNatClampNeg then none else some (e.1 + 1, .int (f i.toNatClampNeg) :: r, h)
        | _ => none)
    | _ => none
  | .iastore => match st with
    | .int x :: .int i :: .ref q :: r => match mget E.length h.1 q with
      | some (.inl (0, n, .inl f)) => if i < 0 ∨ n ≤ i.toNatClampNeg then none else some (e.1 + 1, r, (h.1.set (q - E.length) (.inl (0, n, .inl (upd f i.toNatClampNeg x))), h.2))
      | _ => none
    | _ => none
  | .arraylength => match st with
    | .ref q :: r => if q < E.length then (match E[q]? with
        | some x => some (e.1 + 1, .int (Int32.ofNat x.1) :: r, h)
        | none => none) else (match mget E.length h.1 q with
        | some (.inl x) => (match mTys[x.1]? with
          | some _ => some (e.1 + 1, .int (Int32.ofNat x.2.1) :: r, h)
          | none => none)
        | _ => none)
    | _ => none
  | .new _ => match mCl[e.2.2.2.1]? with
    | some c => some (e.1 + 3, .ref (E.length + h.1.length) :: st, (h.1 ++ [.inr (e.2.2.2.1, mdef e.2.2.2.1 c.2.2)], h.2.1 + 1, h.2.2 + c.2.2))
    | none => none
  | .newarray ty => match st with
    | .int n :: r => if n < 0 then none else (if n.toNatClampNeg * 8 ≤ 536870912 then (if mTys[e.2.2.2.1]? = some (newarray.typeOf ty) then (match mnewA e.2.2.2.1 n.toNatClampNeg with
        | some x => some (e.1 + 2, .ref (E.length + h.1.length) :: r, (h.1 ++ [.inl (e.2.2.2.1, x)], h.2.1 + 1, h.2.2 + n.toNatClampNeg))
        | none => none) else none) else none)
    | _ => none
  | .ldc _ => if e.2.2.1 = 0 then some (e.1 + 2, .int (Int32.ofNat e.2.2.2.1) :: st, h) else none
  | .ldc2_w _ => if e.2.2.1 = 0 then some (e.1 + 3, .long (Int64.ofNat e.2.2.2.1) :: st, h) else none
  | .getstatic _ => if e.2.2.2.1 < E.length then some (e.1 + 3, .ref e.2.2.2.1 :: st, h) else none
  | _ => none
/-! ===== what the tables say of it ===== -/
def mTBL : List Cond := lw_tbl.filter goodWord
theorem mTBL_of {w : Cond} {k : Nat} (h : lw_tbl[k]? = some w) (hg : goodWord w = true) : w ∈ mTBL := List.mem_filter.mpr ⟨List.mem_of_getElem? h, hg⟩
/-- static fields that hold an outer row -/
def mStat : mZs := [("Tallow$Kinds", "DAYS_AHEAD", "[I", 1)]
def mchk (own : String) (init : Bool) (e : mIns) : Bool := match e.2.1 with
  | .getfield idx => match mCl[e.2.2.2.1]? with
    | some c => decide (e.2.2.2.2.1 < c.2.2) && decide (lw_tbl[e.2.2.2.2.2]? = some (.fieldLink own idx (c.2.1 e.2.2.2.2.1).1 (c.2.1 e.2.2.2.2.1).2.1 (c.2.1 e.2.2.2.2.1).2.2.1))
    | none => true
  | .putfield idx => match mCl[e.2.2.2.1]? with
    | some c => decide (e.2.2.2.2.1 < c.2.2) && (decide (lw_tbl[e.2.2.2.2.2]? = some (.fieldLink own idx (c.2.1 e.2.2.2.2.1).1 (c.2.1 e.2.2.2.2.1).2.1 (c.2.1 e.2.2.2.2.1).2.2.1)) && (decide ((c.2.1 e.2.2.2.2.1).2.2.2 = false) || (decide ((c.2.1 e.2.2.2.2.1).2.2.2 = true) && init && decide ((c.2.1 e.2.2.2.2.1).1 = own))))
    | none => true
  | .new idx => match mCl[e.2.2.2.1]? with
    | some c => decide (lw_tbl[e.2.2.2.2.2]? = some (.classLink own idx c.1))
    | none => true
  | .ldc idx => if e.2.2.1 = 0 then decide (lw_tbl[e.2.2.2.2.2]? = some (.constant own idx (Int32.ofNat e.2.2.2.1))) else true
  | .ldc2_w idx => if e.2.2.1 = 0 then decide (lw_tbl[e.2.2.2.2.2]? = some (.constantLong own idx (Int64.ofNat e.2.2.2.1))) else true
  | .getstatic idx => if e.2.2.2.1 < 2 then mStat.any (fun z => decide (z.2.2.2 = e.2.2.2.1) && decide (lw_tbl[e.2.2.2.2.2]? = some (.fieldLink own idx z.1 z.2.1 z.2.2.1))) else true
  | _ => true
def mchkM (j : Nat) : Bool := match mmeth j with
  | some y => (mcode j).all (mchk y.2.2.2.2.1 (decide (y.1.name = "<init>")))
  | none => true
set_option maxRecDepth 100000 in
theorem mchk_a : (List.range 60).all mchkM = true := by decide +kernel
set_option maxRecDepth 100000 in
theorem mchk_b : (List.range' 60 60).all mchkM = true := by decide +kernel
set_option maxRecDepth 100000 in
theorem mchk_c : (List.range' 120 60).all mchkM = true := by decide +kernel
set_option maxRecDepth 100000 in
theorem mchk_d : (List.range' 180 80).all mchkM = true := by decide +kernel
def mdec (j : Nat) : Bool := match mmeth j with
  | some y => (mcode j).all (fun e => decide (decode y.2.1 e.1 = .ok (e.2.1, mlen e.2.1 e.2.2.1)))
  | none => true
end
section
/-! ===== each class: its fields' words, their types, that they are apart; that it can be made ===== -/
def mClP (ci : Nat) (r : vw_C) : Prop := (∀ w ∈ u_ws r.1 r.2.1 r.2.2, w ∈ mTBL) ∧ (∀ k, k < r.2.2 → parseFieldDescriptor (r.2.1 k).2.2.1 = some (mfty ci k)) ∧ (∀ a, a < r.2.2 → ∀ b, b < r.2.2 → a ≠ b → (r.2.1 a).2.1 ≠ (r.2.1 b).2.1) ∧ Cond.instantiable r.1 r.2.2 ∈ mTBL ∧ Cond.initialized r.1 ∈ mTBL
theorem mcl_ws {C : String} {T : u_T} {N : Nat} (h : (u_ws C T N).all (fun w => decide (w ∈ lw_tbl) && goodWord w) = true) : ∀ w ∈ u_ws C T N, w ∈ mTBL := by
  intro w hw
  have h1 := List.all_eq_true.mp h w hw
  simp only [Bool.and_eq_true, decide_eq_true_eq] at h1
  exact List.mem_filter.mpr h1
set_option maxRecDepth 100000
set_option maxRecDepth 100000 in
theorem mcl_0 : mClP 0 (RJ6, TJ6, 1) := ⟨mcl_ws (by decide +kernel), tyJ6_ok, nmJ6, mTBL_of (k := 1026) (by decide +kernel) rfl, mTBL_of (k := 77) (by decide +kernel) rfl⟩
set_option maxRecDepth 100000 in
theorem mcl_1 : mClP 1 (RJx4a65c, TJx4a65c, 3) := ⟨mcl_ws (by decide +kernel), tyJx4a65c_ok, nmJx4a65c, mTBL_of (k := 951) (by decide +kernel) rfl, mTBL_of (k := 70) (by decide +kernel) rfl⟩
set_option maxRecDepth 100000 in
theorem mcl_2 : mClP 2 (RX0, TX0, 4) := ⟨mcl_ws (by decide +kernel), tyX0_ok, nmX0, mTBL_of (k := 225) (by decide +kernel) rfl, mTBL_of (k := 66) (by decide +kernel) rfl⟩
set_option maxRecDepth 100000 in
theorem mcl_3 : mClP 3 (RX2, TX2, 1) := ⟨mcl_ws (by decide +kernel), tyX2_ok, nmX2, mTBL_of (k := 106) (by decide +kernel) rfl, mTBL_of (k := 62) (by decide +kernel) rfl⟩
set_option maxRecDepth 100000 in
theorem mcl_4 : mClP 4 (RX3, TX3, 14) := ⟨mcl_ws (by decide +kernel), tyX3_ok, nmX3, mTBL_of (k := 160) (by decide +kernel) rfl, mTBL_of (k := 65) (by decide +kernel) rfl⟩
set_option maxRecDepth 100000 in
theorem mcl_5 : mClP 5 (RX4, TX4, 13) := ⟨mcl_ws (by decide +kernel), tyX4_ok, nmX4, mTBL_of (k := 154) (by decide +kernel) rfl, mTBL_of (k := 64) (by decide +kernel) rfl⟩
set_option maxRecDepth 100000 in
theorem mcl_6 : mClP 6 (RX5, TX5, 2) := ⟨mcl_ws (by decide +kernel), tyX5_ok, nmX5, mTBL_of (k := 100) (by decide +kernel) rfl, mTBL_of (k := 61) (by decide +kernel) rfl⟩
set_option maxRecDepth 100000 in
theorem mcl_7 : mClP 7 (RX6, TX6, 3) := ⟨mcl_ws (by decide +kernel), tyX6_ok, nmX6, mTBL_of (k := 127) (by decide +kernel) rfl, mTBL_of (k := 63) (by decide +kernel) rfl⟩
set_option maxRecDepth 100000 in
theorem mcl_8 : mClP 8 (RX7, TX7, 7) := ⟨mcl_ws (by decide +kernel), tyX7_ok, nmX7, mTBL_of (k := 92) (by decide +kernel) rfl, mTBL_of (k := 60) (by decide +kernel) rfl⟩
set_option maxRecDepth 100000 in
theorem mcl_9 : mClP 9 (RX8, TX8, 3) := ⟨mcl_ws (by decide +kernel), tyX8_ok, nmX8, mTBL_of (k := 1248) (by decide +kernel) rfl, mTBL_of (k := 90) (by decide +kernel) rfl⟩
set_option maxRecDepth 100000 in
theorem mcl_10 : mClP 10 (RX9, TX9, 3) := ⟨mcl_ws (by decide +kernel), tyX9_ok, nmX9, mTBL_of (k := 1175) (by decide +kernel) rfl, mTBL_of (k := 86) (by decide +kernel) rfl⟩
set_option maxRecDepth 100000 in
theorem mcl_11 : mClP 11 (RX10, TX10, 2) := ⟨mcl_ws (by decide +kernel), tyX10_ok, nmX10, mTBL_of (k := 1202) (by decide +kernel) rfl, mTBL_of (k := 87) (by decide +kernel) rfl⟩
set_option maxRecDepth 100000 in
theorem mcl_12 : mClP 12 (RX11, TX11, 10) := ⟨mcl_ws (by decide +kernel), tyX11_ok, nmX11, mTBL_of (k := 1165) (by decide +kernel) rfl, mTBL_of (k := 85) (by decide +kernel) rfl⟩
set_option maxRecDepth 100000 in
theorem mcl_13 : mClP 13 (RX12, TX12, 5) := ⟨mcl_ws (by decide +kernel), tyX12_ok, nmX12, mTBL_of (k := 945) (by decide +kernel) rfl, mTBL_of (k := 67) (by decide +kernel) rfl⟩
theorem mCl_ok {ci : Nat} {r : vw_C} (h : mCl[ci]? = some r) : mClP ci r := by
  match ci, h with
  | 0, h => cases h; exact mcl_0
  | 1, h => cases h; exact mcl_1
  | 2, h => cases h; exact mcl_2
  | 3, h => cases h; exact mcl_3
  | 4, h => cases h; exact mcl_4
  | 5, h => cases h; exact mcl_5
  | 6, h => cases h; exact mcl_6
  | 7, h => cases h; exact mcl_7
  | 8, h => cases h; exact mcl_8
  | 9, h => cases h; exact mcl_9
  | 10, h => cases h; exact mcl_10
  | 11, h => cases h; exact mcl_11
  | 12, h => cases h; exact mcl_12
  | 13, h => cases h; exact mcl_13
  | k + 14, h => simp [mCl] at h
end
section
/-! ===== the list of objects as a world of the kit ===== -/
def trA (ad : Nat → Nat) (a : vp_A) : vp_A := match a.2 with
  | .inr (.inr (.inr (.inr f))) => (a.1, .inr (.inr (.inr (.inr (fun i => (f i).map ad)))))
  | x => (a.1, x)
def trO (cy : Nat → ClassId) (ad : Nat → Nat) (o : mO) : va_E := match o with
  | .inl x => .inl (cy x.1, trA ad x.2)
  | .inr x => .inr (x.1, x.2.map (trV ad))
def mW (cy : Nat → ClassId) (ad : Nat → Nat) (X : Nat) (h : List mO) : va_W := h.mapIdx (fun i o => (ad (X + i), trO cy ad o))
def mT (cy : Nat → ClassId) : List (ClassId × FieldType) := mTys.mapIdx (fun i ty => (cy i, ty))
theorem mT_get {cy : Nat → ClassId} {t : Nat} {ty : FieldType} (h : mTys[t]? = some ty) : (mT cy)[t]? = some (cy t, ty) := by simp [mT, List.getElem?_mapIdx, h]
theorem mW_get {cy : Nat → ClassId} {ad : Nat → Nat} {X : Nat} {h : List mO} {i : Nat} {o : mO} (hi : h[i]? = some o) : (mW cy ad X h)[i]? = some (ad (X + i), trO cy ad o) := by simp [mW, List.getElem?_mapIdx, hi]
theorem mW_of {cy : Nat → ClassId} {ad : Nat → Nat} {X : Nat} {h : List mO} {i : Nat} {q : Nat × va_E} (hq : (mW cy ad X h)[i]? = some q) : ∃ o, h[i]? = some o ∧ q = (ad (X + i), trO cy ad o) := by
  simp only [mW, List.getElem?_mapIdx, Option.map_eq_some_iff] at hq
  obtain ⟨o, h1, h2⟩ := hq
  exact ⟨o, h1, h2.symm⟩
theorem mW_len {cy : Nat → ClassId} {ad : Nat → Nat} {X : Nat} {h : List mO} : (mW cy ad X h).length = h.length := by simp [mW]
theorem mW_set {cy : Nat → ClassId} {ad : Nat → Nat} {X : Nat} {h : List mO} {i : Nat} {o : mO} : (mW cy ad X h).set i (ad (X + i), trO cy ad o) = mW cy ad X (h.set i o) := by
  apply List.ext_getElem?
  intro k
  rw [List.getElem?_set]
  simp only [mW, List.getElem?_mapIdx, List.getElem?_set, List.length_mapIdx]
  by_cases hk : i = k
  · subst hk
    simp only [if_true]
    split <;> simp_all
  · simp [hk]
theorem mW_push {cy : Nat → ClassId} {ad : Nat → Nat} {X : Nat} {h : List mO} {o : mO} : mW cy ad X (h ++ [o]) = mW cy ad X h ++ [(ad (X + h.length), trO cy ad o)] := by simp [mW, List.mapIdx_append]
/-! what is not beyond the list's end -/
def wfV (n : Nat) (v : Value) : Prop := match v with
  | .ref a => a < n
  | _ => True
def wfA (n : Nat) (a : vp_A) : Prop := match a.2 with
  | .inr (.inr (.inr (.inr f))) => ∀ i q : Nat, f i = some q → q < n
  | _ => True
def wfO (n : Nat) (o : mO) : Prop := match o with
  | .inl x => wfA n x.2
  | .inr x => ∀ v ∈ x.2, wfV n v
def wfH (X : Nat) (h : List mO) : Prop := ∀ o ∈ h, wfO (X + h.length) o
def wfL (n : Nat) (st : List Value) : Prop := ∀ v ∈ st, wfV n v
def wfLv (n : Nat) (lv : mLv) : Prop := ∀ q ∈ lv, wfV n q.2
def agr (n : Nat) (ad ad' : Nat → Nat) : Prop := ∀ i, i < n → ad' i = ad i
theorem agr.rf {n : Nat} {ad : Nat → Nat} : agr n ad ad := fun _ _ => rfl
theorem agr.tr {n n' : Nat} {ad ad' ad'' : Nat → Nat} (h1 : agr n ad ad') (hn : n ≤ n') (h2 : agr n' ad' ad'') : agr n ad ad'' := fun i hi => (h2 i (Nat.lt_of_lt_of_le hi hn)).trans (h1 i hi)
theorem trV_agr {n : Nat} {ad ad' : Nat → Nat} {v : Value} (h : wfV n v) (ha : agr n ad ad') : trV ad' v = trV ad v := by
  cases v with
  | ref a => exact congrArg Value.ref (ha a h)
  | _ => rfl
theorem map_agr {n : Nat} {ad ad' : Nat → Nat} {st : List Value} (h : wfL n st) (ha : agr n ad ad') : st.map (trV ad') = st.map (trV ad) := List.map_congr_left fun v hv => trV_agr (h v hv) ha
theorem trL_agr {n : Nat} {ad ad' : Nat → Nat} {lv : mLv} (h : wfLv n lv) (ha : agr n ad ad') : trL ad' lv = trL ad lv := List.map_congr_left fun q hq => by rw [trV_agr (h q hq) ha]
theorem trA_agr {n : Nat} {ad ad' : Nat → Nat} {a : vp_A} (h : wfA n a) (ha : agr n ad ad') : trA ad' a = trA ad a := by
  obtain ⟨k, f | f | f | f | f⟩ := a
  · rfl
  · rfl
  · rfl
  · rfl
  · simp only [trA]
    congr 5
    funext i
    cases hi : f i with
    | none => rfl
    | some q => exact congrArg some (ha q (h i q hi))
theorem trO_agr {n : Nat} {cy : Nat → ClassId} {ad ad' : Nat → Nat} {o : mO} (h : wfO n o) (ha : agr n ad ad') : trO cy ad' o = trO cy ad o := by
  cases o with
  | inl x => exact congrArg (fun z => Sum.inl (cy x.1, z)) (trA_agr h ha)
  | inr x => exact congrArg (fun z => Sum.inr (x.1, z)) (map_agr h ha)
theorem mW_agr {X : Nat} {cy : Nat → ClassId} {ad ad' : Nat → Nat} {h : List mO} (hw : wfH X h) (ha : agr (X + h.length) ad ad') : mW cy ad' X h = mW cy ad X h := by
  apply List.ext_getElem?
  intro k
  simp only [mW, List.getElem?_mapIdx]
  cases hk : h[k]? with
  | none => rfl
  | some o =>
    have hl : k < h.length := (List.getElem?_eq_some_iff.mp hk).1
    simp only [Option.map_some]
    rw [trO_agr (hw o (List.mem_of_getElem? hk)) ha, ha (X + k) (by omega)]
theorem wfV.up {n n' : Nat} (hn : n ≤ n') {v : Value} (h : wfV n v) : wfV n' v := by
  cases v with
  | ref a => exact Nat.lt_of_lt_of_le h hn
  | _ => trivial
theorem wfL.up {n n' : Nat} (hn : n ≤ n') {st : List Value} (h : wfL n st) : wfL n' st := fun v hv => (h v hv).up hn
theorem wfLv.up {n n' : Nat} (hn : n ≤ n') {lv : mLv} (h : wfLv n lv) : wfLv n' lv := fun q hq => (h q hq).up hn
theorem wfA.up {n n' : Nat} (hn : n ≤ n') {a : vp_A} (h : wfA n a) : wfA n' a := by
  obtain ⟨k, f | f | f | f | f⟩ := a
  · trivial
  · trivial
  · trivial
  · trivial
  · exact fun i q hq => Nat.lt_of_lt_of_le (h i q hq) hn
theorem wfO.up {n n' : Nat} (hn : n ≤ n') {o : mO} (h : wfO n o) : wfO n' o := by
  cases o with
  | inl x => exact wfA.up hn h
  | inr x => exact fun v hv => (h v hv).up hn
theorem wfH.push {X : Nat} {h : List mO} {o : mO} (hw : wfH X h) (ho : wfO (X + (h.length + 1)) o) : wfH X (h ++ [o]) := by
  intro x hx
  rw [List.length_append, List.length_singleton]
  rcases List.mem_append.mp hx with h1 | h1
  · exact (hw x h1).up (by omega)
  · rw [List.mem_singleton.mp h1]
    exact ho
theorem wfH.set {X : Nat} {h : List mO} {i : Nat} {o : mO} (hw : wfH X h) (ho : wfO (X + h.length) o) : wfH X (h.set i o) := by
  intro x hx
  rw [List.length_set]
  rcases List.mem_or_eq_of_mem_set hx with h1 | h1
  · exact hw x h1
  · rw [h1]
    exact ho
theorem mget_at {X : Nat} {h : List mO} {a : Nat} {o : mO} (hg : mget X h a = some o) : X ≤ a ∧ h[a - X]? = some o := by
  unfold mget at hg
  split at hg
  · cases hg
  · exact ⟨by omega, hg⟩
theorem mget_W {cy : Nat → ClassId} {ad : Nat → Nat} {X : Nat} {h : List mO} {a : Nat} {o : mO} (hg : mget X h a = some o) : (mW cy ad X h)[a - X]? = some (ad a, trO cy ad o) := by
  obtain ⟨h1, h2⟩ := mget_at hg
  have h3 := mW_get (cy := cy) (ad := ad) (X := X) h2
  rwa [show X + (a - X) = a by omega] at h3
theorem mset_W {cy : Nat → ClassId} {ad : Nat → Nat} {X : Nat} {h : List mO} {a : Nat} {o o' : mO} (hg : mget X h a = some o) : (mW cy ad X h).set (a - X) (ad a, trO cy ad o') = mW cy ad X (h.set (a - X) o') := by
  obtain ⟨h1, h2⟩ := mget_at hg
  have h3 := mW_set (cy := cy) (ad := ad) (X := X) (h := h) (i := a - X) (o := o')
  rwa [show X + (a - X) = a by omega] at h3
theorem wf_get {X : Nat} {h : List mO} {a : Nat} {o : mO} (hw : wfH X h) (hg : mget X h a = some o) : wfO (X + h.length) o := hw o (List.mem_of_getElem? (mget_at hg).2)
theorem mdef_v {a N j : Nat} (hj : j < N) : defaultValue (mfty a j) = vp_V (mdef a N) j := by
  simp [vp_V, mdef, List.getD_eq_getElem?_getD, hj]
theorem mdef_wf {n a N : Nat} : wfL n (mdef a N) := by
  intro v hv
  obtain ⟨k, -, rfl⟩ := List.mem_map.mp hv
  cases mfty a k <;> trivial
theorem mdef_tr {ad : Nat → Nat} {a N : Nat} : (mdef a N).map (trV ad) = mdef a N := by
  unfold mdef
  rw [List.map_map]
  apply List.map_congr_left
  intro k _
  cases h : mfty a k <;> simp [Function.comp, h, defaultValue, trV]
theorem narrow_tr {ty : FieldType} {ad : Nat → Nat} {v : Value} (h : narrow ty v = v) : narrow ty (trV ad v) = trV ad v := by
  cases v with
  | ref a => cases ty <;> rfl
  | _ => exact h
theorem fits_tr {ty : FieldType} {ad : Nat → Nat} {v : Value} (h : fits ty v = true) : fits ty (trV ad v) = true := by
  cases v with
  | ref a => cases ty <;> first | exact h | rfl
  | _ => exact h
/-- the outer rows, and the statics that hold them -/
def mEx (E : mE) (ad : Nat → Nat) (A : Nat → Prop) (U : State) (H : Heap) : Prop :=
  (∀ (i : Nat) (x : Nat × (Nat → Int32)), E[i]? = some x → va_T .int (ad i) x.1 (fun j => .int (x.2 j)) A U H) ∧ ∀ z ∈ mStat, va_Z z.1 z.2.1 z.2.2.1 (.ref (ad z.2.2.2)) A U H
theorem mEx.moved {E : mE} {ad : Nat → Nat} {A : Nat → Prop} {u U : State} {H : Heap} (hvm : u.vm.Alike U.vm) (h : mEx E ad A u H) : mEx E ad A U H := ⟨fun i x hi => (h.1 i x hi).moved hvm, fun z hz => (h.2 z hz).moved hvm⟩
theorem mEx.kept {E : mE} {ad : Nat → Nat} {A : Nat → Prop} {U : State} {H H1 : Heap} (h : mEx E ad A U H) (hq : ∀ a : Nat, a < H.size → ¬ A a → H1[a]? = H[a]?) : mEx E ad A U H1 := ⟨fun i x hi => (h.1 i x hi).kept hq, fun z hz => (h.2 z hz).kept hq⟩
theorem mEx.narrow {E : mE} {ad : Nat → Nat} {A B : Nat → Prop} {U : State} {H : Heap} (h : mEx E ad A U H) (hAB : ∀ q, B q → A q) : mEx E ad B U H := ⟨fun i x hi => (h.1 i x hi).narrow hAB, fun z hz => (h.2 z hz).narrow hAB⟩
theorem mEx.agr {E : mE} {ad ad' : Nat → Nat} {A : Nat → Prop} {U : State} {H : Heap} (h : mEx E ad A U H) (hE : E.length = 2) (ha : agr 2 ad ad') : mEx E ad' A U H := by
  refine ⟨fun i x hi => ?_, fun z hz => ?_⟩
  · have hl : i < E.length := (List.getElem?_eq_some_iff.mp hi).1
    rw [ha i (by omega)]
    exact h.1 i x hi
  · have h1 := h.2 z hz
    have h2 : z.2.2.2 < 2 := by
      have : ∀ z ∈ mStat, z.2.2.2 < 2 := by decide
      exact this z hz
    rw [ha _ h2]
    exact h1
end
section
/-! ===== the heap's instructions are the true machine's ===== -/
theorem hfalse {P : Prop} {α : Type} {x : α} (h : (none : Option α) = some x) : P := by cases h
section MH
variable {p : Program} {l : Launch} {e : Env} {R : Room} {s : State} {m : MethodId} {args : Array Value} {below : List Frame} {meth : Method} {c : Code} {H : Heap} {locs : List Loc} {Q : State → Prop}
set_option maxHeartbeats 4000000 in
theorem sd_heap {cc : ByteArray} (hx : p.tables.exec = Jvm.exec) (hb : c.code = cc) (hts : ∀ w ∈ mTBL, w.before args s = true) {own : String} (hown : s.vm.findClass own = some m.cls) {init : Bool} (hini : init = true → meth.name = "<init>") {E : mE} (hE2 : E.length = 2)
    {D : va_G} {cy : Nat → ClassId} {A : Nat → Prop} {ad : Nat → Nat} {i : mIns} {st st' : List Value} {h h' : mH} {pc' : Nat} {ls : Array Slot} (hck : mchk own init i = true) (hd : decode cc i.1 = .ok (i.2.1, mlen i.2.1 i.2.2.1))
    (hK : va_K D mCl (mT cy) s) (hP : va_P D mCl (mW cy ad E.length h.1) H) (hD : va_D A (mW cy ad E.length h.1)) (hS : va_S A s.heap H locs) (hA : ∀ q, s.heap.size ≤ q → A q) (hE : mEx E ad A s s.heap) (hw : wfH E.length h.1) (hws : wfL (E.length + h.1.length) st)
    (hs : mheap E i st h = some (pc', st', h')) (hR : h'.2.1 ≤ R.cells ∧ h'.2.2 ≤ R.slots)
    (harr : ∀ ty : FieldType, ty ∈ mTys → (Cond.arrayClass ty).before args s = true)
    (kk : ∀ (ad' : Nat → Nat) (H' : Heap) (locs' : List Loc), agr (E.length + h.1.length) ad ad' → va_P D mCl (mW cy ad' E.length h'.1) H' → va_D A (mW cy ad' E.length h'.1) → va_S A s.heap H' locs' → wfH E.length h'.1 → wfL (E.length + h'.1.length) st' → h.1.length ≤ h'.1.length → W p l e R s m args below meth c H' locs' h'.2.1 h'.2.2 Q (F0 m pc' ls (st'.map (trV ad')))) :
    W p l e R s m args below meth c H locs h.2.1 h.2.2 Q (F0 m i.1 ls (st.map (trV ad))) := by
  obtain ⟨pc, i, n, a, b, k⟩ := i
  obtain ⟨h, nc, ns⟩ := h
  dsimp only at *
  cases i
  case getfield idx =>
    simp only [mheap] at hs; split at hs
    · rename_i q r; split at hs
      · rename_i o ho; split at hs
        · rename_i hoa; split at hs
          · rename_i cl hcl; split at hs
            · rename_i v hv; cases hs
              obtain ⟨C, T, N⟩ := cl
              obtain ⟨h1, h2, h3, h4, h5⟩ := mCl_ok hcl
              simp only [mchk, hcl, Bool.and_eq_true, decide_eq_true_eq] at hck
              have hv' : (o.2.map (trV ad))[b]? = some (trV ad v) := by rw [List.getElem?_map, hv]; rfl
              have hgo := mget_W (cy := cy) (ad := ad) ho
              refine va_get hx hb hts h1 hown hK hP _ hgo (by rw [hoa]; exact hcl) b hck.1 (hts _ (mTBL_of hck.2 rfl)) (fun _ h9 => h9) hv' hd (kk ad H locs agr.rf hP hD hS hw ?_ (Nat.le_refl _))
              intro v' hv9
              rcases List.mem_cons.mp hv9 with e1 | e1
              · rw [e1]; exact wf_get hw ho v (List.mem_of_getElem? hv)
              · exact hws v' (List.mem_cons_of_mem _ e1)
            · exact hfalse hs
          · exact hfalse hs
        · exact hfalse hs
      · exact hfalse hs
    · exact hfalse hs
  case putfield idx =>
    simp only [mheap] at hs; split at hs
    · rename_i v q r; split at hs
      · rename_i o ho; split at hs
        · rename_i hoa; split at hs
          · rename_i cl hcl; split at hs
            · rename_i hcond; obtain ⟨hlen, hnar, hfit⟩ := hcond
              cases hs
              obtain ⟨C, T, N⟩ := cl
              obtain ⟨h1, h2, h3, h4, h5⟩ := mCl_ok hcl
              simp only [mchk, hcl, Bool.and_eq_true, Bool.or_eq_true, decide_eq_true_eq] at hck
              obtain ⟨hbN, hlk, hfin⟩ := hck
              have hgo := mget_W (cy := cy) (ad := ad) ho
              have hwv : wfV (E.length + h.length) v := hws v List.mem_cons_self
              have hwr : wfL (E.length + h.length) st' := fun x hx9 => hws x (List.mem_cons_of_mem _ (List.mem_cons_of_mem _ hx9))
              have hw2 : wfH E.length (h.set (q - E.length) (.inr (o.1, o.2.set b v))) := wfH.set hw (by
                intro x hx9
                rcases List.mem_or_eq_of_mem_set hx9 with e1 | e1
                · exact wf_get hw ho x e1
                · rw [e1]; exact hwv)
              have he : (mW cy ad E.length h).set (q - E.length) (ad q, .inr (o.1, (o.2.map (trV ad)).set b (trV ad v))) = mW cy ad E.length (h.set (q - E.length) (.inr (o.1, o.2.set b v))) := by
                rw [← mset_W ho]
                simp only [trO, List.map_set]
              have kk' : ∀ (H1 : Heap) (locs1 : List Loc), va_P D mCl ((mW cy ad E.length h).set (q - E.length) (ad q, .inr (o.1, (o.2.map (trV ad)).set b (trV ad v)))) H1 → va_D A ((mW cy ad E.length h).set (q - E.length) (ad q, .inr (o.1, (o.2.map (trV ad)).set b (trV ad v)))) → va_S A s.heap H1 locs1 → W p l e R s m args below meth c H1 locs1 nc ns Q (F0 m (pc + 3) ls (st'.map (trV ad))) := by
                intro H1 locs1 hP1 hD1 hS1
                rw [he] at hP1 hD1
                exact kk ad H1 locs1 agr.rf hP1 hD1 hS1 hw2 (by rw [List.length_set]; exact hwr) (by rw [List.length_set]; exact Nat.le_refl _)
              rcases hfin with hfin | hfin
              · exact va_put hx hb hts h1 (mfty a) h2 h3 hown hK hP hD hS _ hgo (by rw [hoa]; exact hcl) b hbN (hts _ (mTBL_of hlk rfl)) (fun _ h9 => h9) hfin (h2 b hbN) (narrow_tr hnar) (fits_tr hfit) (by rw [List.length_map]; exact hlen) hd kk'
              · exact va_putF hx hb hts h1 (mfty a) h2 h3 hown hK hP hD hS _ hgo (by rw [hoa]; exact hcl) b hbN (hts _ (mTBL_of hlk rfl)) (fun _ h9 => h9) hfin.1.1 (hini hfin.1.2) hfin.2 (h2 b hbN) (narrow_tr hnar) (fits_tr hfit) (by rw [List.length_map]; exact hlen) hd kk'
            · exact hfalse hs
          · exact hfalse hs
        · exact hfalse hs
      · exact hfalse hs
    · exact hfalse hs
  case iaload =>
    simp only [mheap] at hs; split at hs
    · rename_i i q r
      have hwr : ∀ z : Int32, wfL (E.length + h.length) (.int z :: r) := fun z x hx9 => by
        rcases List.mem_cons.mp hx9 with e1 | e1
        · rw [e1]; trivial
        · exact hws x (List.mem_cons_of_mem _ (List.mem_cons_of_mem _ e1))
      split at hs
      · split at hs
        · rename_i x hxe; split at hs
          · exact hfalse hs
          · rename_i hin; cases hs
            exact va_ti hx hb (hE.1 q x hxe) hS hin rfl hd (kk ad H locs agr.rf hP hD hS hw (hwr _) (Nat.le_refl _))
        · exact hfalse hs
      · split at hs
        · rename_i N f hg; split at hs
          · exact hfalse hs
          · rename_i hin; cases hs
            exact va_iald hx hb hK hP _ 0 (mget_W (cy := cy) (ad := ad) hg) (mT_get rfl) hin hd (kk ad H locs agr.rf hP hD hS hw (hwr _) (Nat.le_refl _))
        · exact hfalse hs
    · exact hfalse hs
  case iastore =>
    simp only [mheap] at hs; split at hs
    · rename_i x i q r; split at hs
      · rename_i N f hg; split at hs
        · exact hfalse hs
        · rename_i hin; cases hs
          refine va_iast hx hb hK hP hD hS _ 0 (mget_W (cy := cy) (ad := ad) hg) (mT_get rfl) hin hd (fun H1 locs1 hP1 hD1 hS1 => ?_)
          have he : (mW cy ad E.length h).set (q - E.length) (ad q, .inl (cy 0, N, .inl (upd f i.toNatClampNeg x))) = mW cy ad E.length (h.set (q - E.length) (.inl (0, N, .inl (upd f i.toNatClampNeg x)))) := by
            rw [← mset_W hg]; rfl
          rw [he] at hP1 hD1
          exact kk ad H1 locs1 agr.rf hP1 hD1 hS1 (wfH.set hw trivial) (by rw [List.length_set]; exact fun y hy => hws y (List.mem_cons_of_mem _ (List.mem_cons_of_mem _ (List.mem_cons_of_mem _ hy)))) (by rw [List.length_set]; exact Nat.le_refl _)
      · exact hfalse hs
    · exact hfalse hs
  case arraylength =>
    simp only [mheap] at hs; split at hs
    · rename_i q r
      have hwr : ∀ z : Int32, wfL (E.length + h.length) (.int z :: r) := fun z x hx9 => by
        rcases List.mem_cons.mp hx9 with e1 | e1
        · rw [e1]; trivial
        · exact hws x (List.mem_cons_of_mem _ e1)
      split at hs
      · split at hs
        · rename_i x hxe; cases hs
          exact va_tlen hx hb (hE.1 q x hxe) hS rfl hd (kk ad H locs agr.rf hP hD hS hw (hwr _) (Nat.le_refl _))
        · exact hfalse hs
      · split at hs
        · rename_i x hg; split at hs
          · rename_i ty hty; cases hs
            have hgo := mget_W (cy := cy) (ad := ad) hg
            refine va_alen hx hb hK hP _ x.1 (x := trA ad x.2) hgo (mT_get hty) ?_ hd (kk ad H locs agr.rf hP hD hS hw (hwr _) (Nat.le_refl _))
            obtain ⟨t, N, f | f | f | f | f⟩ := x <;> rfl
          · exact hfalse hs
        · exact hfalse hs
    · exact hfalse hs
  case new idx =>
    simp only [mheap] at hs; split at hs
    · rename_i cl hcl; cases hs
      obtain ⟨C, T, N⟩ := cl
      obtain ⟨h1, h2, h3, h4, h5⟩ := mCl_ok hcl
      simp only [mchk, hcl, decide_eq_true_eq] at hck
      refine va_new (ci := a) hx hb hts h1 (mfty a) h2 hown (hts _ (mTBL_of hck rfl)) (hts _ h4) (hts _ h5) hK hP hD hS hA hcl (fs := mdef a N) (fun j hj => mdef_v hj) hR.1 hR.2 hd (fun q H1 hP1 hD1 hS1 => ?_)
      have hag : agr (E.length + h.length) ad (fun j => if j = E.length + h.length then q else ad j) := fun j hj => if_neg (by omega)
      have he : mW cy ad E.length h ++ [(q, .inr (a, mdef a N))] = mW cy (fun j => if j = E.length + h.length then q else ad j) E.length (h ++ [.inr (a, mdef a N)]) := by
        rw [mW_push, mW_agr hw hag]
        simp only [trO, mdef_tr, if_true]
      rw [he] at hP1 hD1
      have hk := kk _ H1 locs hag hP1 hD1 hS1 (wfH.push hw mdef_wf) (by
        rw [List.length_append, List.length_singleton]
        intro y hy
        rcases List.mem_cons.mp hy with e1 | e1
        · rw [e1]; show E.length + h.length < E.length + (h.length + 1); omega
        · exact (hws y e1).up (by omega)) (by rw [List.length_append]; exact Nat.le_add_right _ _)
      rw [List.map_cons, map_agr hws hag] at hk
      simpa only [trV, if_true] using hk
    · exact hfalse hs
  case newarray ty =>
    simp only [mheap] at hs; split at hs
    · rename_i z r; split at hs
      · exact hfalse hs
      · rename_i hz; split at hs
        · rename_i hz8; split at hs
          · rename_i hty; split at hs
            · rename_i x hx9; cases hs
              have hN : ∀ cA : ClassId, vp_cell cA x = arrV cA z.toNatClampNeg (fun _ => defaultValue (newarray.typeOf ty)) := by
                intro cA
                match a, hx9, hty with
                | 0, hx9, hty => cases hx9; rw [← Option.some.inj hty]; rfl
                | 1, hx9, hty => cases hx9; rw [← Option.some.inj hty]; rfl
                | 2, hx9, hty => cases hx9; rw [← Option.some.inj hty]; rfl
              have htr : ∀ ad' : Nat → Nat, trA ad' x = x := by
                intro ad'
                match a, hx9 with
                | 0, hx9 => cases hx9; rfl
                | 1, hx9 => cases hx9; rfl
                | 2, hx9 => cases hx9; rfl
              have hwx : ∀ n9 : Nat, wfA n9 x := by
                intro n9
                match a, hx9 with
                | 0, hx9 => cases hx9; trivial
                | 1, hx9 => cases hx9; trivial
                | 2, hx9 => cases hx9; trivial
              have hwr : wfL (E.length + h.length) r := fun y hy => hws y (List.mem_cons_of_mem _ hy)
              have hmem : newarray.typeOf ty ∈ mTys := List.mem_of_getElem? hty
              refine va_newa hx hb (harr _ hmem) rfl hK hP hD hS hA hN hz rfl ?_ hR.1 hR.2 hd (fun q cA H1 hK1 hP1 hD1 hS1 => ?_)
              · have hcb : componentBytes (newarray.typeOf ty) ≤ 8 := by cases ty <;> decide
                exact Nat.le_trans (Nat.mul_le_mul_left _ hcb) hz8
              · have hcA : cA = cy a := by
                  have e1 := (hK1.2 (mT cy).length (cA, newarray.typeOf ty) (by rw [List.getElem?_append_right (Nat.le_refl _), Nat.sub_self]; rfl)).2
                  have e2 := (hK.2 a _ (mT_get (cy := cy) hty)).2
                  cases ty <;> exact Option.some.inj ((show s.vm.findClass _ = some cA from e1).symm.trans e2)
                subst hcA
                have hag : agr (E.length + h.length) ad (fun j => if j = E.length + h.length then q else ad j) := fun j hj => if_neg (by omega)
                have he : mW cy ad E.length h ++ [(q, .inl (cy a, x))] = mW cy (fun j => if j = E.length + h.length then q else ad j) E.length (h ++ [.inl (a, x)]) := by
                  rw [mW_push, mW_agr hw hag]
                  simp only [trO, htr, if_true]
                rw [he] at hP1 hD1
                have hk := kk _ H1 locs hag hP1 hD1 hS1 (wfH.push hw (hwx _)) (by
                  rw [List.length_append, List.length_singleton]
                  intro y hy
                  rcases List.mem_cons.mp hy with e1 | e1
                  · rw [e1]; show E.length + h.length < E.length + (h.length + 1); omega
                  · exact (hwr y e1).up (by omega)) (by rw [List.length_append]; exact Nat.le_add_right _ _)
                rw [List.map_cons, map_agr hwr hag] at hk
                simpa only [trV, if_true] using hk
            · exact hfalse hs
          · exact hfalse hs
        · exact hfalse hs
    · exact hfalse hs
  case ldc idx =>
    simp only [mheap] at hs; split at hs
    · rename_i h0; cases hs
      simp only [mchk, h0, if_true, decide_eq_true_eq] at hck
      exact lv_ldc hx hb hown (hts _ (mTBL_of hck rfl)) hd (kk ad H locs agr.rf hP hD hS hw (fun y hy => by
        rcases List.mem_cons.mp hy with e1 | e1
        · rw [e1]; trivial
        · exact hws y e1) (Nat.le_refl _))
    · exact hfalse hs
  case ldc2_w idx =>
    simp only [mheap] at hs; split at hs
    · rename_i h0; cases hs
      simp only [mchk, h0, if_true, decide_eq_true_eq] at hck
      exact lv_ldc2 hx hb hown (hts _ (mTBL_of hck rfl)) hd (kk ad H locs agr.rf hP hD hS hw (fun y hy => by
        rcases List.mem_cons.mp hy with e1 | e1
        · rw [e1]; trivial
        · exact hws y e1) (Nat.le_refl _))
    · exact hfalse hs
  case getstatic idx =>
    simp only [mheap] at hs; split at hs
    · rename_i h0; cases hs
      rw [hE2] at h0
      simp only [mchk, h0, if_true, List.any_eq_true, Bool.and_eq_true, decide_eq_true_eq] at hck
      obtain ⟨z, hz, hza, hlk⟩ := hck
      have hZ := hE.2 z hz
      rw [hza] at hZ
      exact va_gets hx hb hZ hS hown (hts _ (mTBL_of hlk rfl)) (fun _ h9 => h9) hd (kk ad H locs agr.rf hP hD hS hw (fun y hy => by
        rcases List.mem_cons.mp hy with e1 | e1
        · rw [e1]; show a < E.length + h.length; omega
        · exact hws y e1) (Nat.le_refl _))
    · exact hfalse hs
  all_goals (simp only [mheap] at hs; exact hfalse hs)
end MH
end
